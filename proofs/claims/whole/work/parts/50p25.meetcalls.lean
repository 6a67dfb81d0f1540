/-! calls that ask about meetings -/
theorem Inv.rr {M M' : jT} (h : Inv M) (f : RFr M M') (hR : RC M') : Inv M' ∧ M' 609 = M 609 ∧ M' 608 0 = M 608 0 := ⟨h.r f.fd hR, f.2.1.1, f.z⟩
theorem Inv.pm {M : jT} {m : Int} (h : Inv M) (rm : rg m) : pg_X11_isMeeting M 608 m := pg_meet h.1.1 rm
theorem Inv.gq {M : jT} {m : Int} (h : Inv M) (hm : 0 ≤ m ∧ m < M 609 1) : GEq M (2 * m + 28) (msl (M 609) m) ∧ GOk (msl (M 609) m) := by
  have := h.1.2.2.2.2 m hm.1 hm.2
  rw [show 1 + 27 + 2 * m = 2 * m + 28 by omega] at this
  exact ⟨this, (h.1.1.2.2.2 m hm.1 hm.2).1⟩
/-- a bad meeting -/
theorem bm {M : jT} {m : Int} {P1 : jT → Prop} {Q : Int → jT → Prop} {l : List Nat} (h : Inv M) (hm : rg m) (hb : ¬ (0 ≤ m ∧ m < M 609 1)) (hl : kx l 1 = 1) (hQ : ∀ b M2, M2 608 0 = kx l 1 → Inv M2 → Q b M2) : ∀ M1 : jT, M1 = up M 608 0 0 → (pg_X11_isMeeting M1 608 m) ∧ ((pb_X11_isMeeting M1 608 m → P1 M1) ∧ (¬ (pb_X11_isMeeting M1 608 m) → wp_X11_raises M1 608 1 (fun b M2 => Q b M2))) :=
  th0 h fun M1 h1 e1 t1 => ⟨h1.pm hm, fun c => absurd (by rw [← e1]; exact mi.mp c) hb, fun _ => rs h1 fun M2 h2 t2 => hQ 0 M2 (by rw [t2, hl]) h2⟩
theorem sim_meeting {M : jT} {m w : Int} (h : Inv M) (rm : rg m) (rw' : rg w) : wp_X10_meeting M 0 m w (fun v M1 => OKq (wp_X11_meeting M1 608 m w) v) (fun e M1 => EXq (wp_X11_meeting M1 608 m w) [1, 2] e) := by
  unfold wp_X10_meeting
  refine nm h.1 rm (fun hm => ?_) (fun hm => ⟨by decide, ?_⟩)
  · have a2 := h.1.1.2.1
    obtain ⟨hge, hgo⟩ := h.gq hm
    have hn := nD_rng hgo
    simp only [Int.zero_add]
    refine ⟨fun x => x = b2i (0 ≤ w ∧ w ≤ 9), fun x ex => ?_, ¬ (0 ≤ w ∧ w ≤ 9), fun q => (b2i_f q).symm, rw', fun q => by omega, fun q1 => ⟨fun q => by omega, fun q2 => (b2i_t ⟨q1, q2⟩).symm⟩⟩
    rw [ex]
    refine na (fun c => ⟨by omega, ?_⟩) (fun c => ⟨by decide, ?_⟩)
    · have ref : ∀ (M1 : jT) (v : Int), Inv M1 → M1 609 = M 609 → (w < 5 → v = msl (M 609) m w) → (5 ≤ w → w < 8 → v = msl (M 609) m (w + 1)) → (w = 8 → v = nD (msl (M 609) m)) → (w = 9 → v = nTk (M 609) m (nD (msl (M 609) m)).toNat) → OKq (wp_X11_meeting M1 608 m w) v := by
        intro M1 v h1 e1 g1 g2 g3 g4
        unfold OKq wp_X11_meeting
        simp only [Int.reduceAdd]
        refine th0 h1 fun M2 h2 e2 t2 => ⟨h2.pm rm, fun _ => ⟨pg_in rw' ⟨by omega, by omega⟩ ⟨by omega, by omega⟩, fun _ => ⟨rw', fun c5 => ⟨fun c8 => ?_, fun c8 => ?_⟩, fun c5 => ?_⟩, fun q => absurd c q⟩, fun q => absurd (mi.mpr (by rw [e2, e1]; exact hm)) q⟩
        · have hm2 : 0 ≤ m ∧ m < M2 609 1 := by rw [e2, e1]; exact hm
          refine rc_lists h2.1.1 h2.2.2.1 hm2 fun M3 hR3 f3 hl3 => ?_
          obtain ⟨i1, i2, i3⟩ := h2.rr f3.rf hR3
          refine ⟨_, fun _ _ q => q, fun q => ?_, fun q => ?_⟩
          · have hm3 : 0 ≤ m ∧ m < M3 609 1 := by rw [i2]; exact hm2
            refine rc_placed i1.1.1 i1.2.2.1 hm3 fun M4 hR4 f4 _ => ?_
            obtain ⟨j1, j2, j3⟩ := i1.rr f4 hR4
            exact ⟨by rw [j3, i3, t2], by rw [g4 (by omega), i2, e2, e1], j1⟩
          · exact ⟨by rw [i3, t2], by rw [hl3.1, e2, e1, g3 q], i1⟩
        · refine ⟨by rw [mAt]; omega, t2, ?_, h2⟩
          rw [mAt, e2, e1, g2 (by omega) (by omega), msl_at (by omega)]; congr 1; omega
        · refine ⟨by rw [mAt]; omega, t2, ?_, h2⟩
          rw [mAt, e2, e1, g1 (by omega), msl_at (by omega)]
      have f0 : ∀ i, 0 ≤ i → i < 9 → M (2 * m + 28) i = msl (M 609) m i := hge.1
      refine ⟨rw', fun q => ref M _ h rfl (fun _ => by rw [f0 0 (by omega) (by omega), q]) (by omega) (by omega) (by omega), fun q => ref M _ h rfl (fun _ => by rw [f0 1 (by omega) (by omega), q]) (by omega) (by omega) (by omega), fun q => ref M _ h rfl (fun _ => by rw [f0 2 (by omega) (by omega), q]) (by omega) (by omega) (by omega), fun q => ref M _ h rfl (fun _ => by rw [f0 3 (by omega) (by omega), q]) (by omega) (by omega) (by omega), fun q => ref M _ h rfl (fun _ => by rw [f0 4 (by omega) (by omega), q]) (by omega) (by omega) (by omega), fun q => ref M _ h rfl (by omega) (fun _ _ => by rw [f0 6 (by omega) (by omega), q]; rfl) (by omega) (by omega), fun q => ref M _ h rfl (by omega) (fun _ _ => by rw [f0 7 (by omega) (by omega), q]; rfl) (by omega) (by omega), fun q => ref M _ h rfl (by omega) (fun _ _ => by rw [f0 8 (by omega) (by omega), q]; rfl) (by omega) (by omega), fun q => ?_, fun q => ?_⟩
      · refine cc_laidOut h.1 h.2.1 hm fun M1 f hC h0 hP => ?_
        exact ref M1 _ (h.c f.to7 hC) (f 609 (by omega)) (by omega) (by omega) (fun _ => hP.1) (by omega)
      · refine cc_timed h.1 h.2.1 hm fun M1 f hC h0 h1 hP hT hK => ?_
        have e1 : M1 609 = M 609 := f 609 (by omega)
        refine cc_countTaking (f.d1 h.1) (by rw [e1]; exact hm) (by rw [e1]; exact hP) (by rw [e1]; exact hT) (by rw [e1]; exact hK) ?_
        rw [e1]
        exact ref M1 _ (h.c f.to7 hC) e1 (by omega) (by omega) (by omega) (fun _ => rfl)
    · unfold wp_X11_meeting
      exact th0 h fun M2 h2 e2 t2 => ⟨h2.pm rm, fun _ => ⟨pg_in rw' ⟨by omega, by omega⟩ ⟨by omega, by omega⟩, fun q => absurd q c, fun _ => rs h2 fun M3 h3 t3 => ⟨by rw [t3]; rfl, h3⟩⟩, fun q => absurd (mi.mpr (by rw [e2]; exact hm)) q⟩
  · unfold wp_X11_meeting; exact bm h rm hm rfl (fun b M2 a1 a2 => ⟨a1, a2⟩)
theorem cc_occ {M : jT} {m o : Int} {Q : Int → jT → Prop} (h : Inv M) (rm : rg m) (ro : rg o)
    (k0 : (0 ≤ m ∧ m < M 609 1) → 0 ≤ o ∧ o < nD (msl (M 609) m) → ∀ M', Inv M' → M' 609 = M 609 → Q 0 M') (k1 : ¬ (0 ≤ m ∧ m < M 609 1 ∧ 0 ≤ o ∧ o < nD (msl (M 609) m)) → ∀ M', Inv M' → M' 609 = M 609 → Q 1 M') : wp_X10_occurrenceFault M 0 m o Q := by
  have a2 := h.1.1.2.1
  have e := h.1.2.2.1
  unfold wp_X10_occurrenceFault
  simp only [Int.zero_add, e]
  refine ⟨fun x M' => (x = 0 ∧ Q 1 M') ∨ (x = 1 ∧ Q 0 M'), fun x M' q => ?_, fun M' => Q 1 M', fun M' q => Or.inl ⟨rfl, q⟩, rm, fun c => k1 (by omega) M h rfl, fun c => ⟨⟨by omega, by omega⟩, fun c2 => k1 (by omega) M h rfl, fun c2 => ⟨ro, fun c3 => k1 (by omega) M h rfl, fun c3 => ?_⟩⟩⟩
  · rcases q with ⟨q, q2⟩ | ⟨q, q2⟩
    · rw [q, b2i_t rfl]; exact ⟨⟨⟨by omega, by omega⟩, fun _ => trivial, fun _ => trivial⟩, q2⟩
    · rw [q, b2i_f (by omega)]; exact ⟨⟨⟨by omega, by omega⟩, fun _ => trivial, fun _ => trivial⟩, q2⟩
  · have hn := nD_rng (h.1.1.2.2.2 m c c2).1
    refine cc_laidOut h.1 h.2.1 ⟨c, c2⟩ fun M1 f hC h0 hP => ?_
    rw [hP.1]
    exact ⟨⟨by omega, by omega⟩, fun c4 => k1 (by omega) M1 (h.c f.to7 hC) (f 609 (by omega)), fun c4 => Or.inr ⟨rfl, k0 ⟨c, c2⟩ ⟨c3, c4⟩ M1 (h.c f.to7 hC) (f 609 (by omega))⟩⟩
theorem sim_occurrence {M : jT} {m o w : Int} (h : Inv M) (rm : rg m) (ro : rg o) (rw' : rg w) : wp_X10_occurrence M 0 m o w (fun v M1 => OKq (wp_X11_occurrence M1 608 m o w) v) (fun e M1 => EXq (wp_X11_occurrence M1 608 m o w) [1, 2, 4] e) := by
  unfold wp_X10_occurrence
  refine cc_occ h rm ro (fun hm ho M1 h1 e1 => ?_) (fun hb M1 h1 e1 => ?_)
  · have a2 := h.1.1.2.1
    obtain ⟨hgo, hz0, hz1⟩ := h.1.1.2.2.2 m hm.1 hm.2
    have hn := nD_rng hgo
    have hbl := bL_rng hgo ho.1 ho.2
    have hm1 : 0 ≤ m ∧ m < M1 609 1 := by rw [e1]; exact hm
    -- the reference
    have ref : ∀ (M2 : jT) {Q : Int → jT → Prop}, Inv M2 → M2 609 = M 609 → (∀ M4, Inv M4 → M4 609 = M 609 → M4 608 0 = 0 → RLs M4 (msl (M 609) m) →
        (0 ≤ w ∧ w ≤ 5 → (w = 0 → Q (dO (msl (M 609) m) o) M4) ∧ (w = 1 → Q (bL (M 609) m o) M4) ∧ (w = 2 → Q (msl (M 609) m (9 + o)) M4) ∧ (w = 3 → (msl (M 609) m (49 + o) = 1 → Q 1 M4) ∧ (msl (M 609) m (49 + o) ≠ 1 → ∀ M5, Inv M5 → M5 608 0 = 0 → (bO (M 609) m o ≠ -1000000000 → Q 0 M5) ∧ (bO (M 609) m o = -1000000000 → Q 2 M5))) ∧ (w = 4 → (¬ (0 ≤ bL (M 609) m o ∧ bL (M 609) m o < 16830720) → Q (-1) M4) ∧ (0 ≤ bL (M 609) m o ∧ bL (M 609) m o < 16830720 → ∀ M5, Inv M5 → M5 608 0 = 0 → Q (cN (lm (zsl (M 609) (msl (M 609) m 0))) (lS (zsl (M 609) (msl (M 609) m 0))) (lF (zsl (M 609) (msl (M 609) m 0))) (bL (M 609) m o)) M5)) ∧ (w = 5 → ∀ M5, Inv M5 → M5 608 0 = 0 → (tk (M 609) m o → Q (bO (M 609) m o) M5) ∧ (¬ tk (M 609) m o → wp_X11_raises M5 608 3 Q))) ∧
        (¬ (0 ≤ w ∧ w ≤ 5) → wp_X11_raises M4 608 2 Q)) → wp_X11_occurrence M2 608 m o w Q := by
      intro M2 Q h2 e2 k
      unfold wp_X11_occurrence
      simp only [Int.reduceAdd]
      refine th0 h2 fun M3 h3 e3 t3 => ?_
      have hm3 : 0 ≤ m ∧ m < M3 609 1 := by rw [e3, e2]; exact hm
      refine rc_isOccurrence h3.1.1 h3.2.2.1 rm ro (fun M4 hR f hb => absurd ⟨hm3.1, hm3.2, ho.1, by rw [e3, e2]; exact ho.2⟩ hb) (fun M4 hR4 f4 _ _ hl4 => ?_)
      obtain ⟨i1, i2, i3⟩ := h3.rr f4.rf hR4
      have e4 : M4 609 = M 609 := by rw [i2, e3, e2]
      rw [e3, e2] at hl4
      obtain ⟨k1, k2⟩ := k M4 i1 e4 (by rw [i3, t3]) hl4
      refine ⟨⟨by omega, by omega⟩, fun _ => ⟨pg_in rw' ⟨by omega, by omega⟩ ⟨by omega, by omega⟩, fun cw => ?_, fun cw => k2 cw⟩, fun q => by omega⟩
      obtain ⟨g0, g1, g2, g3, g4, g5⟩ := k1 cw
      obtain ⟨p1, p2, p3, p4⟩ := r_local i1.1.1 (m := m) (o := o) (by rw [e4]; exact hm) (by rw [e4]; exact hl4) (by rw [e4]; exact ho)
      rw [e4] at p2
      intro x12 e12
      rw [mAt] at e12
      refine ⟨p1, ?_⟩
      rw [p2]
      intro x16 e16
      subst e16
      have hGR : GR M4 m (msl (M 609) m) := by rw [← e4]; exact GR.msl
      refine ⟨rw', fun c0 => ⟨fun c1 => ⟨fun c2 => ⟨fun c3 => ⟨fun c4 => ?_, fun c4 => ?_⟩, fun c3 => ?_⟩, fun c2 => ?_⟩, fun c1 => g1 c1⟩, fun c0 => ⟨by omega, by rw [hl4.2 o ho.1 ho.2]; exact g0 c0⟩⟩
      · refine rc_takesPlace i1.1.1 hR4 (by rw [e4]; exact hm) (by rw [e4]; exact hl4) (by rw [e4]; exact ho) fun M5 t hR5 f5 ht => ?_
        obtain ⟨j1, j2, j3⟩ := i1.rr f5.rf hR5
        rw [e4] at ht
        obtain ⟨q1, q2⟩ := g5 (by have := cw.1; have := cw.2; omega) M5 j1 (by rw [j3, i3, t3])
        refine ⟨Q, fun _ _ q => q, by rcases ht with ⟨q, _⟩ | ⟨q, _⟩ <;> rw [q] <;> exact ⟨by omega, by omega⟩, fun q => ?_, fun q => ?_⟩
        · rcases ht with ⟨_, q3⟩ | ⟨q3, _⟩
          · exact q2 q3
          · omega
        · rcases ht with ⟨q3, _⟩ | ⟨_, q3, q4, _⟩
          · omega
          · rw [q4]; exact q1 q3
      · obtain ⟨q1, q2⟩ := g4 c4
        rw [hGR.at' (p := x12) (i := 0) (by omega) (by omega)]
        refine ⟨pg_loc ⟨by omega, by omega⟩, fun q => ⟨by omega, ?_⟩, fun q => q1 (fun z => q (lc.mpr z))⟩
        have q := lc.mp q
        have hz4 : 0 ≤ msl (M 609) m 0 ∧ msl (M 609) m 0 < M4 609 0 := by rw [e4]; exact ⟨hz0, hz1⟩
        refine sp_finds (i1.rz hz4) (by omega) fun M5 f5 g14 gl gz e30 _ => ?_
        obtain ⟨j1, j2, j3⟩ := i1.f1 hz4 f5 g14 gl
        rw [e30, e4]; exact q2 q M5 j1 (by rw [j3, i3, t3])
      · obtain ⟨q1, q2⟩ := g3 c3
        have h01 := hgo.2.2.2.2.2.2.2.2.2 o ho.1 (by omega)
        rw [hGR.at' (p := x12 + 49 + o) (i := 49 + o) (by omega) (by omega)]
        refine ⟨by omega, Q, fun _ _ q => q, ⟨by omega, by omega⟩, fun q => ?_, fun q => q1 q⟩
        refine rc_isVoid i1.1.1 hR4 (by rw [e4]; exact hm) (by rw [e4]; exact hl4) (by rw [e4]; exact ho) fun M5 t hR5 f5 ht => ?_
        obtain ⟨j1, j2, j3⟩ := i1.rr f5.rf hR5
        rw [e4] at ht
        obtain ⟨r1, r2⟩ := q2 q M5 j1 (by rw [j3, i3, t3])
        refine ⟨by rcases ht with ⟨q, _⟩ | ⟨q, _⟩ <;> rw [q] <;> exact ⟨by omega, by omega⟩, fun q3 => ?_, fun q3 => ?_⟩
        · rcases ht with ⟨q4, _⟩ | ⟨_, _, q5, _⟩
          · omega
          · exact r1 (by omega)
        · rcases ht with ⟨_, q5⟩ | ⟨q4, _⟩
          · exact r2 q5
          · omega
      · rw [hGR.at' (p := x12 + 9 + o) (i := 9 + o) (by omega) (by omega)]
        exact ⟨by omega, g2 c2⟩
    -- the class
    refine Or.inl (refuse_o ?_)
    simp only [Int.zero_add]
    refine ⟨fun x => x = b2i (0 ≤ w ∧ w ≤ 5), fun x ex => ?_, ¬ (0 ≤ w ∧ w ≤ 5), fun q => (b2i_f q).symm, rw', fun q => by omega, fun q1 => ⟨fun q => by omega, fun q2 => (b2i_t ⟨q1, q2⟩).symm⟩⟩
    rw [ex]
    refine na (fun cw => ⟨by omega, ?_⟩) (fun cw => ⟨by decide, ref M1 h1 e1 fun M4 h4 e4 t4 hl4 => ⟨fun q => absurd q cw, fun _ => rs h4 fun M5 h5 t5 => ⟨by rw [t5]; rfl, h5⟩⟩⟩)
    refine cc_timed h1.1 h1.2.1 hm1 fun M2 f2 hC2 h20 h21 hP2 hT2 hK2 => ?_
    have e2 : M2 609 = M 609 := (f2 609 (by omega)).trans e1
    have h2 : Inv M2 := h1.c f2.to7 hC2
    rw [e1] at hP2 hT2 hK2
    have hm2 : 0 ≤ m ∧ m < M2 609 1 := by rw [e2]; exact hm
    obtain ⟨hge2, _⟩ := h2.gq hm2
    rw [e2] at hge2
    obtain ⟨t1, t2, t3, t4⟩ := c_tk h2.1 hm2 (by rw [e2]; exact hT2) (o := o) (by rw [e2]; exact ho) (by rw [e2]; exact hK2)
    rw [e2] at t2 t3
    have h01 := hgo.2.2.2.2.2.2.2.2.2 o ho.1 (by omega)
    have el : pf_X5_localOf M2 (3 * m + 570) (2 * m + 28) o = bL (M 609) m o := by
      unfold pf_X5_localOf bL
      rw [hP2.2 o ho.1 ho.2, hge2.1 2 (by omega) (by omega), hge2.2.1 o ho.1 (by omega)]
    rw [el]
    refine ⟨by unfold pg_X5_localOf; exact ⟨by omega, trivial⟩, ?_⟩
    intro x23 e23
    subst e23
    refine ⟨rw', fun q => ⟨by omega, ?_⟩, fun q => ?_, fun q => ⟨by omega, ?_⟩, fun q => ⟨?_, ?_⟩, fun q => ⟨(pgd (show rg _ from ⟨by omega, by omega⟩)).2.2.2.2.2.1, ?_⟩, fun q => ⟨t1, ?_⟩⟩
    · rw [hP2.2 o ho.1 ho.2]
      exact ref M2 h2 e2 fun M4 h4 e4 t4 hl4 => ⟨fun _ => ⟨fun _ => ⟨t4, rfl, h4⟩, by omega, by omega, by omega, by omega, by omega⟩, fun z => absurd cw z⟩
    · exact ref M2 h2 e2 fun M4 h4 e4 t4 hl4 => ⟨fun _ => ⟨by omega, fun _ => ⟨t4, rfl, h4⟩, by omega, by omega, by omega, by omega⟩, fun z => absurd cw z⟩
    · have := hge2.2.1 o ho.1 (by omega)
      rw [show 2 * m + 28 + 1 = 2 * m + 29 by omega] at this
      rw [this]
      exact ref M2 h2 e2 fun M4 h4 e4 t4 hl4 => ⟨fun _ => ⟨by omega, by omega, fun _ => ⟨t4, rfl, h4⟩, by omega, by omega, by omega⟩, fun z => absurd cw z⟩
    · unfold pg_X10_stateOf; exact ⟨t4, fun _ => ⟨t1, fun _ => trivial, fun _ => trivial⟩, fun _ => trivial⟩
    · unfold pf_X10_stateOf
      refine ref M2 h2 e2 fun M4 h4 e4 z4 hl4 => ⟨fun _ => ⟨by omega, by omega, by omega, fun _ => ⟨fun g => ⟨z4, ?_, h4⟩, fun g M5 h5 z5 => ⟨fun g2 => ⟨z5, ?_, h5⟩, fun g2 => ⟨z5, ?_, h5⟩⟩⟩, by omega, by omega⟩, fun z => absurd cw z⟩
      · rw [if_neg (fun z => z (t3.mpr (by omega)))]
      · rw [if_pos (fun z => t3.mp z (by omega)), if_neg (fun z => z (t2.mpr ⟨g2, by omega⟩))]
      · rw [if_pos (fun z => t3.mp z (by omega)), if_pos (fun z => (t2.mp z).1 g2)]
    · refine ⟨_, fun _ _ z => z, fun z => ?_, fun z => ?_⟩
      · have z : ¬ (0 ≤ bL (M 609) m o ∧ bL (M 609) m o < 16830720) := z
        exact ref M2 h2 e2 fun M4 h4 e4 t4 hl4 => ⟨fun _ => ⟨by omega, by omega, by omega, by omega, fun _ => ⟨fun _ => ⟨t4, rfl, h4⟩, fun g => absurd g z⟩, by omega⟩, fun z => absurd cw z⟩
      · have z : 0 ≤ bL (M 609) m o ∧ bL (M 609) m o < 16830720 := z
        rw [hge2.1 0 (by omega) (by omega)]
        left
        unfold wo_X10_instants
        have hzz : 0 ≤ msl (M 609) m 0 ∧ msl (M 609) m 0 < M2 609 0 := by rw [e2]; exact ⟨hz0, hz1⟩
        have a0 := h.1.1.1
        refine ⟨pg_hz h2.1 ⟨by omega, by omega⟩, ni_o ((hz_iff h2.1).mpr hzz) ⟨(pgd (show rg _ from ⟨by omega, by omega⟩)).2.2.2.2.2.1, na_o z ?_⟩⟩
        refine cmp' h2 hzz fun M3 h3 e3 hT3 hC3 hL3 => sp_look hC3 hL3 (by omega) fun M3' F G g13 _ _ => ?_
        obtain ⟨h3', e3', _⟩ := h3.lk (by rw [e3]; exact hzz) F G
        rw [g13, e2]
        exact ref M3' h3' (by rw [e3', e3, e2]) fun M4 h4 e4 t4 hl4 => ⟨fun _ => ⟨by omega, by omega, by omega, by omega, fun _ => ⟨fun g => absurd z g, fun _ M5 h5 t5 => ⟨t5, rfl, h5⟩⟩, by omega⟩, fun z => absurd cw z⟩
    · have e572 : 3 * m + 570 + 2 = 3 * m + 572 := by omega
      refine ne' (fun z => ⟨by omega, ?_⟩) (fun z => ⟨by decide, ?_⟩)
      · rw [e572, hT2 o ho.1 ho.2]
        exact ref M2 h2 e2 fun M4 h4 e4 t4 hl4 => ⟨fun _ => ⟨by omega, by omega, by omega, by omega, by omega, fun _ M5 h5 t5 => ⟨fun _ => ⟨t5, rfl, h5⟩, fun g => absurd (t2.mp z) g⟩⟩, fun z => absurd cw z⟩
      · exact ref M2 h2 e2 fun M4 h4 e4 t4 hl4 => ⟨fun _ => ⟨by omega, by omega, by omega, by omega, by omega, fun _ M5 h5 t5 => ⟨fun g => absurd (t2.mpr g) z, fun _ => rs h5 fun M6 h6 t6 => ⟨by rw [t6]; rfl, h6⟩⟩⟩, fun z => absurd cw z⟩
  · refine Or.inr (refuse_x (by omega) ⟨by decide, ?_⟩)
    unfold wp_X11_occurrence
    refine th0 h1 fun M3 h3 e3 t3 => rc_isOccurrence h3.1.1 h3.2.2.1 rm ro (fun M4 hR f _ => ?_) (fun M4 hR f a b _ => absurd ⟨by rw [e3, e1] at a; exact a.1, by rw [e3, e1] at a; exact a.2, by rw [e3, e1] at b; exact b.1, by rw [e3, e1] at b; exact b.2⟩ hb)
    obtain ⟨i1, i2, i3⟩ := h3.rr f.rf hR
    exact ⟨⟨by omega, by omega⟩, fun q => absurd rfl q, fun _ => rs i1 fun M5 h5 t5 => ⟨by rw [t5]; rfl, h5⟩⟩
