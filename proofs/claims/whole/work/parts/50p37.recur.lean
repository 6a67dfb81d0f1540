/-! recur -/
noncomputable def gQ (G : Int → Int) (f s w : Int) : Int → Int := fun i => if i = 6 then f else if i = 7 then s else if i = 8 then w else if 9 ≤ i then 0 else G i
theorem gQ_6 {G : Int → Int} {f s w : Int} : gQ G f s w 6 = f ∧ gQ G f s w 7 = s ∧ gQ G f s w 8 = w := by
  refine ⟨?_, ?_, ?_⟩ <;> simp [gQ]
theorem gQ_n {G : Int → Int} {f s w i : Int} (h : i < 6) : gQ G f s w i = G i := by
  unfold gQ; rw [if_neg (by omega), if_neg (by omega), if_neg (by omega), if_neg (by omega)]
theorem gQ_0 {G : Int → Int} {f s w i : Int} (h : 9 ≤ i) : gQ G f s w i = 0 := by
  unfold gQ; rw [if_neg (by omega), if_neg (by omega), if_neg (by omega), if_pos h]
def argR (f s w : Int) : Prop := (0 ≤ f ∧ f ≤ 3) ∧ (1 ≤ s ∧ s ≤ pf_X10_greatestStep f) ∧ ((f ≠ 1 ∧ w = 0) ∨ (f = 1 ∧ 1 ≤ w ∧ w ≤ 127))
theorem gs_v (f : Int) : (f = 0 → pf_X10_greatestStep f = 60) ∧ (f ≠ 0 ∧ f = 1 → pf_X10_greatestStep f = 8) ∧ (f ≠ 0 ∧ f ≠ 1 → pf_X10_greatestStep f = 24) := by
  unfold pf_X10_greatestStep
  refine ⟨fun h => by rw [if_pos h], fun h => by rw [if_neg h.1, if_pos h.2], fun h => by rw [if_neg h.1, if_neg h.2]⟩
theorem gQ_ok {G : Int → Int} {f s w : Int} (h : GOk G) (ha : argR f s w) : GOk (gQ G f s w) := by
  obtain ⟨g1, g2, g3, g4, g5, g6, g7, g8, g9, g49⟩ := h
  obtain ⟨a1, a2, a3⟩ := ha
  obtain ⟨v6, v7, v8⟩ := gQ_6 (G := G) (f := f) (s := s) (w := w)
  have := gs_v f
  unfold GOk
  rw [v6, v7, v8, gQ_n (i := 1) (by omega), gQ_n (i := 2) (by omega), gQ_n (i := 3) (by omega), gQ_n (i := 4) (by omega), gQ_n (i := 5) (by omega)]
  exact ⟨g1, g2, g3, g4, g5, a1, ⟨by omega, by omega⟩, ⟨by omega, by omega⟩, fun i i0 i1 => by rw [gQ_0 (by omega)]; exact ⟨by omega, by omega⟩, fun i i0 i1 => Or.inl (gQ_0 (by omega))⟩
theorem cs_recur {M : jT} {A : Int → Int} {m f s w : Int} {Q : Int → jT → Prop} (h : CA M A) (hm : 0 ≤ m ∧ m < A 1) (ha : argR f s w) (kk : ∀ M', MF M M' → (∀ a, (48 ≤ a ∧ a ≤ 519) → M' a = M a) → CA M' (mput A m (gQ (msl A m) f s w)) → Q (nD (gQ (msl A m) f s w)) M') :
    wp_X4_repeat M (2 * m + 28) f s w (fun M51 => wp_X5_spoil M51 (3 * m + 570) (fun M54 => wp_X10_laidOut M54 0 m (fun k55 M56 => Q (M56 k55 2) M56))) := by
  obtain ⟨hA, hB, hC⟩ := h
  have a1 := hA.1
  have a2 := hA.2.1
  obtain ⟨hgo, z0, z1⟩ := hA.2.2.2 m hm.1 hm.2
  have hge := hB.2.2.2 m hm.1 hm.2
  rw [show 1 + 27 + 2 * m = 2 * m + 28 by omega] at hge
  obtain ⟨g0, g1, g2, g3⟩ := hge
  obtain ⟨v6, v7, v8⟩ := gQ_6 (G := msl A m) (f := f) (s := s) (w := w)
  have ho : ∀ i, i < 0 ∨ 89 ≤ i → gQ (msl A m) f s w i = 0 := fun i hi => by
    by_cases q : 9 ≤ i
    · exact gQ_0 q
    · rw [gQ_n (by omega)]; exact msl_o hi
  have ok := mput_ok hA hm ho (gQ_ok hgo ha) (by rw [gQ_n (by omega)]; exact ⟨z0, z1⟩)
  refine sp_repeat fun M7 F7 G7 H7 => ?_
  have r9 : M7 (2 * m + 28) 9 = 0 := by rw [G7, if_neg (by omega), if_neg (by omega), if_neg (by omega), if_pos rfl]
  have hGE : GEq M7 (2 * m + 28) (gQ (msl A m) f s w) := by
    refine ⟨fun i i0 i1 => ?_, fun i i0 i1 => ?_, by rw [r9]; exact ⟨by omega, by omega⟩, fun i i0 i1 => ?_⟩
    · rw [G7]
      by_cases q6 : i = 6
      · rw [if_pos q6, q6, v6]
      · rw [if_neg q6]
        by_cases q7 : i = 7
        · rw [if_pos q7, q7, v7]
        · rw [if_neg q7]
          by_cases q8 : i = 8
          · rw [if_pos q8, q8, v8]
          · rw [if_neg q8, if_neg (by omega), gQ_n (by omega)]; exact g0 i i0 i1
    · rw [H7 i i0 i1, gQ_0 (by omega)]
    · rw [r9, gQ_0 (by omega)]
      exact ⟨fun q => absurd q bS_0, fun q => absurd rfl q⟩
  have hB7 := mput_b (M' := M7) hA hB hm ho (fun a b1 b2 b3 b4 => F7 a b3 (by omega)) hGE
  refine sp_spoilPlan (A := A) (A' := mput A m (gQ (msl A m) f s w)) (m := m) rfl (by omega) hA ok (hC.mv hA (fun a b1 b2 => F7 a (by omega) (by omega))) (mput_0 hm.1) (fun y y0 y1 => mput_z hm.1 (by omega)) (fun i i0 i1 i2 => ?_) fun M9 F9 hC9 => ?_
  · rw [mput_1 hm.1] at i1; exact ⟨i1, mput_y i2⟩
  · refine ca_laidOut (A := mput A m (gQ (msl A m) f s w)) ⟨ok, hB7.mv ok (fun a b1 b2 => F9 a (by omega)), hC9⟩ (by rw [mput_1 hm.1]; exact hm) fun M10 f10 hC10 h0 hP => ?_
    rw [hP.1, mput_m ho]
    exact kk M10 (fun a b1 b2 b3 => (f10 a (by omega)).trans ((F9 a (by omega)).trans (F7 a (by omega) (by omega)))) (fun a ha => (f10 a (by omega)).trans ((F9 a (by omega)).trans (F7 a (by omega) (by omega)))) hC10
theorem sim_recur {M : jT} {m f s w : Int} (h : Inv M) (rm : rg m) (rf : rg f) (rs' : rg s) (rw' : rg w) : wp_X10_recur M 0 m f s w (fun v M1 => OKq (wp_X11_recur M1 608 m f s w) v) (fun e M1 => EXq (wp_X11_recur M1 608 m f s w) [1, 2] e) := by
  have hA := h.1.1
  have a1 := hA.1
  have a2 := hA.2.1
  have gs := gs_v f
  have grs : rg (pf_X10_greatestStep f) := by unfold pf_X10_greatestStep; (repeat' split) <;> exact ⟨by omega, by omega⟩
  -- the reference
  have ref : ∀ (M1 : jT) (Q : Int → jT → Prop), M1 609 = M 609 → (∀ M2, (∀ a, a ≠ 608 → M2 a = M1 a) → (∀ b, b ≠ 0 → M2 608 b = M1 608 b) → M2 608 0 = 0 → 
      (0 ≤ m ∧ m < M 609 1 → (argR f s w → ∀ R : jT → Prop, (∀ M83, M83 609 = M 609 → M83 608 14 = -1 → (∀ M84, RM M83 M84 → M84 610 = M83 610 → M84 608 0 = M83 608 0 → M84 608 3 = M83 608 3 → M84 608 14 = M83 608 14 → M84 609 = mput (M 609) m (gQ (msl (M 609) m) f s w) → Q (nD (gQ (msl (M 609) m) f s w)) M84) → R M83) → wp_X11_changes M2 608 R) ∧ (¬ argR f s w → wp_X11_raises M2 608 2 Q)) ∧ (¬ (0 ≤ m ∧ m < M 609 1) → wp_X11_raises M2 608 1 Q)) → wp_X11_recur M1 608 m f s w Q := by
    intro M1 Q e9 k
    unfold wp_X11_recur
    simp only [Int.reduceAdd]
    refine up_in fun M2 k2 => ?_
    obtain ⟨p1, p2⟩ := k M2 (fun a ha => funext fun b => by rw [k2 a b, if_neg (by omega)]) (fun b hb => by rw [k2, if_neg (by omega)]) (by rw [k2, if_pos ⟨rfl, rfl⟩])
    have e2 : M2 609 = M 609 := by rw [← e9]; funext b; rw [k2, if_neg (by omega)]
    have mi' : pb_X11_isMeeting M2 608 m ↔ 0 ≤ m ∧ m < M 609 1 := by rw [mi, e2]
    refine ⟨pg_meet (by rw [e2]; exact hA) rm, fun c => ?_, fun c => p2 fun q => c (mi'.mpr q)⟩
    have hm := mi'.mp c
    obtain ⟨p3, p4⟩ := p1 hm
    refine ⟨pg_in rf ⟨by omega, by omega⟩ ⟨by omega, by omega⟩, ¬ argR f s w, p4, fun q a => q a.1, fun q1 => ⟨⟨rf, fun _ => ⟨fun _ => trivial, fun _ => trivial⟩, fun _ => trivial⟩, fun x91 g1 g2 g3 => ?_⟩⟩
    have ex : x91 = pf_X10_greatestStep f := by
      by_cases c0 : f = 0
      · rw [g3 c0, gs.1 c0]
      · by_cases c1 : f = 1
        · rw [g2 ⟨c0, c1⟩, gs.2.1 ⟨c0, c1⟩]
        · rw [g1 ⟨c0, c1⟩, gs.2.2 ⟨c0, c1⟩]
    rw [ex]
    refine ⟨pg_in rs' ⟨by omega, by omega⟩ grs, fun q2 => ⟨argR f s w, fun ha => ?_, ¬ argR f s w, p4, rf, fun c1 => ⟨rw', fun c0 => ⟨q1, q2, Or.inl ⟨c1, c0⟩⟩, fun c0 a => by have := a.2.2; omega⟩, fun c1 => ⟨pg_in rw' ⟨by omega, by omega⟩ ⟨by omega, by omega⟩, fun c0 => ⟨q1, q2, Or.inr ⟨c1, c0⟩⟩, fun c0 a => c0 (by have := a.2.2; exact ⟨by omega, by omega⟩)⟩⟩, fun q a => q a.2.1⟩
    have hn9 := (hA.2.2.2 m hm.1 hm.2).1
    refine p3 ha _ fun M83 e83 c14 k83 => ?_
    intro x124 e124
    rw [mAt] at e124
    refine ⟨by omega, up_in fun M126 k126 => ⟨by omega, up_in fun M128 k128 => ⟨by omega, up_in fun M130 k130 => ?_⟩⟩⟩
    have F : ∀ a, a ≠ 609 → M130 a = M83 a := (fun a ha => funext fun b => by rw [k130 a b, if_neg (by omega), k128 a b, if_neg (by omega), k126 a b, if_neg (by omega)])
    refine ⟨fun n i M132 => 0 ≤ i ∧ i ≤ 80 ∧ (80 - i).toNat ≤ n ∧ ∀ a j, M132 a j = if a = 609 ∧ x124 + 9 ≤ j ∧ j < x124 + 9 + i then 0 else M130 a j, ⟨80, by omega, by omega, by omega, fun a j => by rw [if_neg (by omega)]⟩, ?_⟩
    rintro n134 x131 M132 ⟨i0, i1, i2, h132⟩
    refine ⟨⟨by omega, by omega⟩, fun c => ?_, fun c => ⟨by omega, up_in fun M140 k140 => ?_⟩⟩
    · obtain ⟨v6, v7, v8⟩ := gQ_6 (G := msl (M 609) m) (f := f) (s := s) (w := w)
      have F2 : ∀ a, a ≠ 609 → M132 a = M83 a := fun a ha => by rw [← F a ha]; funext j; rw [h132, if_neg (by omega)]
      have e9' : M132 609 = mput (M 609) m (gQ (msl (M 609) m) f s w) := funext fun j => by
        by_cases p0 : j < 404 + 89 * m ∨ 493 + 89 * m ≤ j
        · rw [mput_n p0, h132, if_neg (by omega), k130, if_neg (by omega), k128, if_neg (by omega), k126, if_neg (by omega), e83]
        · rw [mput_i (by omega)]
          by_cases q9 : 9 ≤ j - (404 + 89 * m)
          · rw [h132, if_pos (by omega), gQ_0 q9]
          · rw [h132, if_neg (by omega)]
            by_cases q8 : j = x124 + 8
            · rw [k130, if_pos ⟨rfl, q8⟩, show j - (404 + 89 * m) = 8 by omega, v8]
            · rw [k130, if_neg (by omega)]
              by_cases q7 : j = x124 + 7
              · rw [k128, if_pos ⟨rfl, q7⟩, show j - (404 + 89 * m) = 7 by omega, v7]
              · rw [k128, if_neg (by omega)]
                by_cases q6 : j = x124 + 6
                · rw [k126, if_pos ⟨rfl, q6⟩, show j - (404 + 89 * m) = 6 by omega, v6]
                · rw [k126, if_neg (by omega), e83, gQ_n (by omega), msl_at (by omega)]; congr 1; omega
      have ho : ∀ i, i < 0 ∨ 89 ≤ i → gQ (msl (M 609) m) f s w i = 0 := fun i hi => by
        by_cases q : 9 ≤ i
        · exact gQ_0 q
        · rw [gQ_n (by omega)]; exact msl_o hi
      obtain ⟨hgo, z0, z1⟩ := hA.2.2.2 m hm.1 hm.2
      have ok := mput_ok hA hm ho (gQ_ok hgo ha) (by rw [gQ_n (by omega)]; exact ⟨z0, z1⟩)
      have c14' : M132 608 14 = -1 := by rw [F2 608 (by omega)]; exact c14
      refine rc_lists (by rw [e9']; exact ok) ⟨by rw [c14']; exact ⟨by omega, by omega⟩, fun z z0 z1 q => by omega⟩ (by rw [e9', mput_1 hm.1]; exact hm) fun M138 hR f3 hl => ?_
      rw [e9', mput_m ho] at hl
      rw [hl.1]
      obtain ⟨r1, r2, r3, r4, r5⟩ := rm9 F2
      exact k83 M138 (r1.trans f3.rf.rm) ((f3.1 610 (by omega) (by omega)).trans r2) ((f3.2 0 (by omega)).trans r4) ((f3.2 3 (by omega)).trans r5) (by rw [f3.2 14 (by omega), c14', c14]) ((f3.1 609 (by omega) (by omega)).trans e9')
    · intro x141 e141
      refine ⟨(80 - x141).toNat, by omega, by omega, by omega, by omega, fun a j => ?_⟩
      rw [k140, h132]
      by_cases p1 : a = 609 ∧ j = x124 + 9 + x131
      · rw [if_pos p1, if_pos (by omega)]
      · rw [if_neg p1]
        by_cases p2 : a = 609 ∧ x124 + 9 ≤ j ∧ j < x124 + 9 + x131
        · rw [if_pos p2, if_pos (by omega)]
        · rw [if_neg p2, if_neg (by omega)]
  have ex1 : ¬ (0 ≤ m ∧ m < M 609 1) → EXq (wp_X11_recur M 608 m f s w) [1, 2] 1 := fun c => by
    refine ⟨by decide, ref M _ rfl fun M2 F2 G2 t2 => ⟨fun q => absurd q c, fun _ => ?_⟩⟩
    have h2 : Inv M2 := h.r ⟨fun a ha => F2 a (by omega), ⟨F2 _ (by omega), F2 _ (by omega), F2 _ (by omega), F2 _ (by omega), F2 _ (by omega)⟩, G2 _ (by omega), G2 _ (by omega), G2 _ (by omega), G2 _ (by omega), G2 _ (by omega)⟩ (h.2.2.1.mv (F2 _ (by omega)) (fun b hb => G2 b (by omega)) (fun a _ _ => F2 a (by omega)))
    exact rs h2 fun M3 h3 t3 => ⟨by rw [t3]; rfl, h3⟩
  have ex2 : (0 ≤ m ∧ m < M 609 1) → ¬ argR f s w → EXq (wp_X11_recur M 608 m f s w) [1, 2] 2 := fun hm c => by
    refine ⟨by decide, ref M _ rfl fun M2 F2 G2 t2 => ⟨fun _ => ⟨fun a => absurd a c, fun _ => ?_⟩, fun q => absurd hm q⟩⟩
    have h2 : Inv M2 := h.r ⟨fun a ha => F2 a (by omega), ⟨F2 _ (by omega), F2 _ (by omega), F2 _ (by omega), F2 _ (by omega), F2 _ (by omega)⟩, G2 _ (by omega), G2 _ (by omega), G2 _ (by omega), G2 _ (by omega), G2 _ (by omega)⟩ (h.2.2.1.mv (F2 _ (by omega)) (fun b hb => G2 b (by omega)) (fun a _ _ => F2 a (by omega)))
    exact rs h2 fun M3 h3 t3 => ⟨by rw [t3]; rfl, h3⟩
  have pgg : pg_X10_greatestStep f := by
    unfold pg_X10_greatestStep; exact ⟨rf, fun _ => trivial, fun _ => trivial, fun _ => trivial⟩
  unfold wp_X10_recur
  simp only [Int.zero_add]
  refine nm h.1 rm (fun hm => ?_) ex1
  refine ⟨fun x => x = b2i ((0 ≤ f ∧ f ≤ 3) ∧ (1 ≤ s ∧ s ≤ pf_X10_greatestStep f)), fun x24 e24 => ?_, ¬ ((0 ≤ f ∧ f ≤ 3) ∧ (1 ≤ s ∧ s ≤ pf_X10_greatestStep f)), fun q => (b2i_f q).symm, rf, fun q a => by omega, fun q1 => ⟨fun q a => by omega, fun q2 => ⟨rs', fun q a => by omega, fun q3 => ⟨pgg, grs, fun q a => by omega, fun q4 => (b2i_t ⟨⟨q1, q2⟩, q3, q4⟩).symm⟩⟩⟩⟩
  rw [show x24 = _ from e24]
  refine na (fun ha1 => ?_) (fun ha1 => ex2 hm fun a => ha1 ⟨a.1, a.2.1⟩)
  refine ⟨⟨rf, fun _ => ⟨rw', fun _ => trivial, fun _ => trivial⟩, fun _ => ⟨rw', fun _ => trivial, fun _ => ⟨fun _ => trivial, fun _ => trivial⟩⟩⟩, na (fun ha2 => ?_) (fun ha2 => ex2 hm fun a => ha2 a.2.2)⟩
  have ha : argR f s w := ⟨ha1.1, ha1.2, ha2⟩
  refine c_remember h fun M1 f1 hC1 hX1 hs1 => ⟨by omega, cs_recur (Q := fun v M56 => OKq (wp_X11_recur M56 608 m f s w) v) hC1 hm ha fun M2 f2 g2 hC2 => ?_⟩
  have f12 := f1.trans f2
  have hX2 := hX1.mv (M' := M2) (fun a ha => g2 a (by omega))
  have hs2 := hs1.mv (M' := M2) (by rw [g2 48 (by omega)]) (fun a _ _ => g2 a (by omega)) (by rw [f2 608 (by omega) (by omega) (by omega)]) (f2 611 (by omega) (by omega) (by omega))
  obtain ⟨x1, x2, x3⟩ := h.2.2.2.1.un
  have e9 : M2 609 = M 609 := f12 609 (by omega) (by omega) (by omega)
  have e8 : M2 608 = M 608 := f12 608 (by omega) (by omega) (by omega)
  unfold OKq
  refine ref M2 _ e9 fun N1 F1 G1 t1 => ⟨fun _ => ⟨fun _ R k => ?_, fun q => absurd ha q⟩, fun q => absurd hm q⟩
  refine mut_changes h f12 (RM.of (fun a ha => F1 a (by omega)) (fun b hb => G1 b (by omega))) ((F1 609 (by omega)).trans e9) (x2.mv (by rw [G1 3 (by omega), e8]) ((F1 610 (by omega)).trans (f12 610 (by omega) (by omega) (by omega)))) fun N4 f4 d49 t4 c14 hr4 => k N4 d49 c14 fun N5 f5 e610 t5 c3 c14' e5 => ?_
  exact ⟨by rw [t5, t4]; exact t1, rfl, mut_fin h f12 hC2 hX2 hs2 (f4.trans f5) (by rw [c14', c14]) (fun j _ _ => by rw [e5]) (hr4.mv c3 e610)⟩
