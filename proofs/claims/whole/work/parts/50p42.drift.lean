/-! drift -/
noncomputable def lo (A Z : Int → Int) (m o : Int) : Int := (bO A m o + lF Z (SP (lm Z) (lS Z) (bO A m o))) % 1440
theorem dcn_0 {S : Int → Prop} {a : Int} : ∀ n : Nat, (∀ v, ¬ S v) → dcn S a n = 0
  | 0, _ => rfl
  | n + 1, h => by simp only [dcn]; rw [dcn_0 n h, b2i_f (h _)]; rfl
theorem lF_at {Z : Int → Int} (hL : LOk (lm Z) (lS Z) (lF Z)) (x : Int) : -720 ≤ lF Z (SP (lm Z) (lS Z) x) ∧ lF Z (SP (lm Z) (lS Z) x) ≤ 960 := by
  have h := SP_is hL x
  exact hL.2.2.2 _ h.1 h.2.1
theorem rf_drift {M : jT} {m z : Int} {Q : Int → jT → Prop} (h : Inv M) (rm : rg m) (rz : rg z)
    (hK : (0 ≤ m ∧ m < M 609 1) ∧ (0 ≤ z ∧ z < M 609 0) → LK (zsl (M 609) (msl (M 609) m 0)) ∧ LK (zsl (M 609) z))
    (k1 : ¬ ((0 ≤ m ∧ m < M 609 1) ∧ (0 ≤ z ∧ z < M 609 0)) → ∀ M4, Inv M4 → M4 608 0 = 1 → Q 0 M4)
    (k2 : (0 ≤ m ∧ m < M 609 1) → (0 ≤ z ∧ z < M 609 0) → ∀ M4, Inv M4 → M4 608 0 = 0 → Q (dcn (fun v => ∃ o, 0 ≤ o ∧ o < nD (msl (M 609) m) ∧ tk (M 609) m o ∧ lo (M 609) (zsl (M 609) z) m o = v) 0 1440) M4) : wp_X11_drift M 608 m z Q := by
  unfold wp_X11_drift
  simp only [Int.reduceAdd]
  refine th0 h fun M2 h2 e2 t2 => ⟨h2.pm rm, ¬ ((0 ≤ m ∧ m < M 609 1) ∧ (0 ≤ z ∧ z < M 609 0)), fun q => rs h2 fun M3 h3 t3 => k1 q M3 h3 t3, fun q w => q (mi.mpr (by rw [e2]; exact w.1)), fun q => ⟨pg_zone h2 rz, fun q1 => ?_, fun q1 w => q1 (zi.mpr (by rw [e2]; exact w.2))⟩⟩
  have hm : 0 ≤ m ∧ m < M 609 1 := by rw [← e2]; exact mi.mp q
  have hz : 0 ≤ z ∧ z < M 609 0 := by rw [← e2]; exact zi.mp q1
  obtain ⟨hKm, hKz⟩ := hK ⟨hm, hz⟩
  have a1 := h.1.1.1
  have a2 := h.1.1.2.1
  have hg := (h.1.1.2.2.2 m hm.1 hm.2).1
  have hn := nD_rng hg
  have hzo := h.1.1.2.2.1 z hz.1 hz.2
  have hL := (LOk.of hzo hKz).1
  refine up_in fun M3 h3 => ?_
  have F3 : ∀ a, a ≠ 608 → M3 a = M2 a := (fun a ha => funext fun b => by rw [h3 a b, if_neg (by omega)])
  have G3 : ∀ b, b ≠ 36 → M3 608 b = M2 608 b := fun b hb => by rw [h3, if_neg (by omega)]
  obtain ⟨i1, i2, i3⟩ := h2.rr (RFr.of (fun a a1 _ _ => F3 a a1) (G3 _ (by omega)) (G3 _ (by omega)) (G3 _ (by omega)) (G3 _ (by omega)) (G3 _ (by omega)) (G3 _ (by omega))) (h2.2.2.1.mv (F3 _ (by omega)) (fun b hb => G3 b (by omega)) (fun a _ _ => F3 a (by omega)))
  have e3 : M3 609 = M 609 := by rw [i2, e2]
  refine rc_enters (n := 0) (P := False) i1.1.1 i1.2.2.1 (by rw [e3]; exact hm) ⟨by omega, by omega⟩ (by rw [h3, if_pos ⟨rfl, rfl⟩]) (by rw [e3]; omega) (fun i a b => by omega) (fun z => z.elim) fun M4 hR4 f4 n4 E4 C4 _ => ?_
  obtain ⟨j1, j2, j3⟩ := i1.rr f4 hR4
  rw [e3] at n4 E4 C4
  have hle4 := nBo_le (A := M 609) (fr := -2000) (m := m) (nD (msl (M 609) m)).toNat
  have z3 : M4 608 0 = 0 := by rw [j3, i3, t2]
  have e4 : M4 609 = M 609 := by rw [j2, e3]
  generalize hN : (0 : Int) + (nBo (M 609) (-2000) m (nD (msl (M 609) m)).toNat : Int) = n at n4 E4 C4
  have C4' : ∀ v, cnt (kBr M4) n.toNat v = cBo (M 609) (-2000) m (nD (msl (M 609) m)).toNat v + (if m = m then 0 else cBo (M 609) (-2000) m (nD (msl (M 609) m)).toNat v) := fun v => by rw [C4]; simp [cnt]
  obtain ⟨m1, m2⟩ := ent E4 (by omega) ⟨hm.1, by omega⟩ ⟨hm.1, by omega⟩ hn.2 hn.2 C4'
  refine ⟨fun n' x N => 0 ≤ x ∧ x ≤ n ∧ (n - x).toNat ≤ n' ∧ Inv N ∧ N 609 = M 609 ∧ N 608 0 = 0 ∧ N 608 36 = n ∧ N 628 = M4 628 ∧ ∀ i, 0 ≤ i → i < x → N 629 i = (M4 628 i + lF (zsl (M 609) z) (SP (lm (zsl (M 609) z)) (lS (zsl (M 609) z)) (M4 628 i))) % 1440, ⟨n.toNat, by omega, by omega, by omega, j1, e4, z3, n4, rfl, fun i a b => by omega⟩, ?_⟩
  rintro n69 x N ⟨x0, x1, x2, k5, e5, z5, n5, r5, w5⟩
  rw [n5]
  refine ⟨⟨by omega, by omega⟩, ⟨by omega, by omega⟩, fun c => ?_, fun c => ⟨⟨x0, by omega⟩, ?_⟩⟩
  · have ex : x = n := by omega
    subst ex
    have ran : ∀ i, 0 ≤ i → i < x → 0 ≤ N 629 i ∧ N 629 i < 1440 := fun i a b => by rw [w5 i a b]; exact ⟨Int.emod_nonneg _ (by omega), Int.emod_lt_of_pos _ (by omega)⟩
    refine ⟨fun n' t i => 0 ≤ i ∧ i ≤ x ∧ (x - i).toNat ≤ n' ∧ t = dcn (fun v => ∃ j, 0 ≤ j ∧ j < i ∧ N 629 j = v) 0 1440 ∧ 0 ≤ t ∧ t ≤ i, ⟨x.toNat, by omega, by omega, by omega, (dcn_0 _ (fun v ⟨j, q1, q2, _⟩ => by omega)).symm, by omega, by omega⟩, ?_⟩
    rintro n76 t i ⟨i0, i1', i2', i3', i4, i5⟩
    refine ⟨⟨by omega, by omega⟩, fun c2 => ?_, fun c2 => ?_⟩
    · have ei : i = x := by omega
      subst ei
      rw [i3']
      have := k2 hm hz N k5 z5
      rw [dcn_ext (S' := fun v => ∃ j, 0 ≤ j ∧ j < i ∧ N 629 j = v) 1440 (fun v _ _ => ⟨?_, ?_⟩)] at this
      · exact this
      · rintro ⟨o, o0, o1, o2, o3⟩
        have q1 := bO_rng (i := o) h.1.1 hm hKm
        obtain ⟨j, y1, y2, y3, y4⟩ := m2 m o (Or.inl rfl) o0 o1 ⟨o2, by have := o2.1; omega⟩
        refine ⟨j, y1, y2, ?_⟩
        rw [w5 j y1 y2, y4]; exact o3
      · rintro ⟨j, q1, q2, q3⟩
        obtain ⟨m', o, hm', p1, p2, p3, y3, y4⟩ := m1 j q1 q2
        have em : m' = m := by rcases hm' with q | q <;> exact q
        subst em
        refine ⟨o, p1, p2, p3.1, ?_⟩
        rw [w5 j q1 q2, y4] at q3; exact q3
    · refine ⟨fun n' k => 0 ≤ k ∧ k ≤ i ∧ (i - k).toNat ≤ n' ∧ ∀ j, 0 ≤ j → j < k → N 629 j ≠ N 629 i, ⟨i.toNat, by omega, by omega, by omega, fun j a b => by omega⟩, ?_⟩
      rintro n81 k ⟨b0, b1, b2, b3⟩
      have rk := ran k b0 (by omega)
      have ri := ran i i0 c2
      refine ⟨⟨b0, by omega⟩, ⟨i0, by omega⟩, ⟨by omega, by omega⟩, ⟨by omega, by omega⟩, fun c3 => ⟨⟨⟨by omega, by omega⟩, fun _ => trivial, fun _ => trivial⟩, fun t' g1 g2 i' ei' => ?_⟩, fun c3 k' ek' => ⟨(i - k').toNat, ?_, by omega, ?_, by omega, fun j a b => ?_⟩⟩
      · refine ⟨(x - i').toNat, by omega, by omega, by omega, by omega, ?_⟩
        by_cases c4 : k = i
        · subst c4
          have := g2 rfl
          rw [this, i3']
          refine ⟨(dcn_add (w := N 629 k) 1440 (by omega) (by omega) (fun ⟨j, q1, q2, q3⟩ => b3 j q1 q2 q3) (fun v => ⟨fun hq => ?_, fun hq => ?_⟩)).symm, by rw [← i3']; omega, by rw [← i3']; omega⟩
          · obtain ⟨j, q1, q2, q3⟩ := hq
            by_cases c5 : j = k
            · right; rw [← q3, c5]
            · left; exact ⟨j, q1, by omega, q3⟩
          · rcases hq with ⟨j, q1, q2, q3⟩ | q
            · exact ⟨j, q1, by omega, q3⟩
            · exact ⟨k, i0, by omega, q.symm⟩
        · have := g1 c4
          rw [this]
          refine ⟨?_, i4, by omega⟩
          rw [i3']
          refine dcn_ext 1440 (fun v _ _ => ⟨fun ⟨j, q1, q2, q3⟩ => ⟨j, q1, by omega, q3⟩, fun ⟨j, q1, q2, q3⟩ => ?_⟩)
          by_cases c5 : j = i
          · rw [c5] at q3; exact ⟨k, b0, by omega, by rw [c3]; exact q3⟩
          · exact ⟨j, q1, by omega, q3⟩
      · have : k ≠ i := fun q => c3 (by rw [q])
        omega
      · have : k ≠ i := fun q => c3 (by rw [q])
        omega
      · by_cases c5 : j = k
        · rw [c5]; exact c3
        · exact b3 j a (by omega)
  · have hz5 : 0 ≤ z ∧ z < N 609 0 := by rw [e5]; exact hz
    have Ex := E4 x x0 c
    have rx : rg (M4 628 x) := ⟨by omega, by omega⟩
    rw [r5]
    refine sp_offsetAt (k5.rz hz5) rx fun M6 f6 h14 hl hz6 => ?_
    obtain ⟨l1, l2, l3⟩ := k5.f1 hz5 f6 h14 hl
    rw [e5]
    have hf := lF_at hL (M4 628 x)
    refine ⟨⟨by omega, by omega⟩, up_in fun M7 h7 y ey => ?_⟩
    have F7 : ∀ a, a ≠ 629 → M7 a = M6 a := (fun a ha => funext fun b => by rw [h7 a b, if_neg (by omega)])
    obtain ⟨p1, p2, p3⟩ := l1.rr (RFr.of (fun a b1 b2 b3 => F7 a (by omega)) (by rw [F7 608 (by omega)]) (by rw [F7 608 (by omega)]) (by rw [F7 608 (by omega)]) (by rw [F7 608 (by omega)]) (by rw [F7 608 (by omega)]) (by rw [F7 608 (by omega)])) (l1.2.2.1.mv (F7 _ (by omega)) (fun b hb => by rw [F7 608 (by omega)]) (fun a b1 b2 => F7 a (by omega)))
    refine ⟨(n - y).toNat, by omega, by omega, by omega, by omega, p1, by rw [p2, l2, e5], by rw [p3, l3, z5], by rw [F7 608 (by omega), f6.2 36 (by omega) (by omega) (by omega) (by omega) (by omega) (by omega) (by omega), n5], by rw [F7 628 (by omega), f6.1 628 (by omega) (by omega), r5], fun i a b => ?_⟩
    by_cases c5 : i = x
    · rw [c5, h7, if_pos ⟨rfl, rfl⟩]
    · rw [h7, if_neg (by omega), f6.1 629 (by omega) (by omega)]; exact w5 i a (by omega)
theorem sim_drift {M : jT} {m z : Int} (h : Inv M) (rm : rg m) (rz : rg z) : wp_X10_drift M 0 m z (fun v M1 => OKq (wp_X11_drift M1 608 m z) v) (fun e M1 => EXq (wp_X11_drift M1 608 m z) [1] e) := by
  have bad : ¬ ((0 ≤ m ∧ m < M 609 1) ∧ (0 ≤ z ∧ z < M 609 0)) → EXq (wp_X11_drift M 608 m z) [1] 1 := fun q => ⟨by decide, rf_drift h rm rz (fun w => absurd w q) (fun _ M4 h4 t4 => ⟨by rw [t4]; rfl, h4⟩) (fun z1 z2 => absurd ⟨z1, z2⟩ q)⟩
  unfold wp_X10_drift
  refine nm h.1 rm (fun hm => nz h.1 rz (fun hz => ?_) (fun hz => bad (fun w => hz w.2))) (fun hm => bad (fun w => hm w.1))
  have a1 := h.1.1.1
  have a2 := h.1.1.2.1
  have hg := (h.1.1.2.2.2 m hm.1 hm.2).1
  have hn := nD_rng hg
  have hzo := h.1.1.2.2.1 z hz.1 hz.2
  simp only [Int.zero_add]
  refine ⟨⟨hm.1, by omega⟩, cc_timed h.1 h.2.1 hm fun M1 f1 hC1 _ _ hP hT hKm => ?_⟩
  have e1 : M1 609 = M 609 := f1 609 (by omega)
  have h1 : Inv M1 := h.c f1.to7 hC1
  refine cc_compiled h1.1 h1.2.1 (by rw [e1]; exact hz) fun M2 f2 hC2 fp hTl => ?_
  have e2 : M2 609 = M 609 := by rw [f2 609 (by omega), e1]
  have h2 : Inv M2 := h1.c f2.to7 hC2
  rw [e1] at hTl
  have hKz := hTl.2.1
  have hL := (LOk.of hzo hKz).1
  have hP2 : PL M2 (3 * m + 570) (msl (M 609) m) := hP.mv (by rw [fp _ (by omega) (by omega)]) (fp _ (by omega) (by omega))
  have hT2 : TM M2 (M 609) m := fun i i0 i1 => by rw [fp _ (by omega) (by omega)]; exact hT i i0 i1
  refine ⟨fun n t x N => 0 ≤ x ∧ x ≤ nD (msl (M 609) m) ∧ (nD (msl (M 609) m) - x).toNat ≤ n ∧ (∀ a, a ≠ 607 → N a = M2 a) ∧ 0 ≤ t ∧ t ≤ x ∧ t = dcn (fun v => ∃ o, 0 ≤ o ∧ o < x ∧ tk (M 609) m o ∧ lo (M 609) (zsl (M 609) z) m o = v) 0 1440 ∧ KS (N 607) t (fun v => ∃ o, 0 ≤ o ∧ o < x ∧ tk (M 609) m o ∧ lo (M 609) (zsl (M 609) z) m o = v), ⟨(nD (msl (M 609) m)).toNat, by omega, by omega, by omega, fun _ _ => rfl, by omega, by omega, (dcn_0 _ (fun v ⟨o, q1, q2, _⟩ => by omega)).symm, fun i a b => by omega, fun v ⟨o, q1, q2, _⟩ => by omega⟩, ?_⟩
  rintro n15 t x N ⟨x0, x1, x2, F, t0, t1, t2, t3⟩
  have eN : N 609 = M 609 := (F 609 (by omega)).trans e2
  have hN : Inv N := h2.c (fun a ha => F a (by omega)) (h2.2.1.mv h2.1 (F 609 (by omega)) (fun a _ _ => F a (by omega)))
  have hPN : PL N (3 * m + 570) (msl (M 609) m) := hP2.mv (by rw [F _ (by omega)]) (F _ (by omega))
  have hTN : TM N (M 609) m := fun i i0 i1 => by rw [F _ (by omega)]; exact hT2 i i0 i1
  rw [hPN.1]
  refine ⟨⟨by omega, by omega⟩, ⟨by omega, by omega⟩, fun c => ?_, fun c => ?_⟩
  · have ex : x = nD (msl (M 609) m) := by omega
    subst ex
    refine rf_drift hN rm rz (fun _ => by rw [eN]; exact ⟨hKm, hKz⟩) (fun w => absurd ⟨by rw [eN]; exact hm, by rw [eN]; exact hz⟩ w) (fun _ _ M4 h4 t4 => ⟨t4, ?_, h4⟩)
    rw [t2, eN]
  · obtain ⟨g1, g2, g3, g4⟩ := c_tk hN.1 (m := m) (by rw [eN]; exact hm) (by rw [eN]; exact hTN) (o := x) (by rw [eN]; exact ⟨x0, c⟩) (by rw [eN]; exact hKm)
    rw [eN] at g2
    have hbo := bO_rng (i := x) h.1.1 hm hKm
    have next : ∀ (t' : Int) (N' : jT), (∀ a, a ≠ 607 → N' a = N a) → (¬ tk (M 609) m x ∧ t' = t ∧ N' = N ∨ tk (M 609) m x ∧ ((∃ o, 0 ≤ o ∧ o < x ∧ tk (M 609) m o ∧ lo (M 609) (zsl (M 609) z) m o = lo (M 609) (zsl (M 609) z) m x) ∧ t' = t ∧ N' = N ∨ (¬ ∃ o, 0 ≤ o ∧ o < x ∧ tk (M 609) m o ∧ lo (M 609) (zsl (M 609) z) m o = lo (M 609) (zsl (M 609) z) m x) ∧ t' = t + 1 ∧ KS (N' 607) (t + 1) (fun v => (∃ o, 0 ≤ o ∧ o < x ∧ tk (M 609) m o ∧ lo (M 609) (zsl (M 609) z) m o = v) ∨ v = lo (M 609) (zsl (M 609) z) m x))) → (∀ a, a ≠ 607 → N' a = M2 a) ∧ 0 ≤ t' ∧ t' ≤ x + 1 ∧ t' = dcn (fun v => ∃ o, 0 ≤ o ∧ o < x + 1 ∧ tk (M 609) m o ∧ lo (M 609) (zsl (M 609) z) m o = v) 0 1440 ∧ KS (N' 607) t' (fun v => ∃ o, 0 ≤ o ∧ o < x + 1 ∧ tk (M 609) m o ∧ lo (M 609) (zsl (M 609) z) m o = v) := by
      intro t' N' F' hc
      have same : (∀ v, (∃ o, 0 ≤ o ∧ o < x + 1 ∧ tk (M 609) m o ∧ lo (M 609) (zsl (M 609) z) m o = v) ↔ (∃ o, 0 ≤ o ∧ o < x ∧ tk (M 609) m o ∧ lo (M 609) (zsl (M 609) z) m o = v)) → t' = t → N' = N → (∀ a, a ≠ 607 → N' a = M2 a) ∧ 0 ≤ t' ∧ t' ≤ x + 1 ∧ t' = dcn (fun v => ∃ o, 0 ≤ o ∧ o < x + 1 ∧ tk (M 609) m o ∧ lo (M 609) (zsl (M 609) z) m o = v) 0 1440 ∧ KS (N' 607) t' (fun v => ∃ o, 0 ≤ o ∧ o < x + 1 ∧ tk (M 609) m o ∧ lo (M 609) (zsl (M 609) z) m o = v) := by
        intro hs et en
        rw [et, en]
        refine ⟨F, t0, by omega, ?_, fun i a b => (hs _).mpr (t3.1 i a b), fun v hv => t3.2 v ((hs v).mp hv)⟩
        rw [t2]; exact dcn_ext 1440 (fun v _ _ => (hs v).symm)
      rcases hc with ⟨c1, c2, c3⟩ | ⟨c1, ⟨c2, c3, c4⟩ | ⟨c2, c3, c4⟩⟩
      · refine same (fun v => ⟨fun ⟨o, q1, q2, q3, q4⟩ => ?_, fun ⟨o, q1, q2, q3, q4⟩ => ⟨o, q1, by omega, q3, q4⟩⟩) c2 c3
        by_cases c5 : o = x
        · rw [c5] at q3; exact absurd q3 c1
        · exact ⟨o, q1, by omega, q3, q4⟩
      · refine same (fun v => ⟨fun ⟨o, q1, q2, q3, q4⟩ => ?_, fun ⟨o, q1, q2, q3, q4⟩ => ⟨o, q1, by omega, q3, q4⟩⟩) c3 c4
        by_cases c5 : o = x
        · obtain ⟨o', w1, w2, w3, w4⟩ := c2
          exact ⟨o', w1, w2, w3, by rw [w4, ← c5]; exact q4⟩
        · exact ⟨o, q1, by omega, q3, q4⟩
      · have hs : ∀ v, (∃ o, 0 ≤ o ∧ o < x + 1 ∧ tk (M 609) m o ∧ lo (M 609) (zsl (M 609) z) m o = v) ↔ (∃ o, 0 ≤ o ∧ o < x ∧ tk (M 609) m o ∧ lo (M 609) (zsl (M 609) z) m o = v) ∨ v = lo (M 609) (zsl (M 609) z) m x := fun v => ⟨fun ⟨o, q1, q2, q3, q4⟩ => by
          by_cases c5 : o = x
          · right; rw [← q4, c5]
          · left; exact ⟨o, q1, by omega, q3, q4⟩, fun q => by
          rcases q with ⟨o, q1, q2, q3, q4⟩ | q
          · exact ⟨o, q1, by omega, q3, q4⟩
          · exact ⟨x, x0, by omega, c1, q.symm⟩⟩
        have rl' : 0 ≤ lo (M 609) (zsl (M 609) z) m x ∧ lo (M 609) (zsl (M 609) z) m x < 1440 := ⟨Int.emod_nonneg _ (by omega), Int.emod_lt_of_pos _ (by omega)⟩
        refine ⟨fun a ha => (F' a ha).trans (F a ha), by omega, by omega, ?_, ?_⟩
        · rw [c3, t2]; exact (dcn_add (w := lo (M 609) (zsl (M 609) z) m x) 1440 rl'.1 (by omega) c2 hs).symm
        · rw [c3]; exact ⟨fun i a b => (hs _).mpr (c4.1 i a b), fun v hv => c4.2 v ((hs v).mp hv)⟩
    refine ⟨g1, fun t' N' => (∀ a, a ≠ 607 → N' a = M2 a) ∧ 0 ≤ t' ∧ t' ≤ x + 1 ∧ t' = dcn (fun v => ∃ o, 0 ≤ o ∧ o < x + 1 ∧ tk (M 609) m o ∧ lo (M 609) (zsl (M 609) z) m o = v) 0 1440 ∧ KS (N' 607) t' (fun v => ∃ o, 0 ≤ o ∧ o < x + 1 ∧ tk (M 609) m o ∧ lo (M 609) (zsl (M 609) z) m o = v), fun t' N' hk y ey => ⟨(nD (msl (M 609) m) - y).toNat, by omega, by omega, by omega, by omega, by rw [ey]; exact hk⟩, fun q => next t N (fun _ _ => rfl) (Or.inl ⟨fun w => q (g2.mpr w), rfl, rfl⟩), fun q => ⟨⟨x0, by omega⟩, ?_⟩⟩
    have htk := g2.mp q
    have hb3 : -960 ≤ bO (M 609) m x ∧ bO (M 609) m x ≤ 16833000 := by have := htk.1; omega
    have hTl2 : Tl N (8 * z + 521) (zsl (M 609) z) := hTl.mv (fun b _ _ => by rw [F _ (by omega)]) (fun r _ _ => F _ (by omega))
    have e572 : 3 * m + 570 + 2 = 3 * m + 572 := by omega
    rw [e572, hTN x x0 c]
    refine sp_X7_offsetAt (CL.of hzo hTl2) hL ⟨by omega, by omega⟩ ?_
    intro y ey
    have hf := lF_at hL (bO (M 609) m x)
    have elo : y % 1440 = lo (M 609) (zsl (M 609) z) m x := by rw [ey]; rfl
    have rlo : 0 ≤ y % 1440 ∧ y % 1440 < 1440 := ⟨Int.emod_nonneg _ (by omega), Int.emod_lt_of_pos _ (by omega)⟩
    refine ⟨⟨by omega, by omega⟩, ⟨by omega, by omega⟩, ?_⟩
    rw [elo] at rlo ⊢
    refine sp_addKey ⟨t0, by omega⟩ t3 (fun v ⟨o, q1, q2, q3, q4⟩ => ?_) ⟨by omega, by omega⟩ (fun w => next t N (fun _ _ => rfl) (Or.inr ⟨htk, Or.inl ⟨w, rfl, rfl⟩⟩)) (fun w N' F' hK' => next (t + 1) N' F' (Or.inr ⟨htk, Or.inr ⟨w, rfl, hK'⟩⟩))
    have : 0 ≤ lo (M 609) (zsl (M 609) z) m o ∧ lo (M 609) (zsl (M 609) z) m o < 1440 := ⟨Int.emod_nonneg _ (by omega), Int.emod_lt_of_pos _ (by omega)⟩
    rw [← q4]; exact ⟨by omega, by omega⟩
