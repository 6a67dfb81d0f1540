/-! zone, instantsAgain, offsetAgain -/
theorem sim_zone {M : jT} {z w : Int} (h : Inv M) (rz : rg z) (rw' : rg w) : wp_X10_zone M 0 z w (fun v M1 => OKq (wp_X11_zone M1 608 z w) v) (fun e M1 => EXq (wp_X11_zone M1 608 z w) [1, 2] e) := by
  unfold wp_X10_zone
  refine nz h.1 rz (fun hz => ?_) (fun hz => ⟨by decide, ?_⟩)
  · have a1 := h.1.1.1
    have hzo := h.1.1.2.2.1 z hz.1 hz.2
    simp only [Int.zero_add]
    refine ⟨fun x => x = b2i (0 ≤ w ∧ w ≤ 8), fun x ex => ?_, ¬ (0 ≤ w ∧ w ≤ 8), fun q => (b2i_f q).symm, rw', fun q => by omega, fun q1 => ⟨fun q => by omega, fun q2 => (b2i_t ⟨q1, q2⟩).symm⟩⟩
    rw [ex]
    refine na (fun c => ⟨by omega, ?_⟩) (fun c => ⟨by decide, ?_⟩)
    · refine cmp' h hz fun M1 h1 e1 hT hC hL => ?_
      have hm := hL.1
      have hz1 : 0 ≤ z ∧ z < M1 609 0 := by rw [e1]; exact hz
      have hze := h1.1.2.2.2.1 z hz1.1 hz1.2
      rw [show 1 + 3 + 4 * z = 4 * z + 4 by omega, e1] at hze
      obtain ⟨t0, t1, t2, t3, t4, t5, t6, t7, t8, t9, t10⟩ := hT
      have t2 : M1 (8 * z + 521) 2 = lm (zsl (M 609) z) := t2
      have t3 : M1 (8 * z + 521) 3 = lv (zsl (M 609) z) := t3
      have ref : ∀ v, (w < 3 → v = zsl (M 609) z w) → (w = 3 → v = lm (zsl (M 609) z)) → (w = 4 → v = lv (zsl (M 609) z)) → (w = 5 → v = nE (zsl (M 609) z)) → (w = 6 → v = lF (zsl (M 609) z) (lm (zsl (M 609) z))) →
          (w = 7 → (∀ j, 0 ≤ j → j ≤ lm (zsl (M 609) z) → lF (zsl (M 609) z) j ≤ v) ∧ ∃ j, 0 ≤ j ∧ j ≤ lm (zsl (M 609) z) ∧ lF (zsl (M 609) z) j = v) → (w = 8 → (∀ j, 0 ≤ j → j ≤ lm (zsl (M 609) z) → v ≤ lF (zsl (M 609) z) j) ∧ ∃ j, 0 ≤ j ∧ j ≤ lm (zsl (M 609) z) ∧ lF (zsl (M 609) z) j = v) → OKq (wp_X11_zone M1 608 z w) v := by
        intro v g2 g3 g4 g5 g6 g7 g8
        unfold OKq wp_X11_zone
        simp only [Int.reduceAdd]
        refine th0 h1 fun M2 h2 e2 z2 => ⟨pg_zone h2 rz, fun _ => ⟨pg_in rw' ⟨by omega, by omega⟩ ⟨by omega, by omega⟩, fun _ => ⟨rw', fun c3 => ?_, fun c3 => ?_⟩, fun q => absurd c q⟩, fun q => absurd (zi.mpr (by rw [e2]; exact hz1)) q⟩
        · have hz2 : 0 ≤ z ∧ z < M2 609 0 := by rw [e2]; exact hz1
          refine sp_comp (h2.rz hz2) fun M3 f h14 hl hz3 => ?_
          obtain ⟨i1, i2, i3⟩ := h2.f1 hz2 f h14 hl
          rw [e2, e1] at hl hz3
          have z3 : M3 608 0 = 0 := by rw [i3, z2]
          have e18 : M3 608 18 = lm (zsl (M 609) z) := hl.2.2.1
          have e24 : M3 608 24 = lv (zsl (M 609) z) := hl.2.2.2.1
          rw [e18, e24, hl.1]
          refine ⟨fun c4 => ⟨fun c5 => ⟨fun c6 => ⟨fun c7 => ?_, fun c7 => ?_⟩, fun c6 => ⟨z3, (g5 c6).symm, i1⟩⟩, fun c5 => ⟨z3, (g4 c5).symm, i1⟩⟩, fun c4 => ⟨z3, (g3 c4).symm, i1⟩⟩
          · obtain ⟨o1, o2, o3, o4⟩ := oI hz3 hl (k := 0) (by omega) (by omega)
            rw [o2]
            refine ⟨o1, ?_⟩
            intro x21 e21
            refine ⟨fun n x k => 1 ≤ k ∧ k ≤ lm (zsl (M 609) z) + 1 ∧ (lm (zsl (M 609) z) + 1 - k).toNat ≤ n ∧ (-720 ≤ x ∧ x ≤ 960) ∧ (w = 7 → (∀ j, 0 ≤ j → j < k → lF (zsl (M 609) z) j ≤ x)) ∧ (w = 8 → (∀ j, 0 ≤ j → j < k → x ≤ lF (zsl (M 609) z) j)) ∧ ∃ j, 0 ≤ j ∧ j < k ∧ lF (zsl (M 609) z) j = x, ⟨(lm (zsl (M 609) z)).toNat, by omega, by omega, by omega, by omega, fun _ j j0 j1 => by rw [e21, show j = 0 by omega]; exact Int.le_refl _, fun _ j j0 j1 => by rw [e21, show j = 0 by omega]; exact Int.le_refl _, 0, by omega, by omega, e21.symm⟩, ?_⟩
            rintro n25 x22 x23 ⟨k1, k2, k3, k4, k5, k6, k7⟩
            refine ⟨⟨by omega, by omega⟩, ⟨by omega, by omega⟩, fun c8 => ?_, fun c8 => ?_⟩
            · have ek : x23 = lm (zsl (M 609) z) + 1 := by omega
              refine ⟨z3, ?_, i1⟩
              obtain ⟨j, j0, j1, j2⟩ := k7
              by_cases c9 : w = 7
              · obtain ⟨v1, i, i0, i1', i2'⟩ := g7 c9
                have := k5 c9 i i0 (by omega)
                have := v1 j j0 (by omega)
                omega
              · obtain ⟨v1, i, i0, i1', i2'⟩ := g8 (by omega)
                have := k6 (by omega) i i0 (by omega)
                have := v1 j j0 (by omega)
                omega
            · obtain ⟨p1, p2, p3, p4⟩ := oI hz3 hl (k := x23) (by omega) c8
              rw [p2]
              refine ⟨fun x => (-720 ≤ x ∧ x ≤ 960) ∧ (w = 7 → (∀ j, 0 ≤ j → j < x23 + 1 → lF (zsl (M 609) z) j ≤ x)) ∧ (w = 8 → (∀ j, 0 ≤ j → j < x23 + 1 → x ≤ lF (zsl (M 609) z) j)) ∧ ∃ j, 0 ≤ j ∧ j < x23 + 1 ∧ lF (zsl (M 609) z) j = x, ?_, fun c9 => ⟨p1, ⟨by omega, by omega⟩, ⟨by omega, by omega⟩, by omega, by omega, fun _ j j0 j1 => ?_, ?_⟩, fun c9 => ⟨p1, ⟨by omega, by omega⟩, ⟨by omega, by omega⟩, by omega, fun _ j j0 j1 => ?_, by omega, ?_⟩⟩
              · rintro x40 ⟨q1, q2, q3, q4⟩
                intro x42 e42
                rw [← e42] at q2 q3 q4
                exact ⟨(lm (zsl (M 609) z) + 1 - x42).toNat, by omega, by omega, by omega, by omega, q1, q2, q3, q4⟩
              · by_cases q : j = x23
                · rw [q]; omega
                · have := k6 (by omega) j j0 (by omega); omega
              · obtain ⟨j, j0, j1, j2⟩ := k7
                by_cases q : x22 ≤ lF (zsl (M 609) z) x23
                · exact ⟨j, j0, by omega, by omega⟩
                · exact ⟨x23, by omega, by omega, by omega⟩
              · by_cases q : j = x23
                · rw [q]; omega
                · have := k5 c9 j j0 (by omega); omega
              · obtain ⟨j, j0, j1, j2⟩ := k7
                by_cases q : lF (zsl (M 609) z) x23 ≤ x22
                · exact ⟨j, j0, by omega, by omega⟩
                · exact ⟨x23, by omega, by omega, by omega⟩
          · obtain ⟨o1, o2, o3, o4⟩ := oI hz3 hl (k := lm (zsl (M 609) z)) (by omega) (by omega)
            rw [o2]; exact ⟨o1, z3, (g6 c7).symm, i1⟩
        · refine ⟨by rw [zAt]; omega, z2, ?_, h2⟩
          rw [zAt, e2, e1, g2 (by omega), zsl_at (by omega)]
      refine ⟨rw', fun q => ?_, fun q => ?_, fun q => ?_, fun q => ?_, fun q => ?_, fun q => ?_, fun q => ⟨?_, ?_⟩, fun q => ?_, fun q => ?_⟩
      · exact ref _ (fun _ => by rw [hze.1, q]) (by omega) (by omega) (by omega) (by omega) (by omega) (by omega)
      · exact ref _ (fun _ => by rw [hze.2.1, q]) (by omega) (by omega) (by omega) (by omega) (by omega) (by omega)
      · exact ref _ (fun _ => by rw [hze.2.2.1, q]) (by omega) (by omega) (by omega) (by omega) (by omega) (by omega)
      · exact ref _ (by omega) (fun _ => t2) (by omega) (by omega) (by omega) (by omega) (by omega)
      · exact ref _ (by omega) (by omega) (fun _ => t3) (by omega) (by omega) (by omega) (by omega)
      · exact ref _ (by omega) (by omega) (by omega) (fun _ => t0) (by omega) (by omega) (by omega)
      · rw [t2]; unfold pg_X7_offsetIn; exact ⟨by omega, trivial⟩
      · rw [t2]
        exact ref _ (by omega) (by omega) (by omega) (by omega) (fun _ => t5 _ (by omega) (Int.le_refl _)) (by omega) (by omega)
      · exact ref _ (by omega) (by omega) (by omega) (by omega) (by omega) (fun _ => ⟨t7, t8⟩) (by omega)
      · exact ref _ (by omega) (by omega) (by omega) (by omega) (by omega) (by omega) (fun _ => ⟨t9, t10⟩)
    · unfold wp_X11_zone
      exact th0 h fun M2 h2 e2 t2 => ⟨pg_zone h2 rz, fun _ => ⟨pg_in rw' ⟨by omega, by omega⟩ ⟨by omega, by omega⟩, fun q => absurd q c, fun _ => rs h2 fun M3 h3 t3 => ⟨by rw [t3]; rfl, h3⟩⟩, fun q => absurd (zi.mpr (by rw [e2]; exact hz)) q⟩
  · unfold wp_X11_zone; exact bz h rz hz rfl (fun b M2 a1 a2 => ⟨a1, a2⟩)
/-! how many different values have a property -/
noncomputable def dcn (S : Int → Prop) (a : Int) : Nat → Int
  | 0 => 0
  | n + 1 => dcn S a n + b2i (S (a + n))
theorem dcn_ext {S S' : Int → Prop} {a : Int} : ∀ n : Nat, (∀ v, a ≤ v → v < a + n → (S v ↔ S' v)) → dcn S a n = dcn S' a n
  | 0, _ => rfl
  | n + 1, h => by
    simp only [dcn]
    rw [dcn_ext n (fun v v0 v1 => h v v0 (by omega)), b2i_iff' (h (a + n) (by omega) (by omega))]
where b2i_iff' {P R : Prop} (h : P ↔ R) : b2i P = b2i R := by rw [propext h]
