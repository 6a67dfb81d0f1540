/-! undo, save, restore -/
theorem sim_undo {M : jT} (h : Inv M) : wp_X10_undo M 0 (fun v M1 => OKq (wp_X11_undo M1 608) v) (fun e M1 => EXq (wp_X11_undo M1 608) [3] e) := by
  obtain ⟨x1, x2, x3⟩ := h.2.2.2.1.un
  obtain ⟨⟨y1, y2, y3, y4, y5⟩, y6⟩ := x1
  have hu : M 608 3 = M 48 0 := h.2.2.2.1.1.1.symm
  unfold wp_X10_undo
  simp only [Int.zero_add]
  refine ⟨⟨⟨by omega, by omega⟩, fun _ => trivial, fun _ => trivial⟩, fun x g1 g2 => refuse (by omega) (fun c => ?_) (fun c => ?_)⟩
  · have u0 : 0 < M 48 0 := by omega
    obtain ⟨kA, kB⟩ := y6 (M 48 0 - 1) (by omega) (by omega)
    rw [show (M 48 3 - M 48 0 + (M 48 0 - 1)) % 9 = (M 48 3 + 8) % 9 by omega] at kB
    unfold wp_X3_pop
    refine ⟨by omega, up_in fun M2 k2 => ?_⟩
    have F2 : ∀ a, a ≠ 48 → M2 a = M a := (fun a ha => funext fun b => by rw [k2 a b, if_neg (by omega)])
    have t2 : M2 48 3 = (M 48 3 + 8) % 9 := by rw [k2, if_pos ⟨rfl, rfl⟩]
    rw [t2]
    refine ⟨by omega, ?_⟩
    rw [show 48 + 47 * ((M 48 3 + 8) % 9) + 49 = 97 + 47 * ((M 48 3 + 8) % 9) by omega]
    refine sp_copyBook kA (kB.mv kA (fun a b1 b2 => F2 a (by omega))) (by omega) fun M6 F6 hB6 => up_in fun M7 k7 => ?_
    have F7 : ∀ a, a ≠ 48 → M7 a = M6 a := (fun a ha => funext fun b => by rw [k7 a b, if_neg (by omega)])
    have F : ∀ a, (a < 1 ∨ 47 < a) → a ≠ 48 → M7 a = M a := fun a b1 b2 => (F7 a b2).trans ((F6 a (by omega)).trans (F2 a b2))
    refine sp_spoilAll (A' := ksl (M 610) (M 48 0 - 1)) kA ⟨fun z z0 z1 => by rw [F _ (by omega) (by omega)]; exact h.2.1.1 z z0 z1, fun m m0 m1 => by rw [F _ (by omega) (by omega)]; exact h.2.1.2.2.1 m m0 m1⟩ fun M8 F8 hC8 => ?_
    have G : ∀ a, (a < 1 ∨ 47 < a) → a ≠ 48 → (a < 521 ∨ 599 < a) → M8 a = M a := fun a b1 b2 b3 => (F8 a b3).trans (F a b1 b2)
    have c0 : M8 48 0 = M 48 0 - 1 := by rw [F8 48 (by omega), k7, if_pos ⟨rfl, rfl⟩, F6 48 (by omega), k2, if_neg (by omega)]
    have c3 : M8 48 3 = (M 48 3 + 8) % 9 := by rw [F8 48 (by omega), k7, if_neg (by omega), F6 48 (by omega), t2]
    have c1 : M8 48 1 = M 48 1 := by rw [F8 48 (by omega), k7, if_neg (by omega), F6 48 (by omega), k2, if_neg (by omega)]
    have f8 : MF M M8 := fun a b1 b2 b3 => G a (by omega) (by omega) (by omega)
    have hC : CA M8 (ksl (M 610) (M 48 0 - 1)) := ⟨kA, BEq.mv (M := M6) kA hB6 (fun a b1 b2 => (F8 a (by omega)).trans (F7 a (by omega))), hC8⟩
    have hX : HXc M8 (M 48 0 - 1) (ksl (M 610)) := by
      refine ⟨⟨c0, by omega, by omega, by omega, by omega⟩, fun i i0 i1 => ?_⟩
      obtain ⟨q1, q2⟩ := y6 i i0 (by omega)
      rw [c3, show ((M 48 3 + 8) % 9 - (M 48 0 - 1) + i) % 9 = (M 48 3 - M 48 0 + i) % 9 by omega]
      exact ⟨q1, q2.mv q1 (fun a b1 b2 => G a (by omega) (by omega) (by omega))⟩
    rw [c0]
    unfold OKq wp_X11_undo
    simp only [Int.reduceAdd]
    refine up_in fun N1 n1 => ?_
    have e8 : M8 608 = M 608 := G 608 (by omega) (by omega) (by omega)
    have r3 : N1 608 3 = M 48 0 := by rw [n1, if_neg (by omega), e8, hu]
    rw [r3]
    refine ⟨⟨by omega, by omega⟩, fun _ => up_in fun N4 n4 => ?_, fun q => by omega⟩
    have G4 : ∀ a, a ≠ 608 → N4 a = M8 a := (fun a ha => funext fun b => by rw [n4 a b, if_neg (by omega), n1 a b, if_neg (by omega)])
    have r4 : N4 608 3 = M 48 0 - 1 := by rw [n4, if_pos ⟨rfl, rfl⟩]
    have e10 : M8 610 = M 610 := G 610 (by omega) (by omega) (by omega)
    refine ⟨fun n i N6 => 0 ≤ i ∧ i ≤ 1294 ∧ (1294 - i).toNat ≤ n ∧ (∀ a, a ≠ 609 → N6 a = N4 a) ∧ ∀ j, 0 ≤ j → j < i → N6 609 j = M 610 (1294 * (M 48 0 - 1) + j), ⟨1294, by omega, by omega, by omega, fun _ _ => rfl, fun j a b => by omega⟩, ?_⟩
    rintro n8 x5 N6 ⟨i0, i1, i2, F6', h6⟩
    have r6 : N6 608 3 = M 48 0 - 1 := by rw [F6' 608 (by omega), r4]
    rw [r6]
    refine ⟨⟨by omega, by omega⟩, fun c2 => up_in fun N11 n11 => ?_, fun c2 => ⟨by omega, by omega, up_in fun N14 n14 => ?_⟩⟩
    · have G11 : ∀ a, a ≠ 608 → a ≠ 609 → N11 a = M8 a := fun a b1 b2 => by rw [← G4 a b1, ← F6' a b2]; funext j; rw [n11, if_neg (by omega)]
      have C11 : ∀ b, b ≠ 0 → b ≠ 3 → b ≠ 14 → N11 608 b = M8 608 b := fun b b1 b2 b3 => by rw [n11, if_neg (by omega), F6' 608 (by omega), n4, if_neg (by omega), n1, if_neg (by omega)]
      have r11 : N11 608 3 = M 48 0 - 1 := by rw [n11, if_neg (by omega), r6]
      refine ⟨by rw [n11, if_neg (by omega), F6' 608 (by omega), n4, if_neg (by omega), n1, if_pos ⟨rfl, rfl⟩], r11, ?_⟩
      refine mk_inv (u := M 48 0 - 1) (K := ksl (M 610)) h.2.2.2.2 f8 hC hX (RM.of (fun a ha => G11 a (by omega) (by omega)) (fun b hb => C11 b (by omega) (by omega) (by omega))) (by rw [n11, if_pos ⟨rfl, rfl⟩]) (fun j j0 j1 => ?_) ⟨r11, fun i i0 i1 => by rw [G11 610 (by omega) (by omega), e10]; exact fun _ _ _ => rfl⟩ (x3.mv ?_ (fun a b1 b2 => ?_) ?_ ?_)
      · unfold ksl; rw [if_pos ⟨j0, j1⟩, n11, if_neg (by omega), h6 j j0 (by omega)]
      · rw [G11 48 (by omega) (by omega), c1]
      · rw [G11 a (by omega) (by omega), G a (by omega) (by omega) (by omega)]
      · rw [C11 5 (by omega) (by omega) (by omega), e8]
      · rw [G11 611 (by omega) (by omega), G 611 (by omega) (by omega) (by omega)]
    · intro x15 e15
      refine ⟨(1294 - x15).toNat, by omega, by omega, by omega, by omega, (fun a ha => by rw [← F6' a ha]; funext b; rw [n14, if_neg (by omega)]), fun j j0 j1 => ?_⟩
      by_cases q : j = x5
      · rw [q, n14, if_pos ⟨rfl, rfl⟩, F6' 610 (by omega), G4 610 (by omega), e10]
      · rw [n14, if_neg (by omega)]; exact h6 j j0 (by omega)
  · have u0 : M 48 0 = 0 := by omega
    have ex : x = 3 := by omega
    rw [ex]
    refine ⟨by decide, ?_⟩
    unfold wp_X11_undo
    refine up_in fun N1 n1 => ?_
    obtain ⟨i1, i2, i3⟩ := h.t n1
    have r3 : N1 608 3 = 0 := by rw [n1, if_neg (by omega), hu, u0]
    rw [r3]
    exact ⟨⟨by omega, by omega⟩, fun q => absurd rfl q, fun _ => rs i1 fun N2 h2 t2 => ⟨by rw [t2]; rfl, h2⟩⟩
theorem sim_save {M : jT} (h : Inv M) : wp_X10_save M 0 (fun v M1 => OKq (wp_X11_save M1 608) v) := by
  obtain ⟨x1, x2, x3⟩ := h.2.2.2.1.un
  unfold wp_X10_save
  simp only [Int.zero_add]
  refine sp_copyBook h.1.1 h.1.2 (by omega) fun M2 F2 hB2 => up_in fun M3 k3 => ?_
  have F3 : ∀ a, a ≠ 48 → M3 a = M2 a := (fun a ha => funext fun b => by rw [k3 a b, if_neg (by omega)])
  have G : ∀ a, (a < 48 ∨ 96 < a) → M3 a = M a := fun a ha => (F3 a (by omega)).trans (F2 a (by omega))
  have C : ∀ b, b ≠ 1 → M3 48 b = M 48 b := fun b hb => by rw [k3, if_neg (by omega), F2 48 (by omega)]
  have e0 : M3 1 0 = M 609 0 := by rw [G 1 (by omega)]; exact h.1.2.1
  rw [e0]
  unfold OKq wp_X11_save
  simp only [Int.reduceAdd]
  refine up_in fun N1 n1 => up_in fun N2 n2 => ?_
  have G2 : ∀ a, a ≠ 608 → N2 a = M3 a := (fun a ha => funext fun b => by rw [n2 a b, if_neg (by omega), n1 a b, if_neg (by omega)])
  refine ⟨fun n i N4 => 0 ≤ i ∧ i ≤ 1294 ∧ (1294 - i).toNat ≤ n ∧ (∀ a, a ≠ 611 → N4 a = N2 a) ∧ ∀ j, 0 ≤ j → j < i → N4 611 j = M 609 j, ⟨1294, by omega, by omega, by omega, fun _ _ => rfl, fun j a b => by omega⟩, ?_⟩
  rintro n6 x3' N4 ⟨i0, i1, i2, F4, h4⟩
  refine ⟨⟨by omega, by omega⟩, fun c => ?_, fun c => ⟨by omega, up_in fun N10 n10 => ?_⟩⟩
  · have R : ∀ a, a ≠ 608 → a ≠ 611 → (a < 48 ∨ 96 < a) → N4 a = M a := fun a b1 b2 b3 => (F4 a b2).trans ((G2 a b1).trans (G a b3))
    have c608 : ∀ b, b ≠ 0 → b ≠ 5 → N4 608 b = M 608 b := fun b b1 b2 => by rw [F4 608 (by omega), n2, if_neg (by omega), n1, if_neg (by omega), G 608 (by omega)]
    have c48 : ∀ b, b ≠ 1 → N4 48 b = M 48 b := fun b hb => by rw [F4 48 (by omega), G2 48 (by omega)]; exact C b hb
    have e9 : N4 609 = M 609 := R 609 (by omega) (by omega) (by omega)
    have e10 : N4 610 = M 610 := R 610 (by omega) (by omega) (by omega)
    have eq : eqA (M 609) (N4 611) := fun j j0 j1 => (h4 j j0 (by omega)).symm
    refine ⟨by rw [F4 608 (by omega), n2, if_neg (by omega), n1, if_pos ⟨rfl, rfl⟩], by rw [e9], ?_, h.2.1.mv h.1 e9 (fun a b1 b2 => R a (by omega) (by omega) (by omega)), h.2.2.1.mv e9 (fun b hb => c608 b (by omega) (by omega)) (fun a b1 b2 => R a (by omega) (by omega) (by omega)), ?_, h.2.2.2.2.mv (fun a b1 b2 => R a (by omega) (by omega) (by omega)) (c608 8 (by omega) (by omega)) (c608 10 (by omega) (by omega)) (c608 12 (by omega) (by omega)) (R _ (by omega) (by omega) (by omega)) (R _ (by omega) (by omega) (by omega))⟩
    · unfold D1; rw [e9]
      exact ⟨h.1.1, h.1.2.mv h.1.1 (fun a b1 b2 => R a (by omega) (by omega) (by omega))⟩
    · obtain ⟨⟨y1, y2⟩, y6⟩ := x1
      refine HX.mk (u := M 48 0) (K := ksl (M 610)) ⟨⟨c48 0 (by omega), by rw [c48 3 (by omega)]; exact y2⟩, fun i i0 i1 => ?_⟩ (x2.mv (c608 3 (by omega) (by omega)) e10) ⟨?_, fun _ => ⟨eq.ok h.1.1, eq.b h.1.1 (hB2.mv h.1.1 (fun a b1 b2 => ?_))⟩⟩
      · obtain ⟨q1, q2⟩ := y6 i i0 i1
        rw [c48 3 (by omega)]
        exact ⟨q1, q2.mv q1 (fun a b1 b2 => R a (by omega) (by omega) (by omega))⟩
      · have v1 : N4 48 1 = 1 := by rw [F4 48 (by omega), G2 48 (by omega), k3, if_pos ⟨rfl, rfl⟩]
        have v5 : N4 608 5 = 1 := by rw [F4 608 (by omega), n2, if_pos ⟨rfl, rfl⟩]
        rw [v1, v5]; exact ⟨⟨by omega, by omega⟩, ⟨by omega, by omega⟩, Iff.rfl⟩
      · rw [F4 a (by omega), G2 a (by omega), F3 a (by omega)]
  · intro x11 e11
    refine ⟨(1294 - x11).toNat, by omega, by omega, by omega, by omega, (fun a ha => by rw [← F4 a ha]; funext b; rw [n10, if_neg (by omega)]), fun j j0 j1 => ?_⟩
    by_cases q : j = x3'
    · rw [q, n10, if_pos ⟨rfl, rfl⟩, F4 609 (by omega), G2 609 (by omega), G 609 (by omega)]
    · rw [n10, if_neg (by omega)]; exact h4 j j0 (by omega)
theorem sim_restore {M : jT} (h : Inv M) : wp_X10_restore M 0 (fun v M1 => OKq (wp_X11_restore M1 608) v) (fun e M1 => EXq (wp_X11_restore M1 608) [3] e) := by
  obtain ⟨x1, x2, x3⟩ := h.2.2.2.1.un
  obtain ⟨⟨s1, s2, s3⟩, s4⟩ := x3
  obtain ⟨⟨y1, y2, y3, y4, y5⟩, y6⟩ := x1
  unfold wp_X10_restore
  simp only [Int.zero_add]
  refine ⟨⟨s1, fun _ => trivial, fun _ => trivial⟩, fun x g1 g2 => refuse (by omega) (fun c => ?_) (fun c => ?_)⟩
  · have u0 : M 48 1 ≠ 0 := by omega
    obtain ⟨kA, kB⟩ := s4 u0
    refine sp_copyBook kA kB (by omega) fun M6 F6 hB6 => up_in fun M7 k7 => ?_
    have F7 : ∀ a, a ≠ 48 → M7 a = M6 a := (fun a ha => funext fun b => by rw [k7 a b, if_neg (by omega)])
    have F : ∀ a, (a < 1 ∨ 47 < a) → a ≠ 48 → M7 a = M a := fun a b1 b2 => (F7 a b2).trans (F6 a (by omega))
    refine sp_spoilAll (A' := M 611) kA ⟨fun z z0 z1 => by rw [F _ (by omega) (by omega)]; exact h.2.1.1 z z0 z1, fun m m0 m1 => by rw [F _ (by omega) (by omega)]; exact h.2.1.2.2.1 m m0 m1⟩ fun M8 F8 hC8 => ?_
    have G : ∀ a, (a < 1 ∨ 47 < a) → a ≠ 48 → (a < 521 ∨ 599 < a) → M8 a = M a := fun a b1 b2 b3 => (F8 a b3).trans (F a b1 b2)
    have c0 : M8 48 0 = 0 := by rw [F8 48 (by omega), k7, if_pos ⟨rfl, rfl⟩]
    have cb : ∀ b, b ≠ 0 → M8 48 b = M 48 b := fun b hb => by rw [F8 48 (by omega), k7, if_neg (by omega), F6 48 (by omega)]
    have f8 : MF M M8 := fun a b1 b2 b3 => G a (by omega) (by omega) (by omega)
    have hB8 : BEq M8 1 (M 611) := BEq.mv (M := M6) kA hB6 (fun a b1 b2 => (F8 a (by omega)).trans (F7 a (by omega)))
    have hC : CA M8 (M 611) := ⟨kA, hB8, hC8⟩
    have hX : HXc M8 0 (ksl (M 610)) := ⟨⟨c0, by omega, by omega, by rw [cb 3 (by omega)]; omega, by rw [cb 3 (by omega)]; omega⟩, fun i i0 i1 => by omega⟩
    have e8 : M8 608 = M 608 := G 608 (by omega) (by omega) (by omega)
    have e11 : M8 611 = M 611 := G 611 (by omega) (by omega) (by omega)
    rw [hB8.1]
    unfold OKq wp_X11_restore
    simp only [Int.reduceAdd]
    refine up_in fun N1 n1 => ?_
    have G1 : ∀ a, a ≠ 608 → N1 a = M8 a := (fun a ha => funext fun b => by rw [n1 a b, if_neg (by omega)])
    have r5 : N1 608 5 = M 608 5 := by rw [n1, if_neg (by omega), e8]
    rw [r5]
    refine ⟨s2, fun _ => ?_, fun q => absurd q (s3.mp u0)⟩
    refine ⟨fun n i N6 => 0 ≤ i ∧ i ≤ 1294 ∧ (1294 - i).toNat ≤ n ∧ (∀ a, a ≠ 609 → N6 a = N1 a) ∧ ∀ j, 0 ≤ j → j < i → N6 609 j = M 611 j, ⟨1294, by omega, by omega, by omega, fun _ _ => rfl, fun j a b => by omega⟩, ?_⟩
    rintro n8 x5 N6 ⟨i0, i1, i2, F6', h6⟩
    refine ⟨⟨by omega, by omega⟩, fun c2 => up_in fun N10 n10 => up_in fun N11 n11 => ?_, fun c2 => ⟨by omega, up_in fun N14 n14 => ?_⟩⟩
    · have G11 : ∀ a, a ≠ 608 → a ≠ 609 → N11 a = M8 a := fun a b1 b2 => by rw [← G1 a b1, ← F6' a b2]; funext j; rw [n11, if_neg (by omega), n10, if_neg (by omega)]
      have C11 : ∀ b, b ≠ 0 → b ≠ 3 → b ≠ 14 → N11 608 b = M8 608 b := fun b b1 b2 b3 => by rw [n11, if_neg (by omega), n10, if_neg (by omega), F6' 608 (by omega), n1, if_neg (by omega)]
      have r11 : N11 608 3 = 0 := by rw [n11, if_neg (by omega), n10, if_pos ⟨rfl, rfl⟩]
      have e9 : ∀ j, 0 ≤ j → j < 1294 → M 611 j = N11 609 j := fun j j0 j1 => by rw [n11, if_neg (by omega), n10, if_neg (by omega), h6 j j0 (by omega)]
      refine ⟨by rw [n11, if_neg (by omega), n10, if_neg (by omega), F6' 608 (by omega), n1, if_pos ⟨rfl, rfl⟩], (e9 0 (by omega) (by omega)).symm, ?_⟩
      refine mk_inv (u := 0) (K := ksl (M 610)) h.2.2.2.2 f8 hC hX (RM.of (fun a ha => G11 a (by omega) (by omega)) (fun b hb => C11 b (by omega) (by omega) (by omega))) (by rw [n11, if_pos ⟨rfl, rfl⟩]) e9 ⟨r11, fun i i0 i1 => by omega⟩ (HXs.mv (M := M) ⟨⟨s1, s2, s3⟩, s4⟩ ?_ (fun a b1 b2 => ?_) ?_ ?_)
      · rw [G11 48 (by omega) (by omega), cb 1 (by omega)]
      · rw [G11 a (by omega) (by omega), G a (by omega) (by omega) (by omega)]
      · rw [C11 5 (by omega) (by omega) (by omega), e8]
      · rw [G11 611 (by omega) (by omega), e11]
    · intro x15 e15
      refine ⟨(1294 - x15).toNat, by omega, by omega, by omega, by omega, (fun a ha => by rw [← F6' a ha]; funext b; rw [n14, if_neg (by omega)]), fun j j0 j1 => ?_⟩
      by_cases q : j = x5
      · rw [q, n14, if_pos ⟨rfl, rfl⟩, F6' 611 (by omega), G1 611 (by omega), e11]
      · rw [n14, if_neg (by omega)]; exact h6 j j0 (by omega)
  · have u0 : M 48 1 = 0 := by omega
    have ex : x = 3 := by omega
    rw [ex]
    refine ⟨by decide, ?_⟩
    unfold wp_X11_restore
    refine up_in fun N1 n1 => ?_
    obtain ⟨i1, i2, i3⟩ := h.t n1
    have r5 : N1 608 5 = 0 := by
      rw [n1, if_neg (by omega)]
      by_cases q : M 608 5 = 0
      · exact q
      · exact absurd u0 (s3.mpr q)
    rw [r5]
    exact ⟨⟨by omega, by omega⟩, fun q => absurd rfl q, fun _ => rs i1 fun N2 h2 t2 => ⟨by rw [t2]; rfl, h2⟩⟩
