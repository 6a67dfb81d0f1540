/-! what the class holds, told by a row A -/
def CCA (M : jT) (A : Int → Int) : Prop := (∀ z, 0 ≤ z → z < 6 → rg (M (8 * z + 521) 0)) ∧ (∀ z, 0 ≤ z → z < A 0 → M (8 * z + 521) 0 ≠ 0 → Tl M (8 * z + 521) (zsl A z)) ∧
  (∀ m, 0 ≤ m → m < 10 → rg (M (3 * m + 570) 0) ∧ rg (M (3 * m + 570) 1)) ∧
  (∀ m, 0 ≤ m → m < A 1 → (M (3 * m + 570) 0 ≠ 0 → PL M (3 * m + 570) (msl A m)) ∧ (M (3 * m + 570) 1 ≠ 0 → M (3 * m + 570) 0 ≠ 0 ∧ LK (zsl A (msl A m 0)) ∧ TM M A m))
def CA (M : jT) (A : Int → Int) : Prop := AOk A ∧ BEq M 1 A ∧ CCA M A
theorem CA.of {M : jT} (hD : D1 M) (hC : CC M) : CA M (M 609) := ⟨hD.1, hD.2, hC⟩
theorem CA.inv {M : jT} (h : Inv M) : CA M (M 609) := CA.of h.1 h.2.1
theorem bO_eq {A B : Int → Int} {m i : Int} (h : eqA A B) (hA : AOk A) (hm : 0 ≤ m ∧ m < A 1) : bO A m i = bO B m i := by
  have a1 := hA.1
  have a2 := hA.2.1
  obtain ⟨_, z0, z1⟩ := hA.2.2.2 m hm.1 hm.2
  have e := h.m (m := m) (by omega)
  have ez := h.z (z := msl A m 0) (by omega)
  unfold bO bL
  rw [ez, e]
theorem CCA.eq {M : jT} {A B : Int → Int} (h : eqA A B) (hA : AOk A) (hc : CCA M A) : CCA M B := by
  have a1 := hA.1
  have a2 := hA.2.1
  have e0 := h 0 (by omega) (by omega)
  have e1 := h 1 (by omega) (by omega)
  obtain ⟨h1, h2, h3, h4⟩ := hc
  refine ⟨h1, fun z z0 z1 q => ?_, h3, fun m m0 m1 => ?_⟩
  · rw [← h.z (z := z) (by omega)]; exact h2 z z0 (by omega) q
  · have e := h.m (m := m) (by omega)
    obtain ⟨_, p0, p1⟩ := hA.2.2.2 m m0 (by omega)
    have ez := h.z (z := msl A m 0) (by omega)
    obtain ⟨k1, k2⟩ := h4 m m0 (by omega)
    rw [← e, ← ez]
    refine ⟨k1, fun q => ?_⟩
    obtain ⟨q1, q2, q3⟩ := k2 q
    refine ⟨q1, q2, fun i i0 i1 => ?_⟩
    rw [← e] at i1
    rw [q3 i i0 i1]; exact bO_eq h hA ⟨m0, by omega⟩
theorem CCA.mv {M M' : jT} {A : Int → Int} (hA : AOk A) (h : CCA M A) (f : ∀ a, 521 ≤ a → a ≤ 599 → M' a = M a) : CCA M' A := by
  have a1 := hA.1
  have a2 := hA.2.1
  obtain ⟨h1, h2, h3, h4⟩ := h
  unfold CCA TM
  refine ⟨fun z z0 z1 => by rw [f _ (by omega) (by omega)]; exact h1 z z0 z1, fun z z0 z1 q => ?_, fun m m0 m1 => by rw [f _ (by omega) (by omega)]; exact h3 m m0 m1, fun m m0 m1 => ?_⟩
  · rw [f _ (by omega) (by omega)] at q
    exact (h2 z z0 z1 q).mv (fun b _ _ => by rw [f _ (by omega) (by omega)]) (fun r _ _ => f _ (by omega) (by omega))
  · rw [f _ (by omega) (by omega), f (3 * m + 572) (by omega) (by omega)]
    refine ⟨fun q => ((h4 m m0 m1).1 q).mv (by rw [f _ (by omega) (by omega)]) (f _ (by omega) (by omega)), (h4 m m0 m1).2⟩
theorem CA.mv {M M' : jT} {A : Int → Int} (h : CA M A) (f : ∀ a, 1 ≤ a → a ≤ 47 → M' a = M a) (g : ∀ a, 521 ≤ a → a ≤ 599 → M' a = M a) : CA M' A :=
  ⟨h.1, h.2.1.mv h.1 (fun a _ _ => f a (by omega) (by omega)), h.2.2.mv h.1 g⟩
/-- the class's frame -/
def MF (M M' : jT) : Prop := ∀ a, (a = 0 ∨ 601 ≤ a) → a ≠ 606 → a ≠ 607 → M' a = M a
theorem MF.trans {M M1 M2 : jT} (a : MF M M1) (b : MF M1 M2) : MF M M2 := fun x h h1 h2 => (b x h h1 h2).trans (a x h h1 h2)
theorem CF7.mf {M M' : jT} (f : CF7 M M') : MF M M' := fun a _ _ _ => f a (by omega)
theorem CFr.mf {M M' : jT} (f : CFr M M') : MF M M' := fun a _ _ _ => f a (by omega)
/-- only the book and what is kept ready change -/
def PF (M M' : jT) : Prop := ∀ a, (a < 1 ∨ 47 < a) → (a < 521 ∨ 599 < a) → M' a = M a
theorem PF.trans {M M1 M2 : jT} (a : PF M M1) (b : PF M1 M2) : PF M M2 := fun x h h1 => (b x h h1).trans (a x h h1)
theorem PF.mf {M M' : jT} (f : PF M M') : MF M M' := fun a _ _ _ => f a (by omega) (by omega)
/-- the reference's frame: not the book, not what is remembered -/
def RM (M M' : jT) : Prop := (∀ a, a < 608 → M' a = M a) ∧ (M' 611 = M 611 ∧ M' 613 = M 613 ∧ M' 614 = M 614) ∧ (M' 608 5 = M 608 5 ∧ M' 608 8 = M 608 8 ∧ M' 608 10 = M 608 10 ∧ M' 608 12 = M 608 12)
theorem RM.rfl {M : jT} : RM M M := ⟨fun _ _ => Eq.refl _, ⟨Eq.refl _, Eq.refl _, Eq.refl _⟩, Eq.refl _, Eq.refl _, Eq.refl _, Eq.refl _⟩
theorem RM.trans {M M1 M2 : jT} (a : RM M M1) (b : RM M1 M2) : RM M M2 := by
  obtain ⟨a1, ⟨a2, a3, a4⟩, a5, a6, a7, a8⟩ := a
  obtain ⟨b1, ⟨b2, b3, b4⟩, b5, b6, b7, b8⟩ := b
  exact ⟨fun x h => (b1 x h).trans (a1 x h), ⟨b2.trans a2, b3.trans a3, b4.trans a4⟩, b5.trans a5, b6.trans a6, b7.trans a7, b8.trans a8⟩
theorem RM.of {M M' : jT} (h : ∀ a, a < 608 ∨ a = 611 ∨ a = 613 ∨ a = 614 → M' a = M a) (c : ∀ b, b = 5 ∨ b = 8 ∨ b = 10 ∨ b = 12 → M' 608 b = M 608 b) : RM M M' :=
  ⟨fun a ha => h a (by omega), ⟨h _ (by omega), h _ (by omega), h _ (by omega)⟩, c _ (by omega), c _ (by omega), c _ (by omega), c _ (by omega)⟩
theorem RFr.rm {M M' : jT} (f : RFr M M') : RM M M' := ⟨f.1, ⟨f.2.1.2.2.1, f.2.1.2.2.2.1, f.2.1.2.2.2.2⟩, f.2.2.2.1, f.2.2.2.2.1, f.2.2.2.2.2.1, f.2.2.2.2.2.2.1⟩
theorem HXc.mv {M M' : jT} {u : Int} {K : Int → Int → Int} (h : HXc M u K) (f : ∀ a, a = 48 ∨ (97 ≤ a ∧ a ≤ 519) → M' a = M a) : HXc M' u K := by
  obtain ⟨a1, a2⟩ := h
  unfold HXc
  rw [f 48 (by omega)]
  refine ⟨a1, fun i i0 i1 => ?_⟩
  obtain ⟨b1, b2⟩ := a2 i i0 i1
  exact ⟨b1, b2.mv b1 (fun a _ _ => f a (by omega))⟩
theorem HXr.mv {M M' : jT} {u : Int} {K : Int → Int → Int} (h : HXr M u K) (h3 : M' 608 3 = M 608 3) (e : M' 610 = M 610) : HXr M' u K := by
  unfold HXr; rw [h3, e]; exact h
theorem HXs.mv {M M' : jT} (h : HXs M) (h1 : M' 48 1 = M 48 1) (f : ∀ a, 49 ≤ a → a ≤ 96 → M' a = M a) (h5 : M' 608 5 = M 608 5) (e : M' 611 = M 611) : HXs M' := by
  unfold HXs; rw [h1, h5, e]
  refine ⟨h.1, fun q => ⟨(h.2 q).1, (h.2 q).2.mv (h.2 q).1 (fun a _ _ => f a (by omega) (by omega))⟩⟩
theorem mk_inv {M M3 M2 : jT} {A' : Int → Int} {u : Int} {K : Int → Int → Int} (hT : TX M) (f3 : MF M M3) (hC : CA M3 A') (hX : HXc M3 u K) (f2 : RM M3 M2) (e14 : M2 608 14 = -1) (e9 : eqA A' (M2 609)) (hr : HXr M2 u K) (hs : HXs M2) : Inv M2 := by
  obtain ⟨hA, hB, hCC⟩ := hC
  obtain ⟨g1, ⟨g11, g13, g14⟩, c5, c8, c10, c12⟩ := f2
  have e608 := f3 608 (by omega) (by omega) (by omega)
  refine ⟨⟨e9.ok hA, e9.b hA (hB.mv hA (fun a _ _ => g1 a (by omega)))⟩, CCA.eq e9 hA (hCC.mv hA (fun a _ _ => g1 a (by omega))), ⟨by rw [e14]; exact ⟨by omega, by omega⟩, fun z z0 z1 q => by omega⟩, HX.mk (hX.mv (fun a ha => g1 a (by omega))) hr hs, ?_⟩
  refine hT.mv (fun a a1 a2 => (g1 a (by omega)).trans (f3 a (by omega) (by omega) (by omega))) (by rw [c8, e608]) (by rw [c10, e608]) (by rw [c12, e608]) (g13.trans (f3 613 (by omega) (by omega) (by omega))) (g14.trans (f3 614 (by omega) (by omega) (by omega)))
/-! a try that fails -/
theorem tr {M : jT} {Q : jT → Prop} (h : Inv M) (kk : ∀ M', Inv M' → (∀ a, a ≠ 608 → a ≠ 612 → M' a = M a) → M' 608 0 = 0 → eqA (M' 612) (M 609) → Q M') : wp_X11_tries M 608 Q := by
  refine sp_tries fun M' F G h0 he => kk M' ?_ F h0 he
  exact h.r ⟨fun a ha => F a (by omega) (by omega), ⟨F _ (by omega) (by omega), F _ (by omega) (by omega), F _ (by omega) (by omega), F _ (by omega) (by omega), F _ (by omega) (by omega)⟩, G _ (by omega), G _ (by omega), G _ (by omega), G _ (by omega), G _ (by omega)⟩ (h.2.2.1.mv (F _ (by omega) (by omega)) (fun b hb => G b (by omega)) (fun a _ _ => F a (by omega) (by omega)))
theorem sp_back {M : jT} {z : Int} {Q : Int → jT → Prop} (he : eqA (M 612) (M 609)) (hz : rg z ∧ z < 0) (kk : wp_X11_raises M 608 (-z) Q) : wp_X11_ends M 608 z Q := by
  unfold wp_X11_ends
  simp only [Int.reduceAdd]
  refine ⟨hz.1, fun c => by omega, fun c => ?_⟩
  refine ⟨fun n i M6 => 0 ≤ i ∧ i ≤ 1294 ∧ (1294 - i).toNat ≤ n ∧ M6 = M, ⟨1294, by omega, by omega, by omega, rfl⟩, ?_⟩
  rintro n8 x5 M6 ⟨i0, i1, i2, rfl⟩
  refine ⟨⟨by omega, by omega⟩, fun _ => kk, fun c2 => ⟨by omega, up_in fun M14 h14 => ?_⟩⟩
  intro x15 e15
  refine ⟨(1294 - x15).toNat, by omega, by omega, by omega, by omega, funext fun a => funext fun b => ?_⟩
  rw [h14]; split
  · rename_i q; rw [q.1, q.2]; exact he x5 i0 c2
  · rfl
theorem sp_ends_no {M : jT} {z : Int} {Q : Int → jT → Prop} (hI : Inv M) (he : eqA (M 612) (M 609)) (hz : rg z ∧ z < 0) (kk : ∀ M', Inv M' → M' 608 0 = -z → Q 0 M') : wp_X11_ends M 608 z Q :=
  sp_back he hz (rs hI kk)
/-! lines and plans spoiled -/
theorem sp_spoil {M : jT} {z : Int} {A A' : Int → Int} {Q : jT → Prop} (hz : 0 ≤ z ∧ z < 6) (hA : AOk A) (hA' : AOk A') (hc : CCA M A) (h1 : ∀ y, 0 ≤ y → y < A' 0 → y ≠ z → y < A 0 ∧ zsl A' y = zsl A y) (h2 : A' 1 = A 1) (h3 : ∀ m, 0 ≤ m → m < A 1 → msl A' m = msl A m)
    (kk : ∀ M', (∀ a, a < 521 ∨ 599 < a → M' a = M a) → CCA M' A' → Q M') : wp_X10_spoil M 0 z Q := by
  have a1 := hA'.1
  have a2 := hA.2.1
  obtain ⟨c1, c2, c3, c4⟩ := hc
  unfold wp_X10_spoil
  simp only [Int.zero_add]
  refine ⟨hz, up_in fun M3 k3 => ?_⟩
  have F3 : ∀ a, a ≠ 8 * z + 521 → M3 a = M a := (fun a ha => funext fun b => by rw [k3 a b, if_neg (by omega)])
  have z3 : M3 (8 * z + 521) 0 = 0 := by rw [k3, if_pos ⟨rfl, rfl⟩]
  refine ⟨fun n m M5 => 0 ≤ m ∧ m ≤ 10 ∧ (10 - m).toNat ≤ n ∧ (∀ a, a < 570 ∨ 599 < a → M5 a = M3 a) ∧ (∀ i, 0 ≤ i → i < 10 → M5 (3 * i + 571) = M3 (3 * i + 571) ∧ M5 (3 * i + 570) 0 = M3 (3 * i + 570) 0 ∧ M5 (3 * i + 570) 2 = M3 (3 * i + 570) 2 ∧ rg (M5 (3 * i + 570) 1)) ∧ ∀ i, 0 ≤ i → i < m → M5 (3 * i + 570) 1 = 0, ⟨10, by omega, by omega, by omega, fun _ _ => rfl, fun i i0 i1 => ⟨rfl, rfl, rfl, by rw [F3 _ (by omega)]; exact (c3 i i0 i1).2⟩, fun i _ _ => by omega⟩, ?_⟩
  rintro n7 x4 M5 ⟨m0, m1, m2, F5, G5, z5⟩
  refine ⟨⟨by omega, by omega⟩, fun c => ?_, fun c => ⟨by omega, up_in fun M12 k12 => ?_⟩⟩
  · refine kk M5 (fun a ha => (F5 a (by omega)).trans (F3 a (by omega))) ⟨fun y y0 y1 => ?_, fun y y0 y1 q => ?_, fun m p0 p1 => ⟨?_, (G5 m p0 p1).2.2.2⟩, fun m p0 p1 => ⟨fun q => ?_, fun q => ?_⟩⟩
    · rw [F5 _ (by omega)]
      by_cases c : y = z
      · rw [c, z3]; exact ⟨by omega, by omega⟩
      · rw [F3 _ (by omega)]; exact c1 y y0 y1
    · rw [F5 _ (by omega)] at q
      by_cases c : y = z
      · rw [c, z3] at q; exact absurd rfl q
      · rw [F3 _ (by omega)] at q
        obtain ⟨y2, e⟩ := h1 y y0 y1 c
        rw [e]
        exact (c2 y y0 y2 q).mv (fun b _ _ => by rw [F5 _ (by omega), F3 _ (by omega)]) (fun r _ _ => by rw [F5 _ (by omega), F3 _ (by omega)])
    · rw [(G5 m p0 p1).2.1, F3 _ (by omega)]; exact (c3 m p0 p1).1
    · obtain ⟨g1, g2, g3, g4⟩ := G5 m p0 (by omega)
      rw [g2, F3 _ (by omega)] at q
      rw [h3 m p0 (by omega)]
      exact ((c4 m p0 (by omega)).1 q).mv (by rw [g3, F3 _ (by omega)]) (by rw [show 3 * m + 570 + 1 = 3 * m + 571 by omega, g1, F3 _ (by omega)])
    · exact absurd (z5 m p0 (by omega)) q
  · intro x13 e13
    refine ⟨(10 - x13).toNat, by omega, by omega, by omega, by omega, fun a ha => ?_, fun i i0 i1 => ?_, fun i i0 i1 => ?_⟩
    · rw [← F5 a ha]; funext b; rw [k12, if_neg (by omega)]
    · obtain ⟨g1, g2, g3, g4⟩ := G5 i i0 i1
      refine ⟨?_, ?_, ?_, ?_⟩
      · rw [← g1]; funext b; rw [k12, if_neg (by omega)]
      · rw [k12, if_neg (by omega), g2]
      · rw [k12, if_neg (by omega), g3]
      · rw [k12]; split
        · exact ⟨by omega, by omega⟩
        · exact g4
    · rw [k12]
      by_cases q : i = x4
      · rw [if_pos ⟨by omega, rfl⟩]
      · rw [if_neg (by omega)]; exact z5 i i0 (by omega)
theorem sp_spoilPlan {M : jT} {m k : Int} {A A' : Int → Int} {Q : jT → Prop} (hk : k = 3 * m + 570) (hm : 0 ≤ m ∧ m < 10) (hA : AOk A) (hA' : AOk A') (hc : CCA M A) (h1 : A' 0 = A 0) (h2 : ∀ z, 0 ≤ z → z < A 0 → zsl A' z = zsl A z) (h3 : ∀ i, 0 ≤ i → i < A' 1 → i ≠ m → i < A 1 ∧ msl A' i = msl A i)
    (kk : ∀ M', (∀ a, a ≠ 3 * m + 570 → M' a = M a) → CCA M' A' → Q M') : wp_X5_spoil M k Q := by
  subst hk
  have a1 := hA.1
  have a2 := hA'.2.1
  obtain ⟨c1, c2, c3, c4⟩ := hc
  unfold wp_X5_spoil
  refine up_in fun M1 k1 => up_in fun M2 k2 => ?_
  have F : ∀ a, a ≠ 3 * m + 570 → M2 a = M a := (fun a ha => funext fun b => by rw [k2 a b, if_neg (by omega), k1 a b, if_neg (by omega)])
  have b0 : M2 (3 * m + 570) 0 = 0 := by rw [k2, if_neg (by omega), k1, if_pos ⟨rfl, rfl⟩]
  have b1 : M2 (3 * m + 570) 1 = 0 := by rw [k2, if_pos ⟨rfl, rfl⟩]
  refine kk M2 F ⟨fun y y0 y1 => by rw [F _ (by omega)]; exact c1 y y0 y1, fun y y0 y1 q => ?_, fun i i0 i1 => ?_, fun i i0 i1 => ?_⟩
  · rw [F _ (by omega)] at q
    rw [h1] at y1
    rw [h2 y y0 y1]
    exact (c2 y y0 y1 q).mv (fun b _ _ => by rw [F _ (by omega)]) (fun r _ _ => F _ (by omega))
  · by_cases c : i = m
    · rw [c, b0, b1]; exact ⟨⟨by omega, by omega⟩, by omega, by omega⟩
    · rw [F _ (by omega)]; exact c3 i i0 i1
  · by_cases c : i = m
    · rw [c, b0, b1]; exact ⟨fun q => absurd rfl q, fun q => absurd rfl q⟩
    · obtain ⟨i2, e⟩ := h3 i i0 i1 c
      obtain ⟨_, p0, p1⟩ := hA.2.2.2 i i0 i2
      obtain ⟨k1, k2⟩ := c4 i i0 i2
      rw [F _ (by omega), e, h2 _ p0 p1]
      refine ⟨fun q => (k1 q).mv (by rw [F _ (by omega)]) (F _ (by omega)), fun q => ?_⟩
      obtain ⟨q1, q2, q3⟩ := k2 q
      refine ⟨q1, q2, fun j j0 j1 => ?_⟩
      rw [e] at j1
      rw [F _ (by omega), q3 j j0 j1]
      unfold bO bL
      rw [e, h2 _ p0 p1]
theorem sp_spoilAll {M : jT} {A' : Int → Int} {Q : jT → Prop} (hA' : AOk A') (hr : (∀ z, 0 ≤ z → z < 6 → rg (M (8 * z + 521) 0)) ∧ (∀ m, 0 ≤ m → m < 10 → rg (M (3 * m + 570) 0) ∧ rg (M (3 * m + 570) 1)))
    (kk : ∀ M', (∀ a, a < 521 ∨ 599 < a → M' a = M a) → CCA M' A' → Q M') : wp_X10_spoilAll M 0 Q := by
  have a1 := hA'.1
  have a2 := hA'.2.1
  unfold wp_X10_spoilAll wp_X5_spoil
  simp only [Int.zero_add]
  refine ⟨fun n z M2 => 0 ≤ z ∧ z ≤ 6 ∧ (6 - z).toNat ≤ n ∧ (∀ a, a < 521 ∨ 569 < a → M2 a = M a) ∧ (∀ y, 0 ≤ y → y < 6 → rg (M2 (8 * y + 521) 0)) ∧ ∀ y, 0 ≤ y → y < z → M2 (8 * y + 521) 0 = 0, ⟨6, by omega, by omega, by omega, fun _ _ => rfl, hr.1, fun y _ _ => by omega⟩, ?_⟩
  rintro n4 x1 M2 ⟨z0, z1, z2, F2, r2, h2⟩
  refine ⟨⟨by omega, by omega⟩, fun c => ?_, fun c => ⟨by omega, up_in fun M21 k21 => ?_⟩⟩
  · refine ⟨fun n m M8 => 0 ≤ m ∧ m ≤ 10 ∧ (10 - m).toNat ≤ n ∧ (∀ a, a < 570 ∨ 599 < a → M8 a = M2 a) ∧ (∀ i, 0 ≤ i → i < 10 → rg (M8 (3 * i + 570) 0) ∧ rg (M8 (3 * i + 570) 1)) ∧ ∀ i, 0 ≤ i → i < m → M8 (3 * i + 570) 0 = 0 ∧ M8 (3 * i + 570) 1 = 0, ⟨10, by omega, by omega, by omega, fun _ _ => rfl, fun i i0 i1 => by rw [F2 _ (by omega)]; exact hr.2 i i0 i1, fun i _ _ => by omega⟩, ?_⟩
    rintro n10 x7 M8 ⟨m0, m1, m2, F8, r8, h8⟩
    refine ⟨⟨by omega, by omega⟩, fun c3 => ?_, fun c3 => ⟨by omega, up_in fun M9 k9 => up_in fun M10 k10 => ?_⟩⟩
    · refine kk M8 (fun a ha => (F8 a (by omega)).trans (F2 a (by omega))) ⟨fun y y0 y1 => by rw [F8 _ (by omega)]; exact r2 y y0 y1, fun y y0 y1 q => ?_, r8, fun i i0 i1 => ⟨fun q => absurd (h8 i i0 (by omega)).1 q, fun q => absurd (h8 i i0 (by omega)).2 q⟩⟩
      rw [F8 _ (by omega)] at q
      exact absurd (h2 y y0 (by omega)) q
    · intro x17 e17
      have b0 : M10 (3 * x7 + 570) 0 = 0 := by rw [k10, if_neg (by omega), k9, if_pos ⟨rfl, rfl⟩]
      have b1 : M10 (3 * x7 + 570) 1 = 0 := by rw [k10, if_pos ⟨rfl, rfl⟩]
      have F10 : ∀ a, a ≠ 3 * x7 + 570 → M10 a = M8 a := (fun a ha => funext fun b => by rw [k10 a b, if_neg (by omega), k9 a b, if_neg (by omega)])
      refine ⟨(10 - x17).toNat, by omega, by omega, by omega, by omega, fun a ha => (F10 a (by omega)).trans (F8 a ha), fun i i0 i1 => ?_, fun i i0 i1 => ?_⟩
      · by_cases q : i = x7
        · rw [q, b0, b1]; exact ⟨⟨by omega, by omega⟩, by omega, by omega⟩
        · rw [F10 _ (by omega)]; exact r8 i i0 i1
      · by_cases q : i = x7
        · rw [q]; exact ⟨b0, b1⟩
        · rw [F10 _ (by omega)]; exact h8 i i0 (by omega)
  · intro x22 e22
    have F21 : ∀ a, a ≠ 8 * x1 + 521 → M21 a = M2 a := (fun a ha => funext fun b => by rw [k21 a b, if_neg (by omega)])
    refine ⟨(6 - x22).toNat, by omega, by omega, by omega, by omega, fun a ha => (F21 a (by omega)).trans (F2 a ha), fun y y0 y1 => ?_, fun y y0 y1 => ?_⟩
    · rw [k21]; split
      · exact ⟨by omega, by omega⟩
      · exact r2 y y0 y1
    · by_cases q : y = x1
      · rw [q, k21, if_pos ⟨rfl, rfl⟩]
      · rw [F21 _ (by omega)]; exact h2 y y0 (by omega)
