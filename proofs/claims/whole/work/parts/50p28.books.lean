/-! books: copies, what is remembered -/
def eqA (A B : Int → Int) : Prop := ∀ i, 0 ≤ i → i < 1294 → A i = B i
theorem eqA.z {A B : Int → Int} (h : eqA A B) {z : Int} (hz : 0 ≤ z ∧ z < 6) : zsl A z = zsl B z := zsl_eq fun i i0 i1 => h _ (by omega) (by omega)
theorem eqA.m {A B : Int → Int} (h : eqA A B) {m : Int} (hm : 0 ≤ m ∧ m < 10) : msl A m = msl B m := msl_eq fun i i0 i1 => h _ (by omega) (by omega)
theorem eqA.ok {A B : Int → Int} (h : eqA A B) (hA : AOk A) : AOk B := by
  obtain ⟨h1, h2, h3, h4⟩ := hA
  have e0 := h 0 (by omega) (by omega)
  have e1 := h 1 (by omega) (by omega)
  unfold AOk
  rw [← e0, ← e1]
  exact ⟨h1, h2, fun z z0 z1 => by rw [← h.z ⟨z0, by omega⟩]; exact h3 z z0 z1, fun m m0 m1 => by rw [← h.m ⟨m0, by omega⟩]; exact h4 m m0 m1⟩
theorem eqA.b {A B : Int → Int} (h : eqA A B) (hA : AOk A) {M : jT} {k : Int} (hB : BEq M k A) : BEq M k B := by
  obtain ⟨h1, h2, h3, h4⟩ := hB
  have a1 := hA.1
  have a2 := hA.2.1
  have e0 := h 0 (by omega) (by omega)
  have e1 := h 1 (by omega) (by omega)
  unfold BEq
  rw [← e0, ← e1]
  exact ⟨h1, h2, fun z z0 z1 => by rw [← h.z ⟨z0, by omega⟩]; exact h3 z z0 z1, fun m m0 m1 => by rw [← h.m ⟨m0, by omega⟩]; exact h4 m m0 m1⟩
theorem eqA.symm {A B : Int → Int} (h : eqA A B) : eqA B A := fun i a b => (h i a b).symm
theorem eqA.trans {A B C : Int → Int} (h : eqA A B) (h2 : eqA B C) : eqA A C := fun i a b => (h i a b).trans (h2 i a b)
theorem sp_copyZone {M : jT} {d s : Int} {Z : Int → Int} {Q : jT → Prop} (hz : ZEq M s Z) (ho : ZOk Z) (hd : d + 3 < s ∨ s + 3 < d)
    (kk : ∀ M', (∀ a, a < d ∨ d + 3 < a → M' a = M a) → ZEq M' d Z → Q M') : wp_X9_copyFrom M d s Q := by
  have h1 := ho.2.1
  have h2 := ho.2.2.1
  obtain ⟨z0, z1, z2, z3, z4⟩ := hz
  unfold wp_X9_copyFrom
  refine up_in fun M1 g1 => up_in fun M2 g2 => up_in fun M3 g3 => ?_
  have F3 : ∀ a, a ≠ d → M3 a = M a := (fun a ha => funext fun b => by rw [g3 a b, if_neg (by omega), g2 a b, if_neg (by omega), g1 a b, if_neg (by omega)])
  have b0 : M3 d 0 = Z 0 := by rw [g3, if_neg (by omega), g2, if_neg (by omega), g1, if_pos ⟨rfl, rfl⟩, z0]
  have b1 : M3 d 1 = Z 1 := by rw [g3, if_neg (by omega), g2, if_pos ⟨rfl, rfl⟩, g1, if_neg (by omega), z1]
  have b2 : M3 d 2 = Z 2 := by rw [g3, if_pos ⟨rfl, rfl⟩, g2, if_neg (by omega), g1, if_neg (by omega), z2]
  rw [b1, F3 (s + 1) (by omega)]
  refine ⟨by omega, upw_in fun M5 g5 => ?_⟩
  have F5 : ∀ a, a ≠ d + 1 → M5 a = M3 a := (fun a ha => funext fun b => by rw [g5 a b, if_neg (by omega)])
  rw [F5 d (by omega), b2, F5 (s + 2) (by omega), F3 (s + 2) (by omega)]
  refine ⟨by omega, upw_in fun M7 g7 => ?_⟩
  have F7 : ∀ a, a ≠ d + 2 → M7 a = M5 a := (fun a ha => funext fun b => by rw [g7 a b, if_neg (by omega)])
  rw [F7 d (by omega), F5 d (by omega), b2, F7 (s + 3) (by omega), F5 (s + 3) (by omega), F3 (s + 3) (by omega)]
  refine ⟨by omega, upw_in fun M9 g9 => ?_⟩
  have F9 : ∀ a, a ≠ d + 3 → M9 a = M7 a := (fun a ha => funext fun b => by rw [g9 a b, if_neg (by omega)])
  refine kk M9 (fun a ha => by rw [F9 a (by omega), F7 a (by omega), F5 a (by omega), F3 a (by omega)]) ⟨?_, ?_, ?_, fun r j r0 r1 j0 j1 => ?_, fun c c0 c1 => ⟨?_, ?_⟩⟩
  · rw [F9 d (by omega), F7 d (by omega), F5 d (by omega), b0]
  · rw [F9 d (by omega), F7 d (by omega), F5 d (by omega), b1]
  · rw [F9 d (by omega), F7 d (by omega), F5 d (by omega), b2]
  · rw [F9 _ (by omega), F7 _ (by omega), g5, if_pos rfl, if_pos (by omega), ← z3 r j r0 r1 j0 j1]
    congr 1; omega
  · rw [F9 _ (by omega), g7, if_pos rfl, if_pos (by omega), ← (z4 c c0 c1).1]
    congr 1; omega
  · rw [g9, if_pos rfl, if_pos (by omega), ← (z4 c c0 c1).2]
    congr 1; omega
theorem sp_copyMeeting {M : jT} {d s : Int} {G : Int → Int} {Q : jT → Prop} (hg : GEq M s G) (hd : d + 1 < s ∨ s + 1 < d)
    (kk : ∀ M', (∀ a, a < d ∨ d + 1 < a → M' a = M a) → GEq M' d G → Q M') : wp_X4_copyFrom M d s Q := by
  obtain ⟨g0, g1, g2, g3⟩ := hg
  unfold wp_X4_copyFrom
  refine up_in fun M1 k1 => up_in fun M2 k2 => up_in fun M3 k3 => up_in fun M4 k4 => up_in fun M5 k5 => up_in fun M6 k6 => up_in fun M7 k7 => up_in fun M8 k8 => up_in fun M9 k9 => up_in fun M10 k10 => ?_
  have F10 : ∀ a, a ≠ d → M10 a = M a := (fun a ha => funext fun b => by rw [k10 a b, if_neg (by omega), k9 a b, if_neg (by omega), k8 a b, if_neg (by omega), k7 a b, if_neg (by omega), k6 a b, if_neg (by omega), k5 a b, if_neg (by omega), k4 a b, if_neg (by omega), k3 a b, if_neg (by omega), k2 a b, if_neg (by omega), k1 a b, if_neg (by omega)])
  have r1 : ∀ b, M1 s b = M s b := fun b => by rw [k1, if_neg (by omega)]
  have r2 : ∀ b, M2 s b = M s b := fun b => by rw [k2, if_neg (by omega), r1]
  have r3 : ∀ b, M3 s b = M s b := fun b => by rw [k3, if_neg (by omega), r2]
  have r4 : ∀ b, M4 s b = M s b := fun b => by rw [k4, if_neg (by omega), r3]
  have r5 : ∀ b, M5 s b = M s b := fun b => by rw [k5, if_neg (by omega), r4]
  have r6 : ∀ b, M6 s b = M s b := fun b => by rw [k6, if_neg (by omega), r5]
  have r7 : ∀ b, M7 s b = M s b := fun b => by rw [k7, if_neg (by omega), r6]
  have r8 : ∀ b, M8 s b = M s b := fun b => by rw [k8, if_neg (by omega), r7]
  have r9 : ∀ b, M9 s b = M s b := fun b => by rw [k9, if_neg (by omega), r8]
  rw [r1] at k2
  rw [r2] at k3
  rw [r3] at k4
  rw [r4] at k5
  rw [r5] at k6
  rw [r6] at k7
  rw [r7] at k8
  rw [r8] at k9
  rw [r9] at k10
  have cp : ∀ i, 0 ≤ i → i < 10 → M10 d i = M s i := fun i i0 i1 => by
    rcases (show i = 0 ∨ i = 1 ∨ i = 2 ∨ i = 3 ∨ i = 4 ∨ i = 5 ∨ i = 6 ∨ i = 7 ∨ i = 8 ∨ i = 9 by omega) with q | q | q | q | q | q | q | q | q | q
    · rw [q, k10, if_neg (by omega), k9, if_neg (by omega), k8, if_neg (by omega), k7, if_neg (by omega), k6, if_neg (by omega), k5, if_neg (by omega), k4, if_neg (by omega), k3, if_neg (by omega), k2, if_neg (by omega), k1, if_pos ⟨rfl, rfl⟩]
    · rw [q, k10, if_neg (by omega), k9, if_neg (by omega), k8, if_neg (by omega), k7, if_neg (by omega), k6, if_neg (by omega), k5, if_neg (by omega), k4, if_neg (by omega), k3, if_neg (by omega), k2, if_pos ⟨rfl, rfl⟩]
    · rw [q, k10, if_neg (by omega), k9, if_neg (by omega), k8, if_neg (by omega), k7, if_neg (by omega), k6, if_neg (by omega), k5, if_neg (by omega), k4, if_neg (by omega), k3, if_pos ⟨rfl, rfl⟩]
    · rw [q, k10, if_neg (by omega), k9, if_neg (by omega), k8, if_neg (by omega), k7, if_neg (by omega), k6, if_neg (by omega), k5, if_neg (by omega), k4, if_pos ⟨rfl, rfl⟩]
    · rw [q, k10, if_neg (by omega), k9, if_neg (by omega), k8, if_neg (by omega), k7, if_neg (by omega), k6, if_neg (by omega), k5, if_pos ⟨rfl, rfl⟩]
    · rw [q, k10, if_neg (by omega), k9, if_neg (by omega), k8, if_neg (by omega), k7, if_neg (by omega), k6, if_pos ⟨rfl, rfl⟩]
    · rw [q, k10, if_neg (by omega), k9, if_neg (by omega), k8, if_neg (by omega), k7, if_pos ⟨rfl, rfl⟩]
    · rw [q, k10, if_neg (by omega), k9, if_neg (by omega), k8, if_pos ⟨rfl, rfl⟩]
    · rw [q, k10, if_neg (by omega), k9, if_pos ⟨rfl, rfl⟩]
    · rw [q, k10, if_pos ⟨rfl, rfl⟩]
  rw [F10 (s + 1) (by omega)]
  refine ⟨by omega, upw_in fun M12 k12 => ?_⟩
  have F12 : ∀ a, a ≠ d + 1 → M12 a = M10 a := (fun a ha => funext fun b => by rw [k12 a b, if_neg (by omega)])
  have ed : M12 d = M10 d := F12 d (by omega)
  refine kk M12 (fun a ha => by rw [F12 a (by omega), F10 a (by omega)]) ⟨fun i i0 i1 => ?_, fun i i0 i1 => ?_, ?_, fun i i0 i1 => ?_⟩
  · rw [ed, cp i i0 (by omega)]; exact g0 i i0 i1
  · rw [k12, if_pos rfl, if_pos (by omega), ← g1 i i0 i1]; congr 1; omega
  · rw [ed, cp 9 (by omega) (by omega)]; exact g2
  · rw [ed, cp 9 (by omega) (by omega)]; exact g3 i i0 i1
theorem sp_copyBook {M : jT} {d s : Int} {A : Int → Int} {Q : jT → Prop} (hA : AOk A) (hB : BEq M s A) (hd : d + 46 < s ∨ s + 46 < d)
    (kk : ∀ M', (∀ a, a < d ∨ d + 46 < a → M' a = M a) → BEq M' d A → Q M') : wp_X0_copyFrom M d s Q := by
  have a1 := hA.1
  have a2 := hA.2.1
  obtain ⟨b0, b1, b2, b3⟩ := hB
  unfold wp_X0_copyFrom
  refine up_in fun M1 g1 => up_in fun M2 g2 => ?_
  have F2 : ∀ a, a ≠ d → M2 a = M a := (fun a ha => funext fun b => by rw [g2 a b, if_neg (by omega), g1 a b, if_neg (by omega)])
  have c0 : M2 d 0 = A 0 := by rw [g2, if_neg (by omega), g1, if_pos ⟨rfl, rfl⟩, b0]
  have c1 : M2 d 1 = A 1 := by rw [g2, if_pos ⟨rfl, rfl⟩, g1, if_neg (by omega), b1]
  refine ⟨fun n z M4 => 0 ≤ z ∧ z ≤ A 0 ∧ (A 0 - z).toNat ≤ n ∧ (∀ a, a < d ∨ d + 46 < a → M4 a = M a) ∧ M4 d = M2 d ∧ ∀ y, 0 ≤ y → y < z → ZEq M4 (d + 3 + 4 * y) (zsl A y), ⟨(A 0).toNat, by omega, by omega, by omega, fun a ha => F2 a (by omega), rfl, fun y p q => by omega⟩, ?_⟩
  rintro n6 x3 M4 ⟨z0, z1, z2, F4, e4, hz4⟩
  rw [e4, c0]
  refine ⟨⟨by omega, by omega⟩, ⟨by omega, by omega⟩, fun c => ?_, fun c => ⟨by omega, ?_⟩⟩
  · have ez : x3 = A 0 := by omega
    rw [ez] at hz4
    refine ⟨fun n m M11 => 0 ≤ m ∧ m ≤ A 1 ∧ (A 1 - m).toNat ≤ n ∧ (∀ a, a < d ∨ d + 46 < a → M11 a = M a) ∧ (∀ a, a < d + 27 → M11 a = M4 a) ∧ ∀ y, 0 ≤ y → y < m → GEq M11 (d + 27 + 2 * y) (msl A y), ⟨(A 1).toNat, by omega, by omega, by omega, F4, fun _ _ => rfl, fun y p q => by omega⟩, ?_⟩
    rintro n13 x10 M11 ⟨m0, m1, m2, F11, L11, hg11⟩
    rw [L11 d (by omega), e4, c1]
    refine ⟨⟨by omega, by omega⟩, ⟨by omega, by omega⟩, fun c3 => ?_, fun c3 => ⟨by omega, ?_⟩⟩
    · have em : x10 = A 1 := by omega
      rw [em] at hg11
      exact kk M11 F11 ⟨by rw [L11 d (by omega), e4, c0], by rw [L11 d (by omega), e4, c1], fun y y0 y1 => (hz4 y y0 y1).mv (L11 _ (by omega)) (L11 _ (by omega)) (L11 _ (by omega)) (L11 _ (by omega)), hg11⟩
    · have hgs : GEq M11 (s + 2 * x10 + 27) (msl A x10) := by
        rw [show s + 2 * x10 + 27 = s + 27 + 2 * x10 by omega]
        exact (b3 x10 m0 c3).mv (F11 _ (by omega)) (F11 _ (by omega))
      refine sp_copyMeeting hgs (by omega) fun M21 F21 hg21 => ?_
      rw [show d + 2 * x10 + 27 = d + 27 + 2 * x10 by omega] at F21 hg21
      intro x22 e22
      refine ⟨(A 1 - x22).toNat, by omega, by omega, by omega, by omega, fun a ha => (F21 a (by omega)).trans (F11 a ha), fun a ha => (F21 a (by omega)).trans (L11 a ha), fun y y0 y1 => ?_⟩
      by_cases q : y = x10
      · rw [q]; exact hg21
      · exact (hg11 y y0 (by omega)).mv (F21 _ (by omega)) (F21 _ (by omega))
  · have hzs : ZEq M4 (s + 4 * x3 + 3) (zsl A x3) := by
      rw [show s + 4 * x3 + 3 = s + 3 + 4 * x3 by omega]
      exact (b2 x3 z0 c).mv (F4 _ (by omega)) (F4 _ (by omega)) (F4 _ (by omega)) (F4 _ (by omega))
    refine sp_copyZone hzs (hA.2.2.1 x3 z0 c) (by omega) fun M28 F28 hz28 => ?_
    rw [show d + 4 * x3 + 3 = d + 3 + 4 * x3 by omega] at F28 hz28
    intro x29 e29
    refine ⟨(A 0 - x29).toNat, by omega, by omega, by omega, by omega, fun a ha => (F28 a (by omega)).trans (F4 a ha), (F28 d (by omega)).trans e4, fun y y0 y1 => ?_⟩
    by_cases q : y = x3
    · rw [q]; exact hz28
    · exact (hz4 y y0 (by omega)).mv (F28 _ (by omega)) (F28 _ (by omega)) (F28 _ (by omega)) (F28 _ (by omega))
/-! what is remembered -/
def HXc (M : jT) (u : Int) (K : Int → Int → Int) : Prop := (M 48 0 = u ∧ 0 ≤ u ∧ u ≤ 8 ∧ 0 ≤ M 48 3 ∧ M 48 3 < 9) ∧ ∀ i, 0 ≤ i → i < u → AOk (K i) ∧ BEq M (97 + 47 * ((M 48 3 - u + i) % 9)) (K i)
def HXr (M : jT) (u : Int) (K : Int → Int → Int) : Prop := M 608 3 = u ∧ ∀ i, 0 ≤ i → i < u → eqA (K i) (ksl (M 610) i)
def HXs (M : jT) : Prop := (rg (M 48 1) ∧ rg (M 608 5) ∧ (M 48 1 ≠ 0 ↔ M 608 5 ≠ 0)) ∧ (M 48 1 ≠ 0 → AOk (M 611) ∧ BEq M 49 (M 611))
theorem HX.un {M : jT} (h : HX M) : HXc M (M 48 0) (ksl (M 610)) ∧ HXr M (M 48 0) (ksl (M 610)) ∧ HXs M := by
  obtain ⟨⟨h1, h1'⟩, h2, h3, h4⟩ := h
  exact ⟨⟨⟨rfl, h1'.1, h1'.2.1, h1'.2.2.1, h1'.2.2.2⟩, h2⟩, ⟨h1.symm, fun i _ _ j _ _ => rfl⟩, h3, h4⟩
theorem HX.mk {M : jT} {u : Int} {K : Int → Int → Int} (hc : HXc M u K) (hr : HXr M u K) (hs : HXs M) : HX M := by
  obtain ⟨⟨c1, c2, c3, c4, c5⟩, c6⟩ := hc
  obtain ⟨r1, r2⟩ := hr
  refine ⟨⟨by rw [c1, r1], by rw [c1]; exact c2, by rw [c1]; exact c3, c4, c5⟩, fun i i0 i1 => ?_, hs.1, hs.2⟩
  rw [c1] at i1 ⊢
  have := c6 i i0 i1
  exact ⟨(r2 i i0 i1).ok this.1, (r2 i i0 i1).b this.1 this.2⟩
noncomputable def pu (u : Int) (K : Int → Int → Int) (A : Int → Int) : Int → Int → Int := if u = 8 then (fun i => if i = 7 then A else K (i + 1)) else fun i => if i = u then A else K i
theorem sp_remember {M : jT} {u : Int} {K : Int → Int → Int} {A : Int → Int} {Q : jT → Prop} (hA : AOk A) (hB : BEq M 1 A) (hc : HXc M u K)
    (kk : ∀ M', (∀ a, a < 48 ∨ 519 < a → M' a = M a) → (∀ a, 49 ≤ a → a ≤ 96 → M' a = M a) → M' 48 1 = M 48 1 → HXc M' (min (u + 1) 8) (pu u K A) → Q M') : wp_X10_remember M 0 Q := by
  obtain ⟨⟨c1, c2, c3, c4, c5⟩, c6⟩ := hc
  unfold wp_X10_remember wp_X3_keep wp_X3_push
  simp only [Int.zero_add]
  refine ⟨⟨c4, c5⟩, ?_⟩
  rw [show 48 + 47 * M 48 3 + 49 = 97 + 47 * M 48 3 by omega]
  refine sp_copyBook hA hB (by omega) fun M2 F2 hB2 => ?_
  have e48 : M2 48 = M 48 := F2 48 (by omega)
  rw [e48]
  refine ⟨by omega, up_in fun M3 h3 => ?_⟩
  have e0 : M3 48 0 = u := by rw [h3, if_neg (by omega), e48, c1]
  rw [e0]
  refine ⟨⟨by omega, by omega⟩, up_in fun M4 h4 => ?_⟩
  have F4 : ∀ a, a ≠ 48 → M4 a = M2 a := (fun a ha => funext fun b => by rw [h4 a b, if_neg (by omega), h3 a b, if_neg (by omega)])
  have s0 : M4 48 0 = min (u + 1) 8 := by rw [h4, if_pos ⟨rfl, rfl⟩]
  have s3 : M4 48 3 = (M 48 3 + 1) % 9 := by rw [h4, if_neg (by omega), h3, if_pos ⟨rfl, rfl⟩]
  refine kk M4 (fun a ha => by rw [F4 a (by omega), F2 a (by omega)]) (fun a b1 b2 => by rw [F4 a (by omega), F2 a (by omega)]) (by rw [h4, if_neg (by omega), h3, if_neg (by omega), e48]) ⟨⟨s0, by omega, by omega, by omega, by omega⟩, fun i i0 i1 => ?_⟩
  rw [s3]
  have new : AOk A ∧ BEq M4 (97 + 47 * M 48 3) A := ⟨hA, hB2.mv hA (fun a b1 b2 => F4 a (by omega))⟩
  have old : ∀ j, 0 ≤ j → j < u → (M 48 3 - u + j) % 9 ≠ M 48 3 → AOk (K j) ∧ BEq M4 (97 + 47 * ((M 48 3 - u + j) % 9)) (K j) := fun j j0 j1 jn => by
    obtain ⟨k1, k2⟩ := c6 j j0 j1
    exact ⟨k1, k2.mv k1 (fun a b1 b2 => by rw [F4 a (by omega), F2 a (by omega)])⟩
  by_cases q : u = 8
  · unfold pu; rw [if_pos q]
    by_cases q2 : i = 7
    · rw [if_pos q2, show ((M 48 3 + 1) % 9 - min (u + 1) 8 + i) % 9 = M 48 3 by omega]; exact new
    · rw [if_neg q2, show ((M 48 3 + 1) % 9 - min (u + 1) 8 + i) % 9 = (M 48 3 - u + (i + 1)) % 9 by omega]
      exact old (i + 1) (by omega) (by omega) (by omega)
  · unfold pu; rw [if_neg q]
    by_cases q2 : i = u
    · rw [if_pos q2, show ((M 48 3 + 1) % 9 - min (u + 1) 8 + i) % 9 = M 48 3 by omega]; exact new
    · rw [if_neg q2, show ((M 48 3 + 1) % 9 - min (u + 1) 8 + i) % 9 = (M 48 3 - u + i) % 9 by omega]
      exact old i i0 (by omega) (by omega)
/-! the reference keeps -/
theorem sp_tries {M : jT} {Q : jT → Prop} (kk : ∀ M', (∀ a, a ≠ 608 → a ≠ 612 → M' a = M a) → (∀ b, b ≠ 0 → M' 608 b = M 608 b) → M' 608 0 = 0 → eqA (M' 612) (M 609) → Q M') : wp_X11_tries M 608 Q := by
  unfold wp_X11_tries
  simp only [Int.reduceAdd]
  refine up_in fun M1 h1 => ?_
  have F1 : ∀ a, a ≠ 608 → M1 a = M a := (fun a ha => funext fun b => by rw [h1 a b, if_neg (by omega)])
  refine ⟨fun n i M3 => 0 ≤ i ∧ i ≤ 1294 ∧ (1294 - i).toNat ≤ n ∧ (∀ a, a ≠ 612 → M3 a = M1 a) ∧ ∀ j, 0 ≤ j → j < i → M3 612 j = M 609 j, ⟨1294, by omega, by omega, by omega, fun _ _ => rfl, fun j a b => by omega⟩, ?_⟩
  rintro n5 x2 M3 ⟨i0, i1, i2, F3, h3⟩
  refine ⟨⟨by omega, by omega⟩, fun c => ?_, fun c => ⟨by omega, up_in fun M9 h9 => ?_⟩⟩
  · refine kk M3 (fun a a1 a2 => (F3 a a2).trans (F1 a a1)) (fun b hb => by rw [F3 608 (by omega), h1, if_neg (by omega)]) (by rw [F3 608 (by omega), h1, if_pos ⟨rfl, rfl⟩]) (fun j a b => h3 j a (by omega))
  · intro x10 e10
    refine ⟨(1294 - x10).toNat, by omega, by omega, by omega, by omega, (fun a ha => by rw [← F3 a ha]; funext b; rw [h9, if_neg (by omega)]), fun j a b => ?_⟩
    by_cases q : j = x2
    · rw [q, h9, if_pos ⟨rfl, rfl⟩, F3 609 (by omega), F1 609 (by omega)]
    · rw [h9, if_neg (by omega)]; exact h3 j a (by omega)
theorem sp_keeps {M : jT} {u : Int} {K : Int → Int → Int} {A : Int → Int} {Q : jT → Prop} (hr : HXr M u K) (hu : 0 ≤ u ∧ u ≤ 8) (hA : eqA (M 612) A)
    (kk : ∀ M', (∀ a, a ≠ 608 → a ≠ 610 → M' a = M a) → (∀ b, b ≠ 3 → b ≠ 14 → M' 608 b = M 608 b) → M' 608 14 = -1 → HXr M' (min (u + 1) 8) (pu u K A) → Q M') : wp_X11_keeps M 608 Q := by
  obtain ⟨r1, r2⟩ := hr
  unfold wp_X11_keeps
  simp only [Int.reduceAdd]
  -- behind the shift: u' books
  refine ⟨fun M15 => (∀ a, a ≠ 608 → a ≠ 610 → M15 a = M a) ∧ (∀ b, b ≠ 3 → M15 608 b = M 608 b) ∧ M15 608 3 = min u 7 ∧ ∀ i j, 0 ≤ i → i < min u 7 → 0 ≤ j → j < 1294 → M15 610 (1294 * i + j) = if u = 8 then K (i + 1) j else K i j, ?_, by rw [r1]; exact ⟨by omega, by omega⟩, fun c => ?_, fun c => ?_⟩
  · rintro M15 ⟨F15, G15, e3, h15⟩
    refine ⟨fun n i M18 => 0 ≤ i ∧ i ≤ 1294 ∧ (1294 - i).toNat ≤ n ∧ (∀ a, a ≠ 610 → M18 a = M15 a) ∧ (∀ k, k < 1294 * min u 7 ∨ 1294 * min u 7 + i ≤ k → M18 610 k = M15 610 k) ∧ ∀ j, 0 ≤ j → j < i → M18 610 (1294 * min u 7 + j) = A j, ⟨1294, by omega, by omega, by omega, fun _ _ => rfl, fun _ _ => rfl, fun j a b => by omega⟩, ?_⟩
    rintro n20 x17 M18 ⟨i0, i1, i2, F18, k18, h18⟩
    have e3' : M18 608 3 = min u 7 := by rw [F18 608 (by omega), e3]
    rw [e3']
    refine ⟨⟨by omega, by omega⟩, fun c => ?_, fun c => ⟨by omega, by omega, up_in fun M27 h27 => ?_⟩⟩
    · refine up_in fun M23 h23 => up_in fun M24 h24 => ?_
      have F24 : ∀ a, a ≠ 608 → M24 a = M18 a := (fun a ha => funext fun b => by rw [h24 a b, if_neg (by omega), h23 a b, if_neg (by omega)])
      refine kk M24 (fun a a1 a2 => by rw [F24 a a1, F18 a a2, F15 a a1 a2]) (fun b b1 b2 => by rw [h24, if_neg (by omega), h23, if_neg (by omega), F18 608 (by omega), G15 b b1]) (by rw [h24, if_pos ⟨rfl, rfl⟩]) ⟨by rw [h24, if_neg (by omega), h23, if_pos ⟨rfl, rfl⟩]; omega, fun i i0 i1 j j0 j1 => ?_⟩
      unfold ksl
      rw [if_pos ⟨j0, j1⟩, F24 610 (by omega)]
      by_cases q : i = min u 7
      · rw [q, h18 j j0 (by omega)]
        unfold pu
        by_cases q8 : u = 8
        · rw [if_pos q8]; rw [if_pos (by omega)]
        · rw [if_neg q8]; rw [if_pos (by omega)]
      · rw [k18 _ (by omega), h15 i j i0 (by omega) j0 j1]
        unfold pu
        by_cases q8 : u = 8
        · rw [if_pos q8, if_pos q8]; rw [if_neg (by omega)]
        · rw [if_neg q8, if_neg q8]; rw [if_neg (by omega)]
    · intro x28 e28
      have e612 : M18 612 x17 = A x17 := by rw [F18 612 (by omega), F15 612 (by omega) (by omega)]; exact hA x17 i0 c
      refine ⟨(1294 - x28).toNat, by omega, by omega, by omega, by omega, (fun a ha => by rw [← F18 a ha]; funext b; rw [h27, if_neg (by omega)]), fun k hk => ?_, fun j j0 j1 => ?_⟩
      · rw [h27, if_neg (by omega)]; exact k18 k (by omega)
      · by_cases q : j = x17
        · rw [q, h27, if_pos ⟨rfl, rfl⟩, e612]
        · rw [h27, if_neg (by omega)]; exact h18 j j0 (by omega)
  · rw [r1] at c
    refine ⟨fun _ _ _ => rfl, fun _ _ => rfl, by rw [r1]; omega, fun i j i0 i1 j0 j1 => ?_⟩
    rw [if_neg c, r2 i i0 (by omega) j j0 j1]
    unfold ksl; rw [if_pos ⟨j0, j1⟩]
  · rw [r1] at c
    refine ⟨fun n i M33 => 0 ≤ i ∧ i ≤ 9058 ∧ (9058 - i).toNat ≤ n ∧ (∀ a, a ≠ 610 → M33 a = M a) ∧ (∀ k, 0 ≤ k → k < i → M33 610 k = M 610 (1294 + k)) ∧ (∀ k, i ≤ k → M33 610 k = M 610 k), ⟨9058, by omega, by omega, by omega, fun _ _ => rfl, fun k a b => by omega, fun _ _ => rfl⟩, ?_⟩
    rintro n35 x32 M33 ⟨i0, i1, i2, F33, k33, l33⟩
    refine ⟨⟨by omega, by omega⟩, fun c2 => up_in fun M38 h38 => ?_, fun c2 => ⟨by omega, by omega, up_in fun M41 h41 => ?_⟩⟩
    · refine ⟨fun a a1 a2 => by rw [← F33 a a2]; funext b; rw [h38, if_neg (by omega)], fun b hb => by rw [h38, if_neg (by omega), F33 608 (by omega)], by rw [h38, if_pos ⟨rfl, rfl⟩, F33 608 (by omega), r1]; omega, fun i j i0' i1' j0 j1 => ?_⟩
      rw [h38, if_neg (by omega), k33 _ (by omega) (by omega), if_pos c, r2 (i + 1) (by omega) (by omega) j j0 j1]
      unfold ksl; rw [if_pos ⟨j0, j1⟩]; congr 1; omega
    · intro x42 e42
      refine ⟨(9058 - x42).toNat, by omega, by omega, by omega, by omega, (fun a ha => by rw [← F33 a ha]; funext b; rw [h41, if_neg (by omega)]), fun k a b => ?_, fun k a => by rw [h41, if_neg (by omega)]; exact l33 k (by omega)⟩
      by_cases q : k = x32
      · rw [q, h41, if_pos ⟨rfl, rfl⟩]; exact l33 _ (by omega)
      · rw [h41, if_neg (by omega)]; exact k33 k a (by omega)
