/-! the whole state: class and reference hold the same -/
def zsl (A : Int → Int) (z : Int) : Int → Int := fun i => if 0 ≤ i ∧ i < 67 then A (2 + 67 * z + i) else 0
def msl (A : Int → Int) (m : Int) : Int → Int := fun i => if 0 ≤ i ∧ i < 89 then A (404 + 89 * m + i) else 0
theorem zsl_at {A : Int → Int} {z i : Int} (h : 0 ≤ i ∧ i < 67) : zsl A z i = A (2 + 67 * z + i) := by unfold zsl; rw [if_pos h]
theorem msl_at {A : Int → Int} {m i : Int} (h : 0 ≤ i ∧ i < 89) : msl A m i = A (404 + 89 * m + i) := by unfold msl; rw [if_pos h]
theorem zsl_eq {A B : Int → Int} {z : Int} (h : ∀ i, 0 ≤ i → i < 67 → A (2 + 67 * z + i) = B (2 + 67 * z + i)) : zsl A z = zsl B z := by
  funext i; unfold zsl; split
  · rename_i q; exact h i q.1 q.2
  · rfl
theorem msl_eq {A B : Int → Int} {m : Int} (h : ∀ i, 0 ≤ i → i < 89 → A (404 + 89 * m + i) = B (404 + 89 * m + i)) : msl A m = msl B m := by
  funext i; unfold msl; split
  · rename_i q; exact h i q.1 q.2
  · rfl
def AOk (A : Int → Int) : Prop := (0 ≤ A 0 ∧ A 0 ≤ 6) ∧ (0 ≤ A 1 ∧ A 1 ≤ 10) ∧ (∀ z, 0 ≤ z → z < A 0 → ZOk (zsl A z)) ∧ (∀ m, 0 ≤ m → m < A 1 → GOk (msl A m) ∧ 0 ≤ msl A m 0 ∧ msl A m 0 < A 0)
/-- a book of the class holds what the row A holds -/
def BEq (M : jT) (B : Int) (A : Int → Int) : Prop := M B 0 = A 0 ∧ M B 1 = A 1 ∧ (∀ z, 0 ≤ z → z < A 0 → ZEq M (B + 3 + 4 * z) (zsl A z)) ∧ (∀ m, 0 ≤ m → m < A 1 → GEq M (B + 27 + 2 * m) (msl A m))
theorem BEq.mv {M M' : jT} {B : Int} {A : Int → Int} (hA : AOk A) (h : BEq M B A) (f : ∀ a, B ≤ a → a ≤ B + 46 → M' a = M a) : BEq M' B A := by
  obtain ⟨h1, h2, h3, h4⟩ := h
  have a1 := hA.1
  have a2 := hA.2.1
  unfold BEq
  rw [f B (by omega) (by omega)]
  exact ⟨h1, h2, fun z z0 z1 => (h3 z z0 z1).mv (f _ (by omega) (by omega)) (f _ (by omega) (by omega)) (f _ (by omega) (by omega)) (f _ (by omega) (by omega)), fun m m0 m1 => (h4 m m0 m1).mv (f _ (by omega) (by omega)) (f _ (by omega) (by omega))⟩
noncomputable def bL (A : Int → Int) (m i : Int) : Int := 1440 * dO (msl A m) i + msl A m 2 + msl A m (9 + i)
noncomputable def bO (A : Int → Int) (m i : Int) : Int := if 0 ≤ bL A m i ∧ bL A m i < 16830720 then iO (lm (zsl A (msl A m 0))) (lS (zsl A (msl A m 0))) (lF (zsl A (msl A m 0))) (bL A m i) (msl A m 4) else -1000000000
/-- the first part of the data: the book -/
def D1 (M : jT) : Prop := AOk (M 609) ∧ BEq M 1 (M 609)
def TM (M : jT) (A : Int → Int) (m : Int) : Prop := ∀ i, 0 ≤ i → i < nD (msl A m) → M (3 * m + 572) i = bO A m i
/-- what the class keeps ready -/
def CC (M : jT) : Prop := (∀ z, 0 ≤ z → z < 6 → rg (M (8 * z + 521) 0)) ∧ (∀ z, 0 ≤ z → z < M 609 0 → M (8 * z + 521) 0 ≠ 0 → Tl M (8 * z + 521) (zsl (M 609) z)) ∧
  (∀ m, 0 ≤ m → m < 10 → rg (M (3 * m + 570) 0) ∧ rg (M (3 * m + 570) 1)) ∧
  (∀ m, 0 ≤ m → m < M 609 1 → (M (3 * m + 570) 0 ≠ 0 → PL M (3 * m + 570) (msl (M 609) m)) ∧ (M (3 * m + 570) 1 ≠ 0 → M (3 * m + 570) 0 ≠ 0 ∧ LK (zsl (M 609) (msl (M 609) m 0)) ∧ TM M (M 609) m))
def CFr (M M' : jT) : Prop := ∀ a, a < 521 ∨ (601 ≤ a ∧ a ≠ 606) → M' a = M a
/-- the same, where the row 607 may change -/
def CF7 (M M' : jT) : Prop := ∀ a, a < 521 ∨ (601 ≤ a ∧ a ≠ 606 ∧ a ≠ 607) → M' a = M a
theorem CF7.trans {M M1 M2 : jT} (a : CF7 M M1) (b : CF7 M1 M2) : CF7 M M2 := fun x h => (b x h).trans (a x h)
theorem CFr.to7 {M M' : jT} (f : CFr M M') : CF7 M M' := fun a h => f a (by omega)
theorem CFr.rfl {M : jT} : CFr M M := fun _ _ => Eq.refl _
theorem CFr.trans {M M1 M2 : jT} (a : CFr M M1) (b : CFr M1 M2) : CFr M M2 := fun x h => (b x h).trans (a x h)
theorem CF7.d1 {M M' : jT} (f : CF7 M M') (h : D1 M) : D1 M' := by
  obtain ⟨h1, h2⟩ := h
  have e := f 609 (by omega)
  unfold D1; rw [e]
  exact ⟨h1, h2.mv h1 (fun a a1 a2 => f a (by omega))⟩
theorem CC.mv {M M' : jT} (hA : D1 M) (h : CC M) (e : M' 609 = M 609) (f : ∀ a, 521 ≤ a → a ≤ 599 → M' a = M a) : CC M' := by
  have a1 := hA.1.1
  have a2 := hA.1.2.1
  obtain ⟨h1, h2, h3, h4⟩ := h
  unfold CC TM
  rw [e]
  refine ⟨fun z z0 z1 => by rw [f _ (by omega) (by omega)]; exact h1 z z0 z1, fun z z0 z1 q => ?_, fun m m0 m1 => by rw [f _ (by omega) (by omega)]; exact h3 m m0 m1, fun m m0 m1 => ?_⟩
  · rw [f _ (by omega) (by omega)] at q
    exact (h2 z z0 z1 q).mv (fun b _ _ => by rw [f _ (by omega) (by omega)]) (fun r _ _ => f _ (by omega) (by omega))
  · rw [f _ (by omega) (by omega), f (3 * m + 572) (by omega) (by omega)]
    refine ⟨fun q => ((h4 m m0 m1).1 q).mv (by rw [f _ (by omega) (by omega)]) (f _ (by omega) (by omega)), (h4 m m0 m1).2⟩
theorem CFr.d1 {M M' : jT} (f : CFr M M') (h : D1 M) : D1 M' := f.to7.d1 h
/-- a line changes, the others and the plans don't -/
theorem CC.line {M M' : jT} {z : Int} (hA : D1 M) (h : CC M) (hz : 0 ≤ z ∧ z < 6) (e : M' 609 = M 609) (f : ∀ a, 521 ≤ a → a ≤ 599 → (a < 8 * z + 521 ∨ 8 * z + 528 < a) → M' a = M a) (hr : rg (M' (8 * z + 521) 0)) (hT : z < M 609 0 → M' (8 * z + 521) 0 ≠ 0 → Tl M' (8 * z + 521) (zsl (M 609) z)) : CC M' := by
  have a1 := hA.1.1
  have a2 := hA.1.2.1
  obtain ⟨h1, h2, h3, h4⟩ := h
  unfold CC TM
  rw [e]
  refine ⟨fun y y0 y1 => ?_, fun y y0 y1 q => ?_, fun m m0 m1 => by rw [f _ (by omega) (by omega) (by omega)]; exact h3 m m0 m1, fun m m0 m1 => ?_⟩
  · by_cases c : y = z
    · rw [c]; exact hr
    · rw [f _ (by omega) (by omega) (by omega)]; exact h1 y y0 y1
  · by_cases c : y = z
    · rw [c] at q y1 ⊢; exact hT y1 q
    · rw [f _ (by omega) (by omega) (by omega)] at q
      exact (h2 y y0 y1 q).mv (fun b _ _ => by rw [f _ (by omega) (by omega) (by omega)]) (fun r _ _ => f _ (by omega) (by omega) (by omega))
  · rw [f _ (by omega) (by omega) (by omega), f (3 * m + 572) (by omega) (by omega) (by omega)]
    refine ⟨fun q => ((h4 m m0 m1).1 q).mv (by rw [f _ (by omega) (by omega) (by omega)]) (f _ (by omega) (by omega) (by omega)), (h4 m m0 m1).2⟩
theorem cc_compiled {M : jT} {z : Int} {Q : Int → jT → Prop} (hD : D1 M) (hC : CC M) (hz : 0 ≤ z ∧ z < M 609 0)
    (kk : ∀ M', CFr M M' → CC M' → (∀ a, 569 ≤ a → a ≤ 599 → M' a = M a) → Tl M' (8 * z + 521) (zsl (M 609) z) → Q (8 * z + 521) M') : wp_X10_compiled M 0 z Q := by
  have a1 := hD.1.1
  have hze := hD.2.2.2.1 z hz.1 hz.2
  refine sp_compiled (Z := zsl (M 609) z) (by rw [show 4 * z + 4 = 1 + 3 + 4 * z by omega]; exact hze) (hD.1.2.2.1 z hz.1 hz.2) (by omega) (hC.1 z hz.1 (by omega)) (hC.2.1 z hz.1 hz.2) (fun M' F hr h0 hT => ?_)
  exact kk M' (fun a ha => F a (by omega) (by omega) (by omega)) (hC.line hD (by omega) (F 609 (by omega) (by omega) (by omega)) (fun a a1 a2 a3 => F a (by omega) (by omega) (by omega)) hr (fun _ _ => hT)) (fun a a1 a2 => F a (by omega) (by omega) (by omega)) hT
/-- a look changes nothing that is kept -/
theorem CC.look {M M' : jT} {z : Int} (hD : D1 M) (hC : CC M) (hz : 0 ≤ z ∧ z < 6) (F : ∀ a, a ≠ 8 * z + 521 → M' a = M a) (G : ∀ b, b ≠ 13 → b ≠ 14 → b ≠ 15 → M' (8 * z + 521) b = M (8 * z + 521) b) : CC M' ∧ CFr M M' ∧ (∀ Z, Tl M (8 * z + 521) Z → Tl M' (8 * z + 521) Z) := by
  have hT : ∀ Z, Tl M (8 * z + 521) Z → Tl M' (8 * z + 521) Z := fun Z h => h.mv (fun b b1 b2 => G b (by omega) (by omega) (by omega)) (fun r r1 r2 => F _ (by omega))
  have g0 := G 0 (by omega) (by omega) (by omega)
  refine ⟨hC.line hD hz (F 609 (by omega)) (fun a a1 a2 a3 => F a (by omega)) (by rw [g0]; exact hC.1 z hz.1 hz.2) (fun q1 q2 => hT _ (hC.2.1 z hz.1 q1 (by rw [← g0]; exact q2))), fun a ha => F a (by omega), hT⟩
/-- a plan changes, the others and the lines don't -/
theorem CC.plan {M M' : jT} {m : Int} (hA : D1 M) (h : CC M) (hm : 0 ≤ m ∧ m < 10) (e : M' 609 = M 609) (f : ∀ a, 521 ≤ a → a ≤ 599 → (a < 3 * m + 570 ∨ 3 * m + 572 < a) → M' a = M a) (hr : rg (M' (3 * m + 570) 0) ∧ rg (M' (3 * m + 570) 1)) (hT : m < M 609 1 → (M' (3 * m + 570) 0 ≠ 0 → PL M' (3 * m + 570) (msl (M 609) m)) ∧ (M' (3 * m + 570) 1 ≠ 0 → M' (3 * m + 570) 0 ≠ 0 ∧ LK (zsl (M 609) (msl (M 609) m 0)) ∧ TM M' (M 609) m)) : CC M' := by
  have a1 := hA.1.1
  have a2 := hA.1.2.1
  obtain ⟨h1, h2, h3, h4⟩ := h
  unfold CC
  rw [e]
  refine ⟨fun y y0 y1 => by rw [f _ (by omega) (by omega) (by omega)]; exact h1 y y0 y1, fun y y0 y1 q => ?_, fun i i0 i1 => ?_, fun i i0 i1 => ?_⟩
  · rw [f _ (by omega) (by omega) (by omega)] at q
    exact (h2 y y0 y1 q).mv (fun b _ _ => by rw [f _ (by omega) (by omega) (by omega)]) (fun r _ _ => f _ (by omega) (by omega) (by omega))
  · by_cases c : i = m
    · rw [c]; exact hr
    · rw [f _ (by omega) (by omega) (by omega)]; exact h3 i i0 i1
  · by_cases c : i = m
    · rw [c] at i1 ⊢; exact hT i1
    · unfold TM
      rw [f _ (by omega) (by omega) (by omega), f (3 * i + 572) (by omega) (by omega) (by omega)]
      refine ⟨fun q => ((h4 i i0 i1).1 q).mv (by rw [f _ (by omega) (by omega) (by omega)]) (f _ (by omega) (by omega) (by omega)), (h4 i i0 i1).2⟩
theorem cc_laidOut {M : jT} {m : Int} {Q : Int → jT → Prop} (hD : D1 M) (hC : CC M) (hm : 0 ≤ m ∧ m < M 609 1)
    (kk : ∀ M', CFr M M' → CC M' → M' (3 * m + 570) 0 ≠ 0 → PL M' (3 * m + 570) (msl (M 609) m) → Q (3 * m + 570) M') : wp_X10_laidOut M 0 m Q := by
  have a2 := hD.1.2.1
  have hge := hD.2.2.2.2 m hm.1 hm.2
  have hgo := (hD.1.2.2.2 m hm.1 hm.2).1
  have h3 := hC.2.2.1 m hm.1 (by omega)
  have h4 := hC.2.2.2 m hm.1 hm.2
  refine sp_laidOut (G := msl (M 609) m) (by omega) (by rw [show 2 * m + 28 = 1 + 27 + 2 * m by omega]; exact hge) hgo h3.1 h4.1 (fun M' F G hs hr h0 hP => ?_)
  have e609 : M' 609 = M 609 := F 609 (by omega) (by omega)
  refine kk M' (fun a ha => F a (by omega) (by omega)) (hC.plan hD (by omega) e609 (fun a b1 b2 b3 => F a (by omega) (by omega)) ⟨hr, by rw [G 1 (by omega) (by omega)]; exact h3.2⟩ (fun _ => ⟨fun _ => hP, fun q => ?_⟩)) h0 hP
  rw [G 1 (by omega) (by omega)] at q
  obtain ⟨q1, q2, q3⟩ := h4.2 q
  refine ⟨h0, q2, fun i i0 i1 => ?_⟩
  rw [F (3 * m + 572) (by omega) (by omega)]; exact q3 i i0 i1
theorem bL_rng {A : Int → Int} {m i : Int} (h : GOk (msl A m)) (h0 : 0 ≤ i) (h1 : i < nD (msl A m)) : -1440 ≤ bL A m i ∧ bL A m i ≤ 16833598 := by
  have a := dO_rng h h0 h1
  have b := h.2.1
  have c := h.2.2.2.2.2.2.2.2.1 i h0 (by have := nD_rng h; omega)
  unfold bL; omega
theorem bO_rng {A : Int → Int} {m i : Int} (hA : AOk A) (hm : 0 ≤ m ∧ m < A 1) (hK : LK (zsl A (msl A m 0))) : bO A m i = -1000000000 ∨ (-960 ≤ bO A m i ∧ bO A m i ≤ 16833000) := by
  obtain ⟨h1, h2, h3⟩ := hA.2.2.2 m hm.1 hm.2
  have hL := (LOk.of (hA.2.2.1 _ h2 h3) hK).1
  unfold bO
  split
  · have := iO_rng (l := bL A m i) (mode := msl A m 4) hL (by omega) (by have := h1.2.2.2.1; omega)
    omega
  · exact Or.inl rfl
theorem sp_time {M : jT} {m : Int} {Q : jT → Prop} (hD : D1 M) (hC : CC M) (hm : 0 ≤ m ∧ m < M 609 1) (h0 : M (3 * m + 570) 0 ≠ 0) (hT : Tl M (8 * msl (M 609) m 0 + 521) (zsl (M 609) (msl (M 609) m 0)))
    (kk : ∀ M', CFr M M' → CC M' → M' (3 * m + 570) 0 ≠ 0 → M' (3 * m + 570) 1 ≠ 0 → Q M') : wp_X5_time M (3 * m + 570) (2 * m + 28) (8 * msl (M 609) m 0 + 521) Q := by
  have a1 := hD.1.1
  have a2 := hD.1.2.1
  have hge := hD.2.2.2.2 m hm.1 hm.2
  obtain ⟨hgo, hz0, hz1⟩ := hD.1.2.2.2 m hm.1 hm.2
  have hzo := hD.1.2.2.1 _ hz0 hz1
  have hP := (hC.2.2.2 m hm.1 hm.2).1 h0
  have hn := nD_rng hgo
  have hr3 := hC.2.2.1 m hm.1 (by omega)
  have hK : LK (zsl (M 609) (msl (M 609) m 0)) := hT.2.1
  have hL := (LOk.of hzo hK).1
  have e0 : 1 + 27 + 2 * m = 2 * m + 28 := by omega
  rw [e0] at hge
  unfold wp_X5_time
  refine ⟨fun n x M2 => 0 ≤ x ∧ x ≤ nD (msl (M 609) m) ∧ (nD (msl (M 609) m) - x).toNat ≤ n ∧ (∀ a, a ≠ 3 * m + 572 → a ≠ 8 * msl (M 609) m 0 + 521 → M2 a = M a) ∧ (∀ b, b ≠ 13 → b ≠ 14 → b ≠ 15 → M2 (8 * msl (M 609) m 0 + 521) b = M (8 * msl (M 609) m 0 + 521) b) ∧ (∀ i, 0 ≤ i → i < x → M2 (3 * m + 572) i = bO (M 609) m i), ⟨(nD (msl (M 609) m)).toNat, by omega, by omega, by omega, fun _ _ _ => rfl, fun _ _ _ _ => rfl, fun i _ _ => by omega⟩, ?_⟩
  rintro n4 x1 M2 ⟨i1, i2, i3, F, G, hB⟩
  have hP2 : PL M2 (3 * m + 570) (msl (M 609) m) := hP.mv (by rw [F _ (by omega) (by omega)]) (F _ (by omega) (by omega))
  have hG2 : GEq M2 (2 * m + 28) (msl (M 609) m) := hge.mv (F _ (by omega) (by omega)) (F _ (by omega) (by omega))
  have hT2 : Tl M2 (8 * msl (M 609) m 0 + 521) (zsl (M 609) (msl (M 609) m 0)) := hT.mv (fun b b1 b2 => G b (by omega) (by omega) (by omega)) (fun r r1 r2 => F _ (by omega) (by omega))
  rw [hP2.1]
  refine ⟨⟨by omega, by omega⟩, ⟨by omega, by omega⟩, fun c => ?_, fun c => ?_⟩
  · refine up_in fun M8 h8 => ?_
    have F8 : ∀ a, a ≠ 3 * m + 570 → M8 a = M2 a := (fun a ha => funext fun b => by rw [h8 a b, if_neg (by omega)])
    have g0 : M8 (3 * m + 570) 0 = M (3 * m + 570) 0 := by rw [h8, if_neg (by omega), F _ (by omega) (by omega)]
    have g1 : M8 (3 * m + 570) 1 = 1 := by rw [h8, if_pos ⟨rfl, rfl⟩]
    have hTM : TM M8 (M 609) m := fun i j0 j1 => by rw [F8 _ (by omega)]; exact hB i j0 (by omega)
    have hC1 := CC.look (M' := fun a => if a = 8 * msl (M 609) m 0 + 521 then M2 a else M a) hD hC ⟨hz0, by omega⟩ (fun a ha => by simp only [if_neg ha]) (fun b b1 b2 b3 => by simp only [if_pos rfl]; exact G b b1 b2 b3)
    refine kk M8 (fun a ha => (F8 a (by omega)).trans (F a (by omega) (by omega))) ?_ (by rw [g0]; exact h0) (by rw [g1]; omega)
    have hD1 : D1 (fun a => if a = 8 * msl (M 609) m 0 + 521 then M2 a else M a) := hC1.2.1.d1 hD
    have e609 : (if (609 : Int) = 8 * msl (M 609) m 0 + 521 then M2 609 else M 609) = M 609 := if_neg (by omega)
    refine hC1.1.plan hD1 (m := m) (by omega) ?_ (fun a b1 b2 b3 => ?_) ⟨by rw [g0]; exact hr3.1, by rw [g1]; exact ⟨by omega, by omega⟩⟩ (fun _ => ?_)
    · rw [e609, F8 609 (by omega), F 609 (by omega) (by omega)]
    · rw [F8 a (by omega)]
      by_cases q : a = 8 * msl (M 609) m 0 + 521
      · simp only [if_pos q]
      · simp only [if_neg q]; exact F a (by omega) q
    · rw [e609]
      exact ⟨fun _ => hP2.mv (by rw [h8, if_neg (by omega)]) (F8 _ (by omega)), fun _ => ⟨by rw [g0]; exact h0, hK, hTM⟩⟩
  · have hd := dO_rng hgo i1 c
    have hbl := bL_rng hgo i1 c
    have el : pf_X5_localOf M2 (3 * m + 570) (2 * m + 28) x1 = bL (M 609) m x1 := by
      unfold pf_X5_localOf bL
      rw [hP2.2 x1 i1 c, hG2.1 2 (by omega) (by omega), hG2.2.1 x1 i1 (by omega)]
    refine ⟨by unfold pg_X5_localOf; exact ⟨by omega, trivial⟩, ?_⟩
    rw [el]
    intro x12 e12
    have hpl : pg_X10_isLocal x12 := by unfold pg_X10_isLocal; exact ⟨⟨by omega, by omega⟩, fun _ => trivial, fun _ => ⟨fun _ => trivial, fun _ => trivial⟩⟩
    refine ⟨hpl, fun v M' => v = bO (M 609) m x1 ∧ (∀ a, a ≠ 3 * m + 572 → a ≠ 8 * msl (M 609) m 0 + 521 → M' a = M a) ∧ (∀ b, b ≠ 13 → b ≠ 14 → b ≠ 15 → M' (8 * msl (M 609) m 0 + 521) b = M (8 * msl (M 609) m 0 + 521) b) ∧ (∀ i, 0 ≤ i → i < x1 → M' (3 * m + 572) i = bO (M 609) m i), ?_, fun q => ?_, fun q => ?_⟩
    · rintro v M' ⟨k0, k1, k2, k3⟩
      refine ⟨by omega, up_in fun M23 h23 => ?_⟩
      have e572 : 3 * m + 570 + 2 = 3 * m + 572 := by omega
      rw [e572] at h23
      intro x24 e24
      refine ⟨(nD (msl (M 609) m) - x24).toNat, by omega, by omega, by omega, by omega, fun a b1 b2 => ?_, fun b b1 b2 b3 => ?_, fun i j0 j1 => ?_⟩
      · rw [← k1 a b1 b2]; funext b; rw [h23, if_neg (by omega)]
      · rw [h23, if_neg (by omega)]; exact k2 b b1 b2 b3
      · rw [h23]
        by_cases q : i = x1
        · rw [if_pos ⟨rfl, q⟩, q]; exact k0
        · rw [if_neg (by omega)]; exact k3 i j0 (by omega)
    · refine ⟨?_, F, G, hB⟩
      unfold bO; rw [if_neg (by rw [e12] at q; exact q)]
    · rw [hG2.1 4 (by omega) (by omega)]
      have q' : 0 ≤ x12 ∧ x12 < 16830720 := q
      refine sp_instantOf (CL.of hzo hT2) hL (by omega) (by have := hgo.2.2.2.1; omega) (fun M' F' G' => ?_)
      refine ⟨?_, fun a b1 b2 => (F' a b2).trans (F a b1 b2), fun b b1 b2 b3 => (G' b b1 b2 b3).trans (G b b1 b2 b3), fun i j0 j1 => by rw [F' _ (by omega)]; exact hB i j0 j1⟩
      unfold bO; rw [e12] at q'; rw [if_pos q', e12]
theorem cc_timed {M : jT} {m : Int} {Q : Int → jT → Prop} (hD : D1 M) (hC : CC M) (hm : 0 ≤ m ∧ m < M 609 1)
    (kk : ∀ M', CFr M M' → CC M' → M' (3 * m + 570) 0 ≠ 0 → M' (3 * m + 570) 1 ≠ 0 → PL M' (3 * m + 570) (msl (M 609) m) → TM M' (M 609) m → LK (zsl (M 609) (msl (M 609) m 0)) → Q (3 * m + 570) M') : wp_X10_timed M 0 m Q := by
  have a1 := hD.1.1
  have a2 := hD.1.2.1
  obtain ⟨hgo, hz0, hz1⟩ := hD.1.2.2.2 m hm.1 hm.2
  have fin : ∀ M', CFr M M' → CC M' → M' (3 * m + 570) 0 ≠ 0 → M' (3 * m + 570) 1 ≠ 0 → Q (3 * m + 570) M' := by
    intro M' f hC' h0 h1
    have e : M' 609 = M 609 := f 609 (by omega)
    have h4 := hC'.2.2.2 m hm.1 (by rw [e]; exact hm.2)
    rw [e] at h4
    exact kk M' f hC' h0 h1 (h4.1 h0) (h4.2 h1).2.2 (h4.2 h1).2.1
  unfold wp_X10_timed
  simp only [Int.zero_add]
  refine cc_laidOut hD hC hm (fun M2 f2 hC2 h0 hP => ?_)
  have e : M2 609 = M 609 := f2 609 (by omega)
  have hD2 := f2.d1 hD
  refine ⟨fun M' => Q (3 * m + 570) M', fun _ q => q, (hC2.2.2.1 m hm.1 (by omega)).2, fun c => fin M2 f2 hC2 h0 c, fun c => ⟨by omega, ?_⟩⟩
  have hge := hD2.2.2.2.2 m hm.1 (by rw [e]; exact hm.2)
  rw [show 1 + 27 + 2 * m = 2 * m + 28 by omega, e] at hge
  rw [hge.1 0 (by omega) (by omega)]
  refine cc_compiled hD2 hC2 (by rw [e]; exact ⟨hz0, hz1⟩) (fun M20 f20 hC20 fp hT => ?_)
  have e20 : M20 609 = M 609 := (f20 609 (by omega)).trans e
  rw [e] at hT
  have := sp_time (M := M20) (m := m) (Q := fun M22 => Q (3 * m + 570) M22) (f20.d1 hD2) hC20 (by rw [e20]; exact hm) (by rw [fp _ (by omega) (by omega)]; exact h0) (by rw [e20]; exact hT) (fun M' f' hC' g0 g1 => fin M' ((f2.trans f20).trans f') hC' g0 g1)
  rw [e20] at this
  exact this
