/-! the class: a zone's line compiled, or fresh already -/
theorem f5_lt {Z k : Int → Int} (ho : ZOk Z) {N : Int} (hk : ∀ i, 0 ≤ i → i < N → KOk Z (k i)) {n : Nat} (h : (n : Int) < N) (hN : N ≤ 260) : (f5 Z k n).2.2.1 < 260 ∧ (f5 Z k n).2.2.2.1 < 260 ∧ 0 ≤ (f5 Z k n).2.2.1 ∧ 0 ≤ (f5 Z k n).2.2.2.1 := by
  obtain ⟨i1, i2, i3, i4, i5, i6, i7, i8, i9⟩ := f5_inv ho hk n (by omega)
  omega
theorem sp_compile {M : jT} {L k : Int} {Z : Int → Int} {Q : jT → Prop} (hz : ZEq M k Z) (ho : ZOk Z) (hL : 521 ≤ L ∧ L + 7 < 600) (hk0 : k + 3 < 521) (hrow : ∀ i, 0 ≤ i → i < nE Z → M 606 i = kE Z i) (hK : ∀ i, 0 ≤ i → i < nE Z → KOk Z (kE Z i))
    (kk : ∀ M', (∀ a, (a < L ∨ L + 7 < a) → a ≠ 600 → M' a = M a) → M' L 0 = 1 → Tl M' L Z → Q M') : wp_X7_compile M L k 606 (nE Z) 600 Q := by
  have hn := nE_rng ho
  unfold wp_X7_compile
  refine up_in fun M1 h1 => up_in fun M2 h2 => up_in fun M3 h3 => up_in fun M4 h4 => up_in fun M5 h5 => up_in fun M6 h6 => ?_
  have g3 : M3 k = M k := funext fun b => by rw [h3, if_neg (by omega), h2, if_neg (by omega), h1, if_neg (by omega)]
  have g4 : M4 k = M k := funext fun b => by rw [h4, if_neg (by omega), g3]
  have g5 : M5 k = M k := funext fun b => by rw [h5, if_neg (by omega), g4]
  rw [g3, hz.1] at h4
  rw [g4, hz.1] at h5
  rw [g5, hz.1] at h6
  have F6 : ∀ a, (a < L ∨ L + 7 < a) → M6 a = M a := (fun a ha => funext fun b => by rw [h6 a b, if_neg (by omega), h5 a b, if_neg (by omega), h4 a b, if_neg (by omega), h3 a b, if_neg (by omega), h2 a b, if_neg (by omega), h1 a b, if_neg (by omega)])
  have g6 : M6 k = M k := F6 k (by omega)
  rw [g6, hz.1]
  unfold wp_X2_begin
  refine up_in fun M7 h7 => up_in fun M8 h8 => up_in fun M9 h9 => ?_
  have F9 : ∀ a, (a < L ∨ L + 7 < a) → a ≠ 600 → M9 a = M a := fun a ha hb => (funext fun b => by rw [h9, if_neg (by omega), h8, if_neg (by omega), h7, if_neg (by omega), F6 a ha])
  refine ⟨fun n x M10 => ∃ i : Nat, x = i ∧ (i : Int) ≤ nE Z ∧ (nE Z - i).toNat ≤ n ∧ (∀ a, (a < L ∨ L + 7 < a) → a ≠ 600 → M10 a = M a) ∧ M10 L 1 = nE Z ∧ FOk M10 600 (f5 Z (kE Z) i) ∧ TlN M10 L Z (kE Z) i, ⟨(nE Z).toNat, 0, rfl, by omega, by omega, F9, ?_, ?_, ?_⟩, ?_⟩
  · rw [h9, if_neg (by omega), h8, if_neg (by omega), h7, if_neg (by omega), h6, if_neg (by omega), h5, if_neg (by omega), h4, if_neg (by omega), h3, if_neg (by omega), h2, if_neg (by omega), h1, if_pos (by omega)]
  · unfold FOk; simp only [f5]
    refine ⟨by grind, by grind, by grind, by grind, by omega⟩
  · have q2 : M9 L 2 = 0 := by grind (ematch := 20)
    have q3 : M9 L 3 = 0 := by grind (ematch := 20)
    have q4 : M9 L 4 = Z 0 := by grind
    have q5 : M9 L 5 = Z 0 := by grind
    have q7 : M9 (L + 7) 0 = Z 0 := by grind
    unfold TlN; simp only [f5, tF]
    rw [q2, q3, q4, q5]
    refine ⟨rfl, rfl, fun j a b => by omega, fun j a b => ?_, fun j a b => by omega, fun _ _ _ => Int.le_refl _, ⟨0, by omega, by omega, rfl⟩, fun _ _ _ => Int.le_refl _, ⟨0, by omega, by omega, rfl⟩⟩
    rw [show j = 0 by omega, q7]
  · rintro n12 x9 M10 ⟨i, rfl, i1, i2, hF, hL1, hFO, hT⟩
    refine ⟨⟨by omega, by omega⟩, ⟨by omega, by omega⟩, fun c => ?_, fun c => ⟨by omega, ?_⟩⟩
    · refine up_in fun M16 h16 => ?_
      have en : (nE Z).toNat = i := by omega
      refine kk M16 (fun a ha hb => funext fun b => by rw [h16, if_neg (by omega), hF a ha hb]) (by rw [h16, if_pos ⟨rfl, rfl⟩]) ⟨by rw [h16, if_neg (by omega), hL1], hK, ?_⟩
      rw [en]
      exact hT.mv (fun b b0 b1 => by rw [h16, if_neg (by omega)]) (fun r r0 r1 => funext fun b => by rw [h16, if_neg (by omega)])
    · have hKi := hK i (by omega) c
      have hz10 : ZEq M10 k Z := hz.mv (hF _ (by omega) (by omega)) (hF _ (by omega) (by omega)) (hF _ (by omega) (by omega)) (hF _ (by omega) (by omega))
      have hkey : M10 606 i = kE Z i := by rw [hF 606 (by omega) (by omega)]; exact hrow i (by omega) c
      obtain ⟨b1, b2, b3, b4⟩ := f5_lt ho hK c hn.2
      obtain ⟨j1, j2, j3, j4, j5, j6, j7, j8, j9⟩ := f5_inv ho hK i (by omega)
      obtain ⟨e1, e2, e3, e4, e5, e6⟩ := e_rng ho hKi j1 j2
      have hT4 : -2000 ≤ M10 L 4 ∧ M10 L 4 ≤ 2000 := by
        obtain ⟨j, q0, q1, q2⟩ := hT.2.2.2.2.2.2.1
        have := j7 j q0 q1
        omega
      have hT5 : -2000 ≤ M10 L 5 ∧ M10 L 5 ≤ 2000 := by
        obtain ⟨j, q0, q1, q2⟩ := hT.2.2.2.2.2.2.2.2
        have := j7 j q0 q1
        omega
      rw [hkey]
      refine sp_take hz10 ho hKi (SOk.f5 ho hK (n := i) (by omega)) hFO (by omega) (fun M19 F19 hFO19 hst => ?_)
      have hkey19 : M19 606 i = kE Z i := by rw [F19 606 (by omega), hkey]
      have hT19 : TlN M19 L Z (kE Z) i := hT.mv (fun b _ _ => by rw [F19 L (by omega)]) (fun r _ _ => F19 _ (by omega))
      have hL19 : M19 L 1 = nE Z := by rw [F19 L (by omega), hL1]
      have es : nx Z (kE Z i) (f5 Z (kE Z) i) = f5 Z (kE Z) (i + 1) := rfl
      rw [es] at hFO19
      refine ⟨fun M27 => (∀ a, (a < L ∨ L + 7 < a) → a ≠ 600 → M27 a = M a) ∧ M27 L 1 = nE Z ∧ FOk M27 600 (f5 Z (kE Z) (i + 1)) ∧ TlN M27 L Z (kE Z) (i + 1), ?_, ?_⟩
      · rintro M27 ⟨k1, k2, k3, k4⟩
        intro x29 e29
        exact ⟨(nE Z - (i + 1)).toNat, by omega, i + 1, by omega, by omega, by omega, k1, k2, k3, k4⟩
      · have F19' : ∀ a, (a < L ∨ L + 7 < a) → a ≠ 600 → M19 a = M a := fun a ha hb => (F19 a hb).trans (hF a ha hb)
        have hFO2 : ∀ M' : jT, M' 600 = M19 600 → FOk M' 600 (f5 Z (kE Z) (i + 1)) := fun M' h => by unfold FOk; rw [h]; exact hFO19
        rw [hkey19]
        rcases oc_cases Z (kE Z i) (f5 Z (kE Z) i) with ⟨o1, o2, o3⟩ | ⟨o1, o2, o3, o4⟩ | ⟨o1, o2, o3, o4⟩
        · rw [o1]
          refine ⟨⟨by omega, by omega⟩, fun q => absurd rfl q, fun _ => ?_⟩
          refine sp_putVoid (k := kE Z) (n := i) ho hKi rfl (by omega) ⟨by omega, by omega⟩ hT19 hst o1 (fun M' k1 k2 k3 => ?_)
          exact ⟨fun a ha hb => (k1 a ha).trans (F19' a ha hb), by rw [k2, hL19], hFO2 M' (k1 600 (by omega)), k3⟩
        · rw [o1]
          refine ⟨⟨by omega, by omega⟩, fun _ => ⟨fun _ => ?_, fun q => by omega⟩, fun q => by omega⟩
          refine ⟨F19', hL19, hFO19, ?_⟩
          have a1 : tS Z (kE Z) (i + 1) = tS Z (kE Z) i := by simp only [tS]; rw [if_neg (by omega)]
          have a2 : tV Z (kE Z) (i + 1) = tV Z (kE Z) i := by simp only [tV]; rw [if_neg (by omega)]
          have a3 : tI Z (kE Z) (i + 1) = tI Z (kE Z) i := by simp only [tI]; rw [if_neg (by omega)]
          have a4 : tF Z (kE Z) (i + 1) = tF Z (kE Z) i := by simp only [tF]; rw [if_neg (by omega)]
          have b1 : vT Z (kE Z) (i + 1) = vT Z (kE Z) i := by simp only [vT]; rw [if_neg (by omega)]
          have b2 : vS Z (kE Z) (i + 1) = vS Z (kE Z) i := by simp only [vS]; rw [if_neg (by omega)]
          have b3 : vI Z (kE Z) (i + 1) = vI Z (kE Z) i := by simp only [vI]; rw [if_neg (by omega)]
          unfold TlN
          rw [← es, o2, a1, a2, a3, a4, b1, b2, b3]
          exact hT19
        · rw [o1]
          refine ⟨⟨by omega, by omega⟩, fun _ => ⟨fun q => by omega, fun _ => ?_⟩, fun q => by omega⟩
          have hfo := hFO19
          rw [← es, o2] at hfo
          refine sp_putTransition (k := kE Z) (n := i) ho hKi rfl (by omega) ⟨by omega, by omega⟩ hT19 hst ⟨hfo.1, hfo.2.1⟩ (by omega) (by rw [F19 L (by omega)]; exact hT4) (by rw [F19 L (by omega)]; exact hT5) o1 (fun M' k1 k2 k3 => ?_)
          exact ⟨fun a ha hb => (k1 a ha).trans (F19' a ha hb), by rw [k2, hL19], hFO2 M' (k1 600 (by omega)), k3⟩
theorem sp_compiled {M : jT} {z : Int} {Z : Int → Int} {Q : Int → jT → Prop} (hz : ZEq M (4 * z + 4) Z) (ho : ZOk Z) (h : 0 ≤ z ∧ z < 6) (hb : rg (M (8 * z + 521) 0)) (hfr : M (8 * z + 521) 0 ≠ 0 → Tl M (8 * z + 521) Z)
    (kk : ∀ M', (∀ a, (a < 8 * z + 521 ∨ 8 * z + 528 < a) → a ≠ 600 → a ≠ 606 → M' a = M a) → rg (M' (8 * z + 521) 0) → M' (8 * z + 521) 0 ≠ 0 → Tl M' (8 * z + 521) Z → Q (8 * z + 521) M') : wp_X10_compiled M 0 z Q := by
  have hn := nE_rng ho
  unfold wp_X10_compiled
  simp only [Int.zero_add]
  refine ⟨h, fun M12 => Q (8 * z + 521) M12, fun _ q => q, hb, fun c => kk M (fun _ _ _ _ => rfl) hb c (hfr c), fun c => ?_⟩
  refine sp_listEvents hz ho (by omega) (fun M18 F18 hC => ?_)
  refine sp_sortKeys (M := M18) (a0 := 606) (a1 := nE Z) hn (fun i i0 i1 => ?_) (fun M20 F20 hS hP => ?_)
  · have := (key_ok ho hC i0 i1)
    obtain ⟨k1, k2, k3⟩ := this
    exact ⟨by omega, by omega⟩
  · have hC20 : ∀ v, cnt (M20 606) (nE Z).toNat v = cE Z v := fun v => (hP v).trans (hC v)
    have hrow : ∀ i, 0 ≤ i → i < nE Z → M20 606 i = kE Z i := fun i i0 i1 => kE_eq hS hC20 i0 i1
    have hK : ∀ i, 0 ≤ i → i < nE Z → KOk Z (kE Z i) := fun i i0 i1 => by rw [← hrow i i0 i1]; exact key_ok ho hC20 i0 i1
    have F : ∀ a, a ≠ 606 → M20 a = M a := fun a ha => (F20 a ha).trans (F18 a ha)
    refine sp_compile (hz.mv (F _ (by omega)) (F _ (by omega)) (F _ (by omega)) (F _ (by omega))) ho (by omega) (by omega) hrow hK (fun M' k1 k2 k3 => ?_)
    exact kk M' (fun a a1 a2 a3 => (k1 a (by omega) a2).trans (F a a3)) (by rw [k2]; omega) (by rw [k2]; omega) k3
