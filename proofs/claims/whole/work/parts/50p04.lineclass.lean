/-! the class: a zone's object, its events, its line -/
def LK (Z : Int → Int) : Prop := ∀ i, 0 ≤ i → i < nE Z → KOk Z (kE Z i)
def ZEq (M : jT) (k : Int) (Z : Int → Int) : Prop := M k 0 = Z 0 ∧ M k 1 = Z 1 ∧ M k 2 = Z 2 ∧ (∀ r j, 0 ≤ r → r < Z 1 → 0 ≤ j → j < 7 → M (k + 1) (r * 7 + j) = Z (3 + 7 * r + j)) ∧ (∀ c, 0 ≤ c → c < Z 2 → M (k + 2) c = Z (59 + 2 * c) ∧ M (k + 3) c = Z (60 + 2 * c))
theorem ZEq.mv {M M' : jT} {k : Int} {Z : Int → Int} (h : ZEq M k Z) (h0 : M' k = M k) (h1 : M' (k + 1) = M (k + 1)) (h2 : M' (k + 2) = M (k + 2)) (h3 : M' (k + 3) = M (k + 3)) : ZEq M' k Z := by
  unfold ZEq; rw [h0, h1, h2, h3]; exact h
theorem ZEq.rn {M : jT} {k : Int} {Z : Int → Int} (h : ZEq M k Z) {r : Int} (j i : Int) (h0 : 0 ≤ r) (h1 : r < Z 1) (hj : 0 ≤ j ∧ j < 7 ∧ i = 3 + j) : pf_X9_ruleNumber M k r j = Z (i + 7 * r) := by
  unfold pf_X9_ruleNumber
  rw [h.2.2.2.1 r j h0 h1 hj.1 hj.2.1]
  congr 1; omega
theorem pg_rn {M : jT} {k r j : Int} (h0 : 0 ≤ r) (h1 : r < 8) (hj : 0 ≤ j ∧ j < 7) : pg_X9_ruleNumber M k r j := by
  unfold pg_X9_ruleNumber; exact ⟨by omega, trivial⟩
theorem sp_putKey {M : jT} {k a1 a2 a3 a4 : Int} {Z : Int → Int} {Q : Int → jT → Prop} (hz : ZEq M k Z) (ho : ZOk Z) (h2 : 0 ≤ a2 ∧ a2 < 260) (h3 : -1 ≤ a3 ∧ a3 ≤ 11687) (h4 : (0 ≤ a4 ∧ a4 < 4) ∨ (4 ≤ a4 ∧ a4 - 4 < Z 1))
    (q1 : a3 < 0 → Q a2 M) (q2 : 0 ≤ a3 → Q (a2 + 1) (up M a1 a2 ((1440 * a3 + (if a4 < 4 then 0 else Z (7 + 7 * (a4 - 4)))) * 16 + a4))) : wp_X9_putKey M k a1 a2 a3 a4 Q := by
  have ho1 := ho.2.1
  unfold wp_X9_putKey
  refine ⟨a3 < 0, q1, ⟨by omega, by omega⟩, fun c => c, fun c => ⟨⟨by omega, by omega⟩, fun c2 => ⟨⟨⟨by omega, by omega⟩, fun c3 => ⟨pg_rn (by omega) (by omega) (by omega), trivial⟩, fun _ => trivial⟩, ?_⟩, fun c2 => by omega⟩⟩
  intro x31 a b
  have hx : x31 = if a4 < 4 then 0 else Z (7 + 7 * (a4 - 4)) := by
    by_cases c3 : a4 < 4
    · rw [if_pos c3]; exact b c3
    · rw [if_neg c3, a (by omega), hz.rn 4 7 (by omega) (by omega) (by omega)]
  have hr : 0 ≤ x31 ∧ x31 ≤ 1439 := by
    rw [hx]
    split
    · omega
    · have := ho.2.2.2.1 (a4 - 4) (by omega) (by omega)
      omega
  refine ⟨⟨by omega, by omega⟩, ⟨by omega, by omega⟩, by omega, ?_⟩
  intro M41 e
  rw [e, hx]; exact q2 c
theorem sp_listEvents {M : jT} {k : Int} {Z : Int → Int} {Q : Int → jT → Prop} (hz : ZEq M k Z) (ho : ZOk Z) (hk : k + 3 < 606)
    (kk : ∀ M', (∀ a, a ≠ 606 → M' a = M a) → (∀ v, cnt (M' 606) (nE Z).toNat v = cE Z v) → Q (nE Z) M') : wp_X9_listEvents M k 606 Q := by
  have ho1 := ho.2.1
  have ho2 := ho.2.2.1
  have hmv : ∀ M' : jT, (∀ a, a ≠ 606 → M' a = M a) → ZEq M' k Z := fun M' h => hz.mv (h _ (by omega)) (h _ (by omega)) (h _ (by omega)) (h _ (by omega))
  unfold wp_X9_listEvents
  refine ⟨fun n x1 x2 M3 => ∃ c : Nat, x2 = c ∧ x1 = c ∧ (c : Int) ≤ Z 2 ∧ (Z 2 - c).toNat ≤ n ∧ (∀ a, a ≠ 606 → M3 a = M a) ∧ ∀ v, cnt (M3 606) c v = cC Z c v, ⟨(Z 2).toNat, 0, rfl, rfl, by omega, by omega, fun _ _ => rfl, fun _ => rfl⟩, ?_⟩
  rintro n5 x1 x2 M3 ⟨c, rfl, rfl, c1, c2, hF, hC⟩
  have hz3 := hmv M3 hF
  rw [hz3.2.2.1]
  refine ⟨⟨by omega, by omega⟩, ⟨by omega, by omega⟩, fun q => ?_, fun q => ⟨by omega, ?_⟩⟩
  · have ec : (c : Int) = Z 2 := by omega
    refine ⟨fun n x9 x10 M11 => ∃ r : Nat, x10 = r ∧ x9 = Z 2 + (nR Z r : Int) ∧ (r : Int) ≤ Z 1 ∧ (Z 1 - r).toNat ≤ n ∧ (∀ a, a ≠ 606 → M11 a = M a) ∧ ∀ v, cnt (M11 606) (Z 2 + (nR Z r : Int)).toNat v = cC Z (Z 2).toNat v + cR Z r v, ⟨(Z 1).toNat, 0, rfl, by simp only [nR]; omega, by omega, by omega, hF, ?_⟩, ?_⟩
    · intro v
      have := hC v
      simp only [nR, cR]
      rw [show (Z 2 + ((0 : Nat) : Int)).toNat = c by omega, show (Z 2).toNat = c by omega]
      exact this
    · rintro n13 x9 x10 M11 ⟨r, rfl, rfl, r1, r2, hF, hC⟩
      have hz11 := hmv M11 hF
      rw [hz11.2.1]
      refine ⟨⟨by omega, by omega⟩, ⟨by omega, by omega⟩, fun q2 => ?_, fun q2 => ?_⟩
      · have er : Z 1 = r := by omega
        have e1 : nE Z = Z 2 + (nR Z r : Int) := by unfold nE; rw [er]; simp
        rw [← e1]
        refine kk M11 hF (fun v => ?_)
        rw [e1, hC v]; unfold cE; rw [er]; simp
      · have hr := ho.2.2.2.1 r (by omega) (by omega)
        rw [hz11.rn 2 5 (by omega) (by omega) (by omega), hz11.rn 3 6 (by omega) (by omega) (by omega), hz11.rn 1 4 (by omega) (by omega) (by omega), hz11.rn 0 3 (by omega) (by omega) (by omega)]
        refine ⟨pg_rn (by omega) (by omega) (by omega), ?_⟩
        intro x20 e20
        refine ⟨pg_rn (by omega) (by omega) (by omega), ?_⟩
        intro x24 e24
        refine ⟨pg_rn (by omega) (by omega) (by omega), ?_⟩
        intro x28 e28
        refine ⟨pg_rn (by omega) (by omega) (by omega), ?_⟩
        intro x32 e32
        have hnR := nR_le ho r (by omega)
        refine ⟨fun n x33 x34 M35 => ∃ j : Nat, x34 = Z (3 + 7 * r) + j ∧ x33 = Z 2 + (nR Z r : Int) + (nY Z r j : Int) ∧ j ≤ lY Z r ∧ lY Z r - j ≤ n ∧ (∀ a, a ≠ 606 → M35 a = M a) ∧ ∀ v, cnt (M35 606) (Z 2 + (nR Z r : Int) + (nY Z r j : Int)).toNat v = cC Z (Z 2).toNat v + cR Z r v + cY Z r j v, ⟨lY Z r, 0, by omega, by simp only [nY]; omega, by omega, by omega, hF, ?_⟩, ?_⟩
        · intro v
          have := hC v
          simp only [nY, cY]
          rw [show (Z 2 + (nR Z r : Int) + ((0 : Nat) : Int)) = Z 2 + (nR Z r : Int) by omega]
          omega
        · rintro n37 x33 x34 M35 ⟨j, rfl, rfl, j1, j2, hF, hC⟩
          have hz35 := hmv M35 hF
          have hnY := nY_le (Z := Z) (r := r) j
          have hlY : (lY Z r : Int) = Z (4 + 7 * r) + 1 - Z (3 + 7 * r) := by unfold lY; omega
          refine ⟨⟨by omega, by omega⟩, ⟨by omega, by omega⟩, fun q3 => ?_, fun q3 => ?_⟩
          · intro x41 e41
            have ej : j = lY Z r := by omega
            refine ⟨(Z 1 - x41).toNat, by omega, r + 1, by omega, ?_, by omega, by omega, hF, fun v => ?_⟩
            · simp only [nR]; rw [ej]; omega
            · have := hC v
              rw [ej] at this
              simp only [nR, cR]
              rw [show (Z 2 + ((nR Z r + nY Z r (lY Z r) : Nat) : Int)) = Z 2 + (nR Z r : Int) + (nY Z r (lY Z r) : Int) by omega]
              omega
          · have hdate := hr.2.2.2.2.2.1
            rw [e20, e24]
            refine ⟨pg_dD (by omega) (by omega) hdate, ?_⟩
            intro x46 e46
            rw [pf_dD (by omega) (by omega) hdate] at e46
            have hd := dR_rng ho (r := r) (y := Z (3 + 7 * r) + j) (by omega) (by omega) (by omega)
            have e47 : x46 = dR Z r (Z (3 + 7 * r) + j) := e46
            refine sp_putKey hz35 ho (by omega) (by omega) (Or.inr (by omega)) (fun q4 => ?_) (fun q4 => ?_)
            · intro x49 e49
              have e1 : nY Z r (j + 1) = nY Z r j := by simp only [nY]; rw [if_neg (by omega)]; rfl
              refine ⟨lY Z r - (j + 1), by omega, j + 1, by omega, by rw [e1], by omega, by omega, hF, fun v => ?_⟩
              rw [e1, hC v]
              simp only [cY]; rw [if_neg (by omega)]
              omega
            · intro x49 e49
              have e1 : nY Z r (j + 1) = nY Z r j + 1 := by simp only [nY]; rw [if_pos (by omega)]
              have ek : (1440 * x46 + (if (4 : Int) + r < 4 then 0 else Z (7 + 7 * (4 + (r : Int) - 4)))) * 16 + (4 + (r : Int)) = kR Z r (Z (3 + 7 * r) + j) := by
                rw [if_neg (by omega), show (4 + (r : Int) - 4) = r by omega, e47]; rfl
              refine ⟨lY Z r - (j + 1), by omega, j + 1, by omega, by rw [e1]; omega, by omega, by omega, fun a ha => by rw [up_ne ha]; exact hF a ha, fun v => ?_⟩
              rw [e1, show (Z 2 + (nR Z r : Int) + ((nY Z r j + 1 : Nat) : Int)).toNat = (Z 2 + (nR Z r : Int) + (nY Z r j : Int)).toNat + 1 by omega, ek, up_row]
              rw [cnt_push (f := M35 606) (w := kR Z r (Z (3 + 7 * r) + j)) (fun i hi => upr_ne (by omega)) (by rw [show (((Z 2 + (nR Z r : Int) + (nY Z r j : Int)).toNat : Nat) : Int) = Z 2 + (nR Z r : Int) + (nY Z r j : Int) by omega]; exact upr_eq), hC v]
              simp only [cY]
              by_cases q5 : kR Z r (Z (3 + 7 * r) + j) = v
              · rw [if_pos q5, if_pos ⟨by omega, q5⟩]; omega
              · rw [if_neg q5, if_neg (fun q6 => q5 q6.2)]; omega
  · have hc := ho.2.2.2.2 c (by omega) (by omega)
    have h2c := (hz3.2.2.2.2 c (by omega) (by omega)).1
    refine sp_putKey hz3 ho (by omega) (by omega) (Or.inl (by omega)) (fun q4 => by omega) (fun q4 => ?_)
    intro x54 e54
    have ek : (1440 * M3 (k + 2) c + (if (c : Int) < 4 then 0 else Z (7 + 7 * ((c : Int) - 4)))) * 16 + (c : Int) = kC Z c := by
      rw [if_pos (by omega), h2c]; rfl
    refine ⟨(Z 2 - x54).toNat, by omega, c + 1, by omega, by omega, by omega, by omega, fun a ha => by rw [up_ne ha]; exact hF a ha, fun v => ?_⟩
    rw [ek, up_row, cnt_push (f := M3 606) (w := kC Z c) (fun i hi => upr_ne (by omega)) upr_eq, hC v]
    rfl
