/-! meetings: the days that are laid -/
def GOk (G : Int → Int) : Prop := (0 ≤ G 1 ∧ G 1 ≤ 11687) ∧ (0 ≤ G 2 ∧ G 2 ≤ 1439) ∧ (1 ≤ G 3 ∧ G 3 ≤ 1440) ∧ (0 ≤ G 4 ∧ G 4 ≤ 3) ∧ (1 ≤ G 5 ∧ G 5 ≤ 40) ∧ (0 ≤ G 6 ∧ G 6 ≤ 3) ∧ (1 ≤ G 7 ∧ G 7 ≤ 60) ∧ (0 ≤ G 8 ∧ G 8 ≤ 127) ∧ (∀ i, 0 ≤ i → i < 40 → -1440 ≤ G (9 + i) ∧ G (9 + i) ≤ 1440) ∧ (∀ i, 0 ≤ i → i < 40 → G (49 + i) = 0 ∨ G (49 + i) = 1)
def ap (many : Int) (c : Nat → Int) : Nat → Int × (Int → Int)
  | 0 => (0, fun _ => 0)
  | n + 1 => if 0 ≤ c n ∧ (ap many c n).1 < many then ((ap many c n).1 + 1, upr (ap many c n).2 (ap many c n).1 (c n)) else ap many c n
theorem ap_rng {many : Int} {c : Nat → Int} (h : 0 ≤ many) : ∀ n : Nat, 0 ≤ (ap many c n).1 ∧ (ap many c n).1 ≤ many ∧ (ap many c n).1 ≤ n
  | 0 => by simp only [ap]; omega
  | n + 1 => by
    have := ap_rng (c := c) h n
    simp only [ap]; split
    · simp only []; omega
    · omega
theorem ap_all {many : Int} {c : Nat → Int} {P : Int → Prop} (h0 : 0 ≤ many) (h : ∀ j, 0 ≤ c j → P (c j)) : ∀ n : Nat, ∀ i, 0 ≤ i → i < (ap many c n).1 → P ((ap many c n).2 i)
  | 0, i, a, b => by simp only [ap] at b; omega
  | n + 1, i, a, b => by
    have ih := ap_all h0 h n i a
    simp only [ap] at b ⊢
    split at b
    · rename_i q
      rw [if_pos q]
      simp only [] at b ⊢
      unfold upr
      by_cases e : i = (ap many c n).1
      · rw [if_pos e]; exact h n q.1
      · rw [if_neg e]; exact ih (by omega)
    · rename_i q
      rw [if_neg q]; exact ih b
theorem ap_stop {many : Int} {c : Nat → Int} {a : Nat} : ∀ d : Nat, (many ≤ (ap many c a).1 ∨ ∀ j, a ≤ j → j < a + d → c j < 0) → ap many c (a + d) = ap many c a
  | 0, _ => rfl
  | d + 1, h => by
    have ih := ap_stop (many := many) (c := c) (a := a) d (h.imp id (fun q j x y => q j x (by omega)))
    show (if 0 ≤ c (a + d) ∧ (ap many c (a + d)).1 < many then _ else ap many c (a + d)) = _
    rw [ih]
    rcases h with h | h
    · rw [if_neg (by omega)]
    · have := h (a + d) (by omega) (by omega)
      rw [if_neg (by omega)]
abbrev bS (v w : Int) : Prop := v / 2 ^ w.toNat % 2 ≠ 0
def c0 (G : Int → Int) (j : Nat) : Int := if G 1 + (j : Int) * G 7 ≤ 11687 then G 1 + (j : Int) * G 7 else -1
def wkD (G : Int → Int) (j : Nat) : Int := G 1 - (G 1 + 5) % 7 + 7 * (G 7 * ((j / 7 : Nat) : Int)) + ((j % 7 : Nat) : Int)
def c1 (G : Int → Int) (j : Nat) : Int := if bS (G 8) ((j % 7 : Nat) : Int) ∧ G 1 ≤ wkD G j ∧ wkD G j ≤ 11687 then wkD G j else -1
def m0 (G : Int → Int) : Int := 12 * yO (G 1) + mO (yO (G 1)) (G 1) - 1
def ix (G : Int → Int) : Int := G 1 - mD (yO (G 1)) (mO (yO (G 1)) (G 1))
def cM (G : Int → Int) (mo : Int) : Int := if G 6 = 2 then (if ix G < mL (mo / 12) (mo % 12 + 1) then mD (mo / 12) (mo % 12 + 1) + ix G else -1) else (if wF (mD (mo / 12) (mo % 12 + 1)) ((G 1 + 5) % 7) + ix G / 7 * 7 < mD (mo / 12) (mo % 12 + 1) + mL (mo / 12) (mo % 12 + 1) then wF (mD (mo / 12) (mo % 12 + 1)) ((G 1 + 5) % 7) + ix G / 7 * 7 else -1)
def c2 (G : Int → Int) (j : Nat) : Int := if m0 G + G 7 * (j : Int) < 384 then cM G (m0 G + G 7 * (j : Int)) else -1
def cd (G : Int → Int) : Nat → Int := if G 6 = 0 then c0 G else if G 6 = 1 then c1 G else c2 G
def nD (G : Int → Int) : Int := (ap (G 5) (cd G) 12600).1
def dO (G : Int → Int) : Int → Int := (ap (G 5) (cd G) 12600).2
theorem ix_rng {G : Int → Int} (h : GOk G) : 0 ≤ ix G ∧ ix G ≤ 30 := by
  have h1 := mO_in h.1
  have h2 := mL_rng (y := yO (G 1)) (m := mO (yO (G 1)) (G 1)) mO_rng
  unfold ix; omega
theorem m0_rng {G : Int → Int} (h : GOk G) : 0 ≤ m0 G ∧ m0 G < 384 ∧ m0 G / 12 = yO (G 1) ∧ m0 G % 12 + 1 = mO (yO (G 1)) (G 1) := by
  have h1 := yO_rng h.1
  have h2 := mO_rng (y := yO (G 1)) (d := G 1)
  unfold m0; omega
theorem cM_rng {G : Int → Int} (h : GOk G) {mo : Int} (h0 : 0 ≤ mo ∧ mo < 384) : cM G mo = -1 ∨ (mD (mo / 12) (mo % 12 + 1) ≤ cM G mo ∧ cM G mo < mD (mo / 12) (mo % 12 + 1) + mL (mo / 12) (mo % 12 + 1) ∧ 0 ≤ cM G mo ∧ cM G mo ≤ 11687) := by
  have h1 := mD_rng (y := mo / 12) (m := mo % 12 + 1) (by omega) (by omega)
  have h2 := ix_rng h
  have h3 := wF_rng (d := mD (mo / 12) (mo % 12 + 1)) (w := (G 1 + 5) % 7) (by omega) (by omega)
  unfold cM
  split <;> split <;> omega
theorem mu_le {a w v : Int} (h : 1 ≤ a) (h0 : w ≤ v) (hw : 0 ≤ w) : a * w ≤ a * v ∧ w ≤ a * w := by
  refine ⟨Int.mul_le_mul_of_nonneg_left h0 (by omega), ?_⟩
  have := Int.mul_le_mul_of_nonneg_right h hw
  omega
theorem cd_rng {G : Int → Int} (h : GOk G) (j : Nat) (h0 : 0 ≤ cd G j) : 0 ≤ cd G j ∧ cd G j ≤ 11687 := by
  unfold cd at h0 ⊢
  split at h0
  · rename_i q; rw [if_pos q]
    unfold c0 at h0 ⊢
    split at h0
    · rename_i q2; rw [if_pos q2]; omega
    · omega
  · rename_i q; rw [if_neg q]
    split at h0
    · rename_i q2; rw [if_pos q2]
      unfold c1 at h0 ⊢
      split at h0
      · rename_i q3; rw [if_pos q3]; omega
      · omega
    · rename_i q2; rw [if_neg q2]
      unfold c2 at h0 ⊢
      split at h0
      · rename_i q3; rw [if_pos q3]
        have := mu_le (a := G 7) (w := j) (v := j) (by have := h.2.2.2.2.2.2.1; omega) (Int.le_refl _) (by omega)
        have := m0_rng h
        have := cM_rng h (mo := m0 G + G 7 * (j : Int)) (by omega)
        omega
      · omega
theorem nD_rng {G : Int → Int} (h : GOk G) : 0 ≤ nD G ∧ nD G ≤ 40 := by
  have := ap_rng (many := G 5) (c := cd G) (by have := h.2.2.2.2.1; omega) 12600
  have := h.2.2.2.2.1
  unfold nD; omega
theorem dO_rng {G : Int → Int} (h : GOk G) {i : Int} (h0 : 0 ≤ i) (h1 : i < nD G) : 0 ≤ dO G i ∧ dO G i ≤ 11687 :=
  ap_all (P := fun x => 0 ≤ x ∧ x ≤ 11687) (by have := h.2.2.2.2.1; omega) (fun j hj => cd_rng h j hj) 12600 i h0 h1
/-! the class -/
def GEq (M : jT) (k : Int) (G : Int → Int) : Prop := (∀ i, 0 ≤ i → i < 9 → M k i = G i) ∧ (∀ i, 0 ≤ i → i < 40 → M (k + 1) i = G (9 + i)) ∧ (0 ≤ M k 9 ∧ M k 9 < 2 ^ 40) ∧ (∀ i, 0 ≤ i → i < 40 → (bS (M k 9) i ↔ G (49 + i) ≠ 0))
theorem GEq.mv {M M' : jT} {k : Int} {G : Int → Int} (h : GEq M k G) (h0 : M' k = M k) (h1 : M' (k + 1) = M (k + 1)) : GEq M' k G := by
  unfold GEq; rw [h0, h1]; exact h
/-- days put so far, in the plan at L -/
def LSt (M : jT) (L many : Int) (c : Nat → Int) (n : Nat) : Prop := M L 2 = (ap many c n).1 ∧ ∀ i, 0 ≤ i → i < (ap many c n).1 → M (L + 1) i = (ap many c n).2 i
theorem sp_putDay {M : jT} {L k d : Int} {G : Int → Int} {c : Nat → Int} {n : Nat} {Q : jT → Prop} (hG : GEq M k G) (ho : GOk G) (hk : k + 1 < L) (hd : rg d) (hS : LSt M L (G 5) c n) (hc : c n = if G 1 ≤ d ∧ d ≤ 11687 then d else -1)
    (kk : ∀ M', (∀ a, a ≠ L → a ≠ L + 1 → M' a = M a) → (∀ b, b ≠ 2 → M' L b = M L b) → LSt M' L (G 5) c (n + 1) → Q M') : wp_X5_putDay M L k d Q := by
  have ho1 := ho.1
  have ho5 := ho.2.2.2.2.1
  have hr := ap_rng (many := G 5) (c := c) (by omega) n
  obtain ⟨s1, s2⟩ := hS
  unfold wp_X5_putDay
  rw [hG.1 1 (by omega) (by omega), hG.1 5 (by omega) (by omega), s1]
  have hno : ¬ (0 ≤ c n ∧ (ap (G 5) c n).1 < G 5) → Q M := fun q => by
    refine kk M (fun _ _ _ => rfl) (fun _ _ => rfl) ?_
    have e : ap (G 5) c (n + 1) = ap (G 5) c n := by simp only [ap]; rw [if_neg q]
    unfold LSt; rw [e]; exact ⟨s1, s2⟩
  refine ⟨fun M' => Q M', fun _ q => q, hd, ⟨by omega, by omega⟩, fun q => hno (by rw [if_neg (by omega)] at hc; omega), fun q => ⟨fun q2 => hno (by rw [if_neg (by omega)] at hc; omega), fun q2 => ⟨⟨by omega, by omega⟩, ⟨by omega, by omega⟩, fun q3 => hno (by omega), fun q3 => ⟨fun q4 => by omega, fun q4 => ⟨by omega, ?_⟩⟩⟩⟩⟩
  rw [if_pos ⟨q, q2⟩] at hc
  refine up_in fun M23 h23 => ?_
  have e2 : M23 L 2 = (ap (G 5) c n).1 := by rw [h23, if_neg (by omega), s1]
  rw [e2]
  refine up_in fun M24 h24 => ?_
  have e : ap (G 5) c (n + 1) = ((ap (G 5) c n).1 + 1, upr (ap (G 5) c n).2 (ap (G 5) c n).1 d) := by simp only [ap]; rw [if_pos ⟨by omega, q3⟩, hc]
  refine kk M24 (fun a a1 a2 => funext fun b => by rw [h24, if_neg (by omega), h23, if_neg (by omega)]) (fun b b1 => by rw [h24, if_neg (by omega), h23, if_neg (by omega)]) ?_
  unfold LSt; rw [e]
  refine ⟨by rw [h24, if_pos ⟨rfl, rfl⟩], fun i i0 i1 => ?_⟩
  simp only [] at i1 ⊢
  unfold upr
  rw [h24, if_neg (by omega), h23]
  by_cases q6 : i = (ap (G 5) c n).1
  · rw [if_pos ⟨rfl, q6⟩, if_pos q6]
  · rw [if_neg (by omega), if_neg q6]; exact s2 i i0 (by omega)
def FrL (M M' : jT) (L : Int) : Prop := (∀ a, a ≠ L → a ≠ L + 1 → M' a = M a) ∧ (∀ b, b ≠ 2 → M' L b = M L b)
theorem FrL.trans {M M1 M2 : jT} {L : Int} (a : FrL M M1 L) (b : FrL M1 M2 L) : FrL M M2 L := ⟨fun x h1 h2 => (b.1 x h1 h2).trans (a.1 x h1 h2), fun x h1 => (b.2 x h1).trans (a.2 x h1)⟩
theorem FrL.G {M M' : jT} {L k : Int} {G : Int → Int} (f : FrL M M' L) (h : GEq M k G) (hk : k + 1 < L) : GEq M' k G := h.mv (f.1 k (by omega) (by omega)) (f.1 (k + 1) (by omega) (by omega))
theorem ap_end {many : Int} {c : Nat → Int} {a : Nat} (h : a ≤ 12600) (hs : many ≤ (ap many c a).1 ∨ ∀ j, a ≤ j → c j < 0) : ap many c 12600 = ap many c a := by
  have := ap_stop (many := many) (c := c) (a := a) (12600 - a) (hs.imp id (fun q j x _ => q j x))
  rw [show a + (12600 - a) = 12600 by omega] at this
  exact this
theorem c0_mono {G : Int → Int} (ho : GOk G) {a j : Nat} (h : a ≤ j) (ha : 11687 < G 1 + (a : Int) * G 7) : c0 G j < 0 := by
  have := mu_le (a := G 7) (w := a) (v := j) (by have := ho.2.2.2.2.2.2.1; omega) (by omega) (by omega)
  rw [Int.mul_comm (G 7), Int.mul_comm (G 7)] at this
  unfold c0; rw [if_neg (by omega)]; omega
theorem sp_layDays {M : jT} {L k : Int} {G : Int → Int} {Q : jT → Prop} (hG : GEq M k G) (ho : GOk G) (hk : k + 1 < L) (h2 : M L 2 = 0)
    (kk : ∀ M' n, FrL M M' L → n ≤ 12600 → LSt M' L (G 5) (c0 G) n → ap (G 5) (c0 G) 12600 = ap (G 5) (c0 G) n → Q M') : wp_X5_layDays M L k Q := by
  have ho1 := ho.1
  have ho5 := ho.2.2.2.2.1
  have ho7 := ho.2.2.2.2.2.2.1
  unfold wp_X5_layDays
  refine ⟨fun n x M2 => ∃ i : Nat, x = i ∧ (i : Int) ≤ G 5 ∧ (G 5 - i).toNat ≤ n ∧ FrL M M2 L ∧ LSt M2 L (G 5) (c0 G) i ∧ ((ap (G 5) (c0 G) i).1 = i ∨ ∀ j, i ≤ j → c0 G j < 0), ⟨(G 5).toNat, 0, rfl, by omega, by omega, ⟨fun _ _ _ => rfl, fun _ _ => rfl⟩, ⟨h2, fun i a b => by simp only [ap] at b; omega⟩, Or.inl rfl⟩, ?_⟩
  rintro n4 x1 M2 ⟨i, rfl, i1, i2, f, hS, hor⟩
  have hG2 := f.G hG hk
  rw [hG2.1 5 (by omega) (by omega), hG2.1 1 (by omega) (by omega), hG2.1 7 (by omega) (by omega)]
  refine ⟨⟨by omega, by omega⟩, ⟨by omega, by omega⟩, fun c => ?_, fun c => ?_⟩
  · exact kk M2 i f (by omega) hS (ap_end (by omega) (hor.imp (fun q => by omega) id))
  · have hmu := mu_le (a := G 7) (w := i) (v := 40) (by omega) (by omega) (by omega)
    have hmu2 := mu_le (a := (40 : Int)) (w := G 7) (v := 60) (by omega) (by omega) (by omega)
    rw [Int.mul_comm (G 7), Int.mul_comm (G 7)] at hmu
    refine sp_putDay hG2 ho hk (by exact ⟨by omega, by omega⟩) hS (by
      unfold c0
      by_cases q : G 1 + (i : Int) * G 7 ≤ 11687
      · rw [if_pos q, if_pos ⟨by omega, q⟩]
      · rw [if_neg q, if_neg (fun z => q z.2)]) (fun M' f1 f2 hS' => ?_)
    intro x10 e10
    refine ⟨(G 5 - (i + 1)).toNat, by omega, i + 1, by omega, by omega, by omega, f.trans ⟨f1, f2⟩, hS', ?_⟩
    by_cases q : G 1 + (i : Int) * G 7 ≤ 11687
    · rcases hor with hor | hor
      · left
        have : c0 G i = G 1 + (i : Int) * G 7 := by unfold c0; rw [if_pos q]
        simp only [ap]; rw [if_pos ⟨by omega, by omega⟩]
        simp only []; omega
      · have := hor i (Nat.le_refl _)
        unfold c0 at this; rw [if_pos q] at this; omega
    · exact Or.inr (fun j hj => c0_mono ho (a := i) (by omega) (by omega))
theorem c1_late {G : Int → Int} (ho : GOk G) {w j : Nat} (h : 7 * w ≤ j) (ha : 11687 < G 1 - (G 1 + 5) % 7 + 7 * (G 7 * (w : Int))) : c1 G j < 0 := by
  have := mu_le (a := G 7) (w := w) (v := ((j / 7 : Nat) : Int)) (by have := ho.2.2.2.2.2.2.1; omega) (by omega) (by omega)
  have : 11687 < wkD G j := by unfold wkD; omega
  unfold c1; rw [if_neg (by omega)]; omega
theorem sp_layWeeks {M : jT} {L k : Int} {G : Int → Int} {Q : jT → Prop} (hG : GEq M k G) (ho : GOk G) (hk : k + 1 < L) (h2 : M L 2 = 0)
    (kk : ∀ M' n, FrL M M' L → n ≤ 12600 → LSt M' L (G 5) (c1 G) n → ap (G 5) (c1 G) 12600 = ap (G 5) (c1 G) n → Q M') : wp_X5_layWeeks M L k Q := by
  have ho1 := ho.1
  have ho5 := ho.2.2.2.2.1
  have ho7 := ho.2.2.2.2.2.2.1
  have ho8 := ho.2.2.2.2.2.2.2.1
  unfold wp_X5_layWeeks
  rw [hG.1 1 (by omega) (by omega)]
  refine ⟨by unfold pg_X1_weekday; exact ⟨by omega, trivial⟩, ?_⟩
  intro x4 e4
  have e4 : x4 = G 1 - (G 1 + 5) % 7 := e4
  refine ⟨fun n x M6 => ∃ w : Nat, x = x4 + 7 * (G 7 * (w : Int)) ∧ w ≤ 1700 ∧ (11688 - x).toNat ≤ n ∧ FrL M M6 L ∧ LSt M6 L (G 5) (c1 G) (7 * w), ⟨(11688 - x4).toNat, 0, by simp, by omega, by omega, ⟨fun _ _ _ => rfl, fun _ _ => rfl⟩, ⟨h2, fun i a b => by simp only [ap] at b; omega⟩⟩, ?_⟩
  rintro n8 x5 M6 ⟨w, ex, w1, w2, f, hS⟩
  have hG6 := f.G hG hk
  have hr := ap_rng (many := G 5) (c := c1 G) (by omega) (7 * w)
  have hmw := mu_le (a := G 7) (w := w) (v := 1700) (by omega) (by omega) (by omega)
  rw [hG6.1 5 (by omega) (by omega), hS.1]
  refine ⟨(11687 < x5 ∨ G 5 ≤ (ap (G 5) (c1 G) (7 * w)).1), fun hst => ?_, ⟨by omega, by omega⟩, fun c => Or.inl c, fun c => ⟨⟨by omega, by omega⟩, ⟨by omega, by omega⟩, fun c2 => Or.inr c2, fun c2 => ?_⟩⟩
  · refine kk M6 (7 * w) f (by omega) hS (ap_end (by omega) ?_)
    rcases hst with h | h
    · exact Or.inr (fun j hj => c1_late ho hj (by omega))
    · exact Or.inl h
  · refine ⟨fun n x M44 => ∃ d : Nat, x = d ∧ d ≤ 7 ∧ 7 - d ≤ n ∧ FrL M M44 L ∧ LSt M44 L (G 5) (c1 G) (7 * w + d), ⟨7, 0, rfl, by omega, by omega, f, hS⟩, ?_⟩
    rintro n46 x43 M44 ⟨d, rfl, d1, d2, f44, hS44⟩
    have hG44 := f44.G hG hk
    rw [hG44.1 7 (by omega) (by omega), hG44.1 8 (by omega) (by omega)]
    refine ⟨⟨by omega, by omega⟩, fun c3 => ⟨⟨by omega, by omega⟩, ?_⟩, fun c3 => ⟨by omega, ⟨by omega, by omega⟩, ?_⟩⟩
    · intro x50 e50
      have ed : d = 7 := by omega
      have em : G 7 * ((w + 1 : Nat) : Int) = G 7 * (w : Int) + G 7 := by rw [show ((w + 1 : Nat) : Int) = (w : Int) + 1 by omega, Int.mul_add, Int.mul_one]
      refine ⟨(11688 - x50).toNat, by omega, w + 1, by omega, by omega, by omega, f44, ?_⟩
      have e9 : 7 * (w + 1) = 7 * w + d := by omega
      rw [e9]; exact hS44
    · have e1 : (7 * w + d) / 7 = w := by omega
      have e2 : (7 * w + d) % 7 = d := by omega
      have ewk : wkD G (7 * w + d) = x5 + d := by unfold wkD; rw [e1, e2]; omega
      refine ⟨fun M' => FrL M M' L ∧ LSt M' L (G 5) (c1 G) (7 * w + d + 1), ?_, ⟨by omega, by omega⟩, fun c4 => ?_, fun c4 => ?_⟩
      · rintro M' ⟨k1, k2⟩
        intro x60 e60
        exact ⟨7 - (d + 1), by omega, d + 1, by omega, by omega, by omega, k1, k2⟩
      · refine ⟨f44, ?_⟩
        have : c1 G (7 * w + d) = -1 := by unfold c1; rw [e2, if_neg (fun q => q.1 c4)]
        have e : ap (G 5) (c1 G) (7 * w + d + 1) = ap (G 5) (c1 G) (7 * w + d) := by simp only [ap]; rw [if_neg (by omega)]
        unfold LSt; rw [e]; exact hS44
      · refine sp_putDay hG44 ho hk (by exact ⟨by omega, by omega⟩) hS44 (by
          unfold c1; rw [e2, ewk]
          by_cases q : G 1 ≤ x5 + d ∧ x5 + d ≤ 11687
          · rw [if_pos ⟨c4, q⟩, if_pos q]
          · rw [if_neg (fun z => q z.2), if_neg q]) (fun M' f1 f2 hS' => ⟨f44.trans ⟨f1, f2⟩, hS'⟩)
theorem sp_layMonths {M : jT} {L k : Int} {G : Int → Int} {Q : jT → Prop} (hG : GEq M k G) (ho : GOk G) (hk : k + 1 < L) (h2 : M L 2 = 0) (h6 : G 6 = 2 ∨ G 6 = 3)
    (kk : ∀ M' n, FrL M M' L → n ≤ 12600 → LSt M' L (G 5) (c2 G) n → ap (G 5) (c2 G) 12600 = ap (G 5) (c2 G) n → Q M') : wp_X5_layMonths M L k Q := by
  have ho1 := ho.1
  have ho5 := ho.2.2.2.2.1
  have ho7 := ho.2.2.2.2.2.2.1
  have hy := yO_rng ho1
  have hmo := mO_rng (y := yO (G 1)) (d := G 1)
  have hm0 := m0_rng ho
  have hix := ix_rng ho
  unfold wp_X5_layMonths
  rw [hG.1 1 (by omega) (by omega), hG.1 7 (by omega) (by omega), pf_yO]
  refine ⟨pg_yO ho1, ?_⟩
  intro x4 e4
  subst e4
  refine sp_X1_monthOf (by omega) (by omega) ?_
  intro x7 e7
  have e7 : x7 = m0 G := e7
  rw [e7, hm0.2.2.2, pf_mS]
  refine ⟨by omega, pg_mS (by omega) hmo, ?_⟩
  intro x12 e12
  have e12 : x12 = ix G := e12
  refine ⟨by unfold pg_X1_weekday; exact ⟨by omega, trivial⟩, ?_⟩
  intro x16 e16
  have e16 : x16 = (G 1 + 5) % 7 := e16
  refine ⟨⟨by omega, by omega⟩, ?_⟩
  intro x18 e18
  refine ⟨fun n x M20 => ∃ j : Nat, x = m0 G + G 7 * (j : Int) ∧ j ≤ 500 ∧ (384 - x).toNat ≤ n ∧ FrL M M20 L ∧ LSt M20 L (G 5) (c2 G) j, ⟨(384 - m0 G).toNat, 0, by simp, by omega, by omega, ⟨fun _ _ _ => rfl, fun _ _ => rfl⟩, ⟨h2, fun i a b => by simp only [ap] at b; omega⟩⟩, ?_⟩
  rintro n22 x19 M20 ⟨j, ex, j1, j2, f, hS⟩
  have hG20 := f.G hG hk
  have hr := ap_rng (many := G 5) (c := c2 G) (by omega) j
  have hmj := mu_le (a := G 7) (w := j) (v := 500) (by omega) (by omega) (by omega)
  rw [hG20.1 5 (by omega) (by omega), hG20.1 6 (by omega) (by omega), hS.1]
  refine ⟨(384 ≤ x19 ∨ G 5 ≤ (ap (G 5) (c2 G) j).1), fun hst => ?_, ⟨by omega, by omega⟩, fun c => Or.inl c, fun c => ⟨⟨by omega, by omega⟩, ⟨by omega, by omega⟩, fun c2' => Or.inr c2', fun c2' => ?_⟩⟩
  · refine kk M20 j f (by omega) hS (ap_end (by omega) ?_)
    rcases hst with h | h
    · refine Or.inr (fun i hi => ?_)
      have := mu_le (a := G 7) (w := j) (v := i) (by omega) (by omega) (by omega)
      unfold c2; rw [if_neg (by omega)]; omega
    · exact Or.inl h
  · have hx : 0 ≤ x19 / 12 ∧ x19 / 12 ≤ 31 := by omega
    have hx2 : 1 ≤ x19 % 12 + 1 ∧ x19 % 12 + 1 ≤ 12 := by omega
    have hD := mD_rng hx hx2
    have hLn := mL_rng (y := x19 / 12) hx2
    rw [pf_mS, pf_mL]
    refine ⟨by omega, pg_mS (by omega) hx2, ?_⟩
    intro x75 e75
    refine ⟨pg_mL (by omega) hx2, ?_⟩
    intro x79 e79
    have hw := wF_rng (d := x75) (w := x16) (by omega) (by omega)
    refine ⟨⟨⟨by omega, by omega⟩, fun _ => ⟨pg_wF (by omega) (by omega), by omega, trivial⟩, fun _ => trivial⟩, ?_⟩
    intro x86 a1 a2
    rw [pf_wF] at a1
    have hcM : cM G x19 = if x86 < x79 then x86 else -1 := by
      unfold cM
      rcases h6 with h6 | h6
      · rw [if_pos h6, a2 h6]
        by_cases q : ix G < mL (x19 / 12) (x19 % 12 + 1)
        · rw [if_pos q, if_pos (by omega)]; omega
        · rw [if_neg q, if_neg (by omega)]
      · rw [if_neg (by omega), a1 (by omega), e12, e16, e75, e79, e75]
    have hc2 : c2 G j = cM G x19 := by unfold c2; rw [if_pos (by omega), ex]
    have hge : x86 < x79 → G 1 ≤ x86 ∧ x86 ≤ 11687 := by
      intro hlt
      refine ⟨?_, by omega⟩
      by_cases q : j = 0
      · have ex0 : x19 = m0 G := by rw [ex, q]; simp
        have e75' : x75 = mD (yO (G 1)) (mO (yO (G 1)) (G 1)) := by rw [e75, ex0, hm0.2.2.1, hm0.2.2.2]
        have eix : ix G = G 1 - x75 := by unfold ix; rw [e75']
        rcases h6 with h6 | h6
        · rw [a2 h6]; omega
        · rw [a1 (by omega)]; unfold wF; omega
      · have hlate : mD (yO (G 1)) (mO (yO (G 1)) (G 1)) + mL (yO (G 1)) (mO (yO (G 1)) (G 1)) ≤ x75 := by
          have h1 : m0 G + 1 ≤ x19 := by omega
          rw [e75]
          by_cases q2 : x19 / 12 = yO (G 1)
          · rw [q2]
            rw [← mD_step (y := yO (G 1)) (m := mO (yO (G 1)) (G 1)) (by omega)]
            exact mD_mono (by omega) (by omega) (by omega)
          · have h3 : yD (yO (G 1) + 1) ≤ yD (x19 / 12) := yD_mono (by omega) (by omega)
            have h4 : yD (x19 / 12) ≤ mD (x19 / 12) (x19 % 12 + 1) := by rw [← mD_1]; exact mD_mono (by omega) (by omega) (by omega)
            have h5 : mD (yO (G 1)) (mO (yO (G 1)) (G 1)) + mL (yO (G 1)) (mO (yO (G 1)) (G 1)) ≤ yD (yO (G 1) + 1) := by
              rw [← mD_13 (by omega)]
              by_cases q3 : mO (yO (G 1)) (G 1) = 12
              · rw [q3]; exact Int.le_refl _
              · rw [← mD_step (by omega)]
                have := mD_mono (y := yO (G 1)) (i := mO (yO (G 1)) (G 1) + 1) (j := 12) (by omega) (by omega) (by omega)
                have := mL_rng (y := yO (G 1)) (m := 12) (by omega)
                omega
            omega
        have hin := mO_in ho1
        have : x75 ≤ x86 := by
          rcases h6 with h6 | h6
          · rw [a2 h6]; omega
          · rw [a1 (by omega)]; omega
        omega
    refine ⟨fun M' => FrL M M' L ∧ LSt M' L (G 5) (c2 G) (j + 1), ?_, ⟨by omega, by omega⟩, ⟨by omega, by omega⟩, fun c4 => ?_, fun c4 => ?_⟩
    · rintro M' ⟨k1, k2⟩
      intro x101 e101
      have em : G 7 * ((j + 1 : Nat) : Int) = G 7 * (j : Int) + G 7 := by rw [show ((j + 1 : Nat) : Int) = (j : Int) + 1 by omega, Int.mul_add, Int.mul_one]
      exact ⟨(384 - x101).toNat, by omega, j + 1, by omega, by omega, by omega, k1, k2⟩
    · refine ⟨f, ?_⟩
      have : c2 G j = -1 := by rw [hc2, hcM, if_neg (by omega)]
      have e : ap (G 5) (c2 G) (j + 1) = ap (G 5) (c2 G) j := by simp only [ap]; rw [if_neg (by omega)]
      unfold LSt; rw [e]; exact hS
    · have := hge c4
      exact sp_putDay hG20 ho hk (by exact ⟨by omega, by omega⟩) hS (by rw [hc2, hcM, if_pos c4, if_pos this]) (fun M' f1 f2 hS' => ⟨f.trans ⟨f1, f2⟩, hS'⟩)
