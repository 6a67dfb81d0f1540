/-! offsetAgain: year by year -/
theorem f5_congr {Z k k' : Int → Int} : ∀ n : Nat, (∀ i : Nat, i < n → k i = k' i) → f5 Z k n = f5 Z k' n ∧ tS Z k n = tS Z k' n ∧ tF Z k n = tF Z k' n
  | 0, _ => ⟨rfl, rfl, rfl⟩
  | n + 1, h => by
    obtain ⟨h1, h2, h3⟩ := f5_congr n (fun i hi => h i (by omega))
    have h4 := h n (by omega)
    simp only [f5, tS, tF]
    rw [h1, h2, h3, h4]
    exact ⟨rfl, rfl, rfl⟩
noncomputable def fdn (Z k : Int → Int) (n : Nat) (x : Int) : Int := tF Z k n (SP (f5 Z k n).2.2.1 (tS Z k n) x)
theorem LOkn {Z k : Int → Int} (ho : ZOk Z) {n : Nat} (hn : n ≤ 260) (hk : ∀ i : Int, 0 ≤ i → i < n → KOk Z (k i)) : LOk (f5 Z k n).2.2.1 (tS Z k n) (tF Z k n) := by
  obtain ⟨i1, i2, i3, i4, i5, i6, i7, i8, i9⟩ := f5_inv ho hk n (Int.le_refl _)
  exact ⟨by omega, i8, i6, i7⟩
theorem fdn_step {Z k : Int → Int} (ho : ZOk Z) {n : Nat} {x : Int} (hn : n + 1 ≤ 260) (hk : ∀ i : Int, 0 ≤ i → i < ((n + 1 : Nat) : Int) → KOk Z (k i)) : fdn Z k (n + 1) x = if oc Z (k n) (f5 Z k n) = 2 ∧ eS Z (k n) (f5 Z k n).1 (f5 Z k n).2.1 ≤ x then eB Z (k n) (f5 Z k n).1 + eV Z (k n) (f5 Z k n).2.1 else fdn Z k n x := by
  have hL := LOkn ho (n := n) (by omega) (fun i a b => hk i a (by omega))
  have hL' := LOkn ho (n := n + 1) hn hk
  obtain ⟨p0, p1, p2, p3⟩ := SP_is hL x
  have hm := hL.1
  rcases oc_cases Z (k n) (f5 Z k n) with ⟨o1, o2, o3⟩ | ⟨o1, o2, o3, o4⟩ | ⟨o1, o2, o3, o4⟩
  · rw [if_neg (by omega)]
    unfold fdn
    have e1 : tS Z k (n + 1) = tS Z k n := by simp only [tS]; rw [if_neg (by omega)]
    have e2 : tF Z k (n + 1) = tF Z k n := by simp only [tF]; rw [if_neg (by omega)]
    have e3 : (f5 Z k (n + 1)).2.2.1 = (f5 Z k n).2.2.1 := by show (nx Z (k n) (f5 Z k n)).2.2.1 = _; rw [o2]
    rw [e1, e2, e3]
  · rw [if_neg (by omega)]
    unfold fdn
    have e1 : tS Z k (n + 1) = tS Z k n := by simp only [tS]; rw [if_neg (by omega)]
    have e2 : tF Z k (n + 1) = tF Z k n := by simp only [tF]; rw [if_neg (by omega)]
    have e3 : (f5 Z k (n + 1)).2.2.1 = (f5 Z k n).2.2.1 := by show (nx Z (k n) (f5 Z k n)).2.2.1 = _; rw [o2]
    rw [e1, e2, e3]
  · have e1 : tS Z k (n + 1) = upr (tS Z k n) (f5 Z k n).2.2.1 (eS Z (k n) (f5 Z k n).1 (f5 Z k n).2.1) := by simp only [tS]; rw [if_pos o1]
    have e2 : tF Z k (n + 1) = upr (tF Z k n) ((f5 Z k n).2.2.1 + 1) (eB Z (k n) (f5 Z k n).1 + eV Z (k n) (f5 Z k n).2.1) := by simp only [tF]; rw [if_pos o1]
    have e3 : (f5 Z k (n + 1)).2.2.1 = (f5 Z k n).2.2.1 + 1 := by show (nx Z (k n) (f5 Z k n)).2.2.1 = _; rw [o2]
    by_cases c : eS Z (k n) (f5 Z k n).1 (f5 Z k n).2.1 ≤ x
    · rw [if_pos ⟨o1, c⟩]
      have eSP : SP (f5 Z k (n + 1)).2.2.1 (tS Z k (n + 1)) x = (f5 Z k n).2.2.1 + 1 := by
        refine SP_eq hL' (by omega) (Or.inr ?_) (Or.inl (by omega))
        rw [e1, show (f5 Z k n).2.2.1 + 1 - 1 = (f5 Z k n).2.2.1 by omega, upr_eq]; exact c
      unfold fdn
      rw [eSP, e2, upr_eq]
    · rw [if_neg (fun q => c q.2)]
      have eSP : SP (f5 Z k (n + 1)).2.2.1 (tS Z k (n + 1)) x = SP (f5 Z k n).2.2.1 (tS Z k n) x := by
        refine SP_eq hL' (by omega) ?_ (Or.inr ?_)
        · by_cases q : SP (f5 Z k n).2.2.1 (tS Z k n) x = 0
          · exact Or.inl q
          · right; rw [e1, upr_ne (by omega)]; exact p2 _ (by omega) (by omega)
        · rw [e1]
          by_cases q : SP (f5 Z k n).2.2.1 (tS Z k n) x = (f5 Z k n).2.2.1
          · rw [q, upr_eq]; omega
          · rw [upr_ne q]; exact p3 _ (Int.le_refl _) (by omega)
      unfold fdn
      rw [eSP, e2, upr_ne (by omega)]
/-! the events of a year -/
abbrev inY (Z : Int → Int) (c y : Int) : Prop := yD y ≤ Z (59 + 2 * c) ∧ Z (59 + 2 * c) < yD (y + 1)
abbrev inR (Z : Int → Int) (r y : Int) : Prop := (Z (3 + 7 * r) ≤ y ∧ y ≤ Z (4 + 7 * r)) ∧ 0 ≤ dR Z r y
def nCy (Z : Int → Int) (y : Int) : Nat → Nat
  | 0 => 0
  | n + 1 => nCy Z y n + (if inY Z n y then 1 else 0)
def cCy (Z : Int → Int) (y : Int) : Nat → Int → Nat
  | 0, _ => 0
  | n + 1, v => cCy Z y n v + (if inY Z n y ∧ kC Z n = v then 1 else 0)
def nRy (Z : Int → Int) (y : Int) : Nat → Nat
  | 0 => 0
  | n + 1 => nRy Z y n + (if inR Z n y then 1 else 0)
def cRy (Z : Int → Int) (y : Int) : Nat → Int → Nat
  | 0, _ => 0
  | n + 1, v => cRy Z y n v + (if inR Z n y ∧ kR Z n y = v then 1 else 0)
def sY (F : Int → Nat) : Nat → Nat
  | 0 => 0
  | n + 1 => sY F n + F n
theorem sY_add {F G H : Int → Nat} : ∀ n : Nat, (∀ y : Nat, y < n → H y = F y + G y) → sY H n = sY F n + sY G n
  | 0, _ => rfl
  | n + 1, h => by
    simp only [sY]
    rw [sY_add n (fun y hy => h y (by omega)), h n (by omega)]; omega
theorem sY_0 {F : Int → Nat} : ∀ n : Nat, (∀ y : Nat, y < n → F y = 0) → sY F n = 0
  | 0, _ => rfl
  | n + 1, h => by simp only [sY]; rw [sY_0 n (fun y hy => h y (by omega)), h n (by omega)]
theorem sY_one {F : Int → Nat} {a : Nat} {y0 : Nat} : ∀ n : Nat, y0 < n → F y0 = a → (∀ y : Nat, y < n → y ≠ y0 → F y = 0) → sY F n = a
  | 0, h, _, _ => by omega
  | n + 1, h, h1, h2 => by
    simp only [sY]
    by_cases c : y0 = n
    · rw [sY_0 n (fun y hy => h2 y (by omega) (by omega)), ← c, h1]; omega
    · rw [sY_one n (by omega) h1 (fun y hy q => h2 y (by omega) q), h2 n (by omega) (by omega)]; omega
theorem sY_ext {F G : Int → Nat} : ∀ n : Nat, (∀ y : Nat, y < n → F y = G y) → sY F n = sY G n
  | 0, _ => rfl
  | n + 1, h => by simp only [sY]; rw [sY_ext n (fun y hy => h y (by omega)), h n (by omega)]
theorem year_of {d : Int} (h : 0 ≤ d ∧ d ≤ 11687) : ∃ y0 : Nat, y0 < 32 ∧ (yD y0 ≤ d ∧ d < yD ((y0 : Int) + 1)) ∧ ∀ y : Nat, y < 32 → y ≠ y0 → ¬ (yD y ≤ d ∧ d < yD ((y : Int) + 1)) := by
  obtain ⟨a, b, c, e⟩ := yO_rng h
  refine ⟨(yO d).toNat, by omega, by rw [Int.toNat_of_nonneg a]; exact ⟨c, e⟩, fun y hy q z => ?_⟩
  rcases Int.lt_trichotomy (y : Int) (yO d) with q1 | q1 | q1
  · have := yD_mono (a := (y : Int) + 1) (b := yO d) (by omega) (by omega); omega
  · omega
  · have := yD_mono (a := yO d + 1) (b := y) (by omega) (by omega); omega
theorem sum_C {Z : Int → Int} (ho : ZOk Z) {v : Int} : ∀ n : Nat, (n : Int) ≤ Z 2 → sY (fun y => cCy Z y n v) 32 = cC Z n v ∧ sY (fun y => nCy Z y n) 32 = n
  | 0, _ => ⟨sY_0 32 (fun y _ => rfl), sY_0 32 (fun y _ => rfl)⟩
  | n + 1, hn => by
    obtain ⟨h1, h2⟩ := sum_C ho (v := v) n (by omega)
    have hd := ho.2.2.2.2 n (by omega) (by omega)
    obtain ⟨y0, g0, g1, g2⟩ := year_of (d := Z (59 + 2 * n)) ⟨by omega, by omega⟩
    constructor
    · rw [sY_add (F := fun y => cCy Z y n v) (G := fun y => if inY Z n y ∧ kC Z n = v then 1 else 0) 32 (fun y _ => rfl), h1]
      have : sY (fun y => if inY Z n y ∧ kC Z n = v then 1 else 0) 32 = if kC Z n = v then 1 else 0 := by
        refine sY_one (y0 := y0) 32 g0 ?_ (fun y hy q => if_neg (fun z => g2 y hy q z.1))
        by_cases c : kC Z n = v
        · rw [if_pos c]; exact if_pos ⟨g1, c⟩
        · rw [if_neg c]; exact if_neg (fun z => c z.2)
      rw [this]; rfl
    · rw [sY_add (F := fun y => nCy Z y n) (G := fun y => if inY Z n y then 1 else 0) 32 (fun y _ => rfl), h2]
      have : sY (fun y => if inY Z n y then 1 else 0) 32 = 1 := sY_one (y0 := y0) 32 g0 (if_pos g1) (fun y hy q => if_neg (fun z => g2 y hy q z))
      rw [this]
theorem sum_R1 {Z : Int → Int} (ho : ZOk Z) {v : Int} {r : Nat} (hr : (r : Int) < Z 1) : sY (fun y => if inR Z r y ∧ kR Z r y = v then 1 else 0) 32 = cY Z r (lY Z r) v ∧ sY (fun y => if inR Z r y then 1 else 0) 32 = nY Z r (lY Z r) := by
  have hR := ho.2.2.2.1 r (by omega) hr
  have hlo : ((Z (3 + 7 * r)).toNat : Int) = Z (3 + 7 * r) := by omega
  have key : ∀ j : Nat, j ≤ lY Z r → sY (fun y => if inR Z r y ∧ kR Z r y = v then 1 else 0) ((Z (3 + 7 * r)).toNat + j) = cY Z r j v ∧ sY (fun y => if inR Z r y then 1 else 0) ((Z (3 + 7 * r)).toNat + j) = nY Z r j := by
    intro j
    induction j with
    | zero =>
      intro _
      exact ⟨sY_0 _ (fun y hy => if_neg (fun z => by have := z.1.1.1; omega)), sY_0 _ (fun y hy => if_neg (fun z => by have := z.1.1; omega))⟩
    | succ j ih =>
      intro hj
      obtain ⟨a, b⟩ := ih (by omega)
      have e : (((Z (3 + 7 * r)).toNat + j : Nat) : Int) = Z (3 + 7 * r) + j := by omega
      have hin : Z (3 + 7 * r) ≤ Z (3 + 7 * r) + (j : Int) ∧ Z (3 + 7 * r) + (j : Int) ≤ Z (4 + 7 * r) := by unfold lY at hj; omega
      constructor
      · show sY _ ((Z (3 + 7 * r)).toNat + j) + (if inR Z r (((Z (3 + 7 * r)).toNat + j : Nat) : Int) ∧ kR Z r (((Z (3 + 7 * r)).toNat + j : Nat) : Int) = v then 1 else 0) = _
        rw [a, e]
        simp only [cY]
        by_cases c : 0 ≤ dR Z r (Z (3 + 7 * r) + j) ∧ kR Z r (Z (3 + 7 * r) + j) = v
        · rw [if_pos c, if_pos ⟨⟨hin, c.1⟩, c.2⟩]
        · rw [if_neg c, if_neg (fun z => c ⟨z.1.2, z.2⟩)]
      · show sY _ ((Z (3 + 7 * r)).toNat + j) + (if inR Z r (((Z (3 + 7 * r)).toNat + j : Nat) : Int) then 1 else 0) = _
        rw [b, e]
        simp only [nY]
        by_cases c : 0 ≤ dR Z r (Z (3 + 7 * r) + j)
        · rw [if_pos c, if_pos ⟨hin, c⟩]
        · rw [if_neg c, if_neg (fun z => c z.2)]
  have tail : ∀ (F : Int → Nat) (a d : Nat), (∀ y : Nat, a ≤ y → F y = 0) → sY F (a + d) = sY F a := by
    intro F a d hF
    induction d with
    | zero => rfl
    | succ d ih => show sY F (a + d) + F ((a + d : Nat) : Int) = _; rw [ih, hF (a + d) (by omega)]; rfl
  obtain ⟨a, b⟩ := key (lY Z r) (Nat.le_refl _)
  have hsum : (Z (3 + 7 * r)).toNat + lY Z r + (32 - ((Z (3 + 7 * r)).toNat + lY Z r)) = 32 := by unfold lY; omega
  have hz : ∀ y : Nat, (Z (3 + 7 * r)).toNat + lY Z r ≤ y → ¬ (Z (3 + 7 * r) ≤ (y : Int) ∧ (y : Int) ≤ Z (4 + 7 * r)) := fun y hy => by unfold lY at hy; omega
  constructor
  · rw [← a, ← tail _ _ (32 - ((Z (3 + 7 * r)).toNat + lY Z r)) (fun y hy => if_neg (fun z => hz y hy z.1.1)), hsum]
  · rw [← b, ← tail _ _ (32 - ((Z (3 + 7 * r)).toNat + lY Z r)) (fun y hy => if_neg (fun z => hz y hy z.1)), hsum]
theorem sum_R {Z : Int → Int} (ho : ZOk Z) {v : Int} : ∀ n : Nat, (n : Int) ≤ Z 1 → sY (fun y => cRy Z y n v) 32 = cR Z n v ∧ sY (fun y => nRy Z y n) 32 = nR Z n
  | 0, _ => ⟨sY_0 32 (fun y _ => rfl), sY_0 32 (fun y _ => rfl)⟩
  | n + 1, hn => by
    obtain ⟨h1, h2⟩ := sum_R ho (v := v) n (by omega)
    obtain ⟨g1, g2⟩ := sum_R1 ho (v := v) (r := n) (by omega)
    constructor
    · rw [sY_add (F := fun y => cRy Z y n v) (G := fun y => if inR Z n y ∧ kR Z n y = v then 1 else 0) 32 (fun y _ => rfl), h1, g1]; rfl
    · rw [sY_add (F := fun y => nRy Z y n) (G := fun y => if inR Z n y then 1 else 0) 32 (fun y _ => rfl), h2, g2]; rfl
def cYr (Z : Int → Int) (v y : Int) : Nat := cCy Z y (Z 2).toNat v + cRy Z y (Z 1).toNat v
def nYr (Z : Int → Int) (y : Int) : Nat := nCy Z y (Z 2).toNat + nRy Z y (Z 1).toNat
theorem sum_Y {Z : Int → Int} (ho : ZOk Z) : (∀ v, sY (cYr Z v) 32 = cE Z v) ∧ (sY (nYr Z) 32 : Int) = nE Z := by
  have h1 := ho.2.1
  have h2 := ho.2.2.1
  constructor
  · intro v
    rw [sY_add (F := fun y => cCy Z y (Z 2).toNat v) (G := fun y => cRy Z y (Z 1).toNat v) 32 (fun y _ => rfl), (sum_C ho (v := v) _ (by omega)).1, (sum_R ho (v := v) _ (by omega)).1]; rfl
  · rw [sY_add (F := fun y => nCy Z y (Z 2).toNat) (G := fun y => nRy Z y (Z 1).toNat) 32 (fun y _ => rfl), (sum_C ho (v := 0) _ (by omega)).2, (sum_R ho (v := 0) _ (by omega)).2]
    unfold nE; omega
theorem nCy_le {Z : Int → Int} {y : Int} : ∀ n : Nat, nCy Z y n ≤ n
  | 0 => Nat.le_refl _
  | n + 1 => by have := nCy_le (Z := Z) (y := y) n; simp only [nCy]; split <;> omega
theorem nRy_le {Z : Int → Int} {y : Int} : ∀ n : Nat, nRy Z y n ≤ n
  | 0 => Nat.le_refl _
  | n + 1 => by have := nRy_le (Z := Z) (y := y) n; simp only [nRy]; split <;> omega
/-- a key of the year y lies between its beginning and its end -/
theorem cYr_rng {Z : Int → Int} (ho : ZOk Z) {v : Int} {y : Nat} (hy : y < 32) (h : 0 < cYr Z v y) : KOk Z v ∧ 16 * (1440 * yD y) ≤ v ∧ v < 16 * (1440 * yD ((y : Int) + 1)) := by
  have h1 := ho.2.1
  have h2 := ho.2.2.1
  have hC : ∀ n : Nat, (n : Int) ≤ Z 2 → 0 < cCy Z y n v → KOk Z v ∧ 16 * (1440 * yD y) ≤ v ∧ v < 16 * (1440 * yD ((y : Int) + 1)) := by
    intro n
    induction n with
    | zero => intro _ q; simp [cCy] at q
    | succ n ih =>
      intro hn q
      simp only [cCy] at q
      by_cases c : inY Z n y ∧ kC Z n = v
      · have hk := kC_ok ho (c := n) (by omega) (by omega)
        rw [c.2] at hk
        refine ⟨hk, ?_⟩
        have e := c.2
        have i := c.1
        unfold kC at e; omega
      · rw [if_neg c] at q; exact ih (by omega) q
  have hR : ∀ n : Nat, (n : Int) ≤ Z 1 → 0 < cRy Z y n v → KOk Z v ∧ 16 * (1440 * yD y) ≤ v ∧ v < 16 * (1440 * yD ((y : Int) + 1)) := by
    intro n
    induction n with
    | zero => intro _ q; simp [cRy] at q
    | succ n ih =>
      intro hn q
      simp only [cRy] at q
      by_cases c : inR Z n y ∧ kR Z n y = v
      · have hk := kR_ok ho (r := n) (y := y) (by omega) (by omega) (by omega) c.1.2
        rw [c.2] at hk
        refine ⟨hk, ?_⟩
        have hRr := ho.2.2.2.1 n (by omega) (by omega)
        have hdb := dB_rng (y := y) (m := Z (5 + 7 * n)) (date := Z (6 + 7 * n)) (by omega) (by omega) hRr.2.2.2.2.2.1
        have hd : dR Z n y = dB y (Z (5 + 7 * n)) (Z (6 + 7 * n)) := rfl
        have hge : yD y ≤ mD y (Z (5 + 7 * n)) := by rw [← mD_1]; exact mD_mono (by omega) (by omega) (by omega)
        have hle : mD y (Z (5 + 7 * n)) + mL y (Z (5 + 7 * n)) ≤ yD ((y : Int) + 1) := by
          rw [← mD_13 (by omega)]
          by_cases q3 : Z (5 + 7 * n) = 12
          · rw [q3]; exact Int.le_refl _
          · rw [← mD_step (by omega)]
            have := mD_mono (y := y) (i := Z (5 + 7 * n) + 1) (j := 12) (by omega) (by omega) (by omega)
            have := mL_rng (y := y) (m := 12) (by omega)
            omega
        have e := c.2
        have i := c.1.2
        unfold kR at e; omega
      · rw [if_neg c] at q; exact ih (by omega) q
  unfold cYr at h
  by_cases c : 0 < cCy Z y (Z 2).toNat v
  · exact hC (Z 2).toNat (by omega) c
  · exact hR (Z 1).toNat (by omega) (by omega)
