/-! a zone's numbers, its events, its line of transitions: one picture for class and reference -/
def ZOk (Z : Int → Int) : Prop := (-720 ≤ Z 0 ∧ Z 0 ≤ 840) ∧ (0 ≤ Z 1 ∧ Z 1 ≤ 8) ∧ (0 ≤ Z 2 ∧ Z 2 ≤ 4) ∧
  (∀ r, 0 ≤ r → r < Z 1 → 0 ≤ Z (3 + 7 * r) ∧ Z (3 + 7 * r) ≤ Z (4 + 7 * r) ∧ Z (4 + 7 * r) ≤ 31 ∧ 1 ≤ Z (5 + 7 * r) ∧ Z (5 + 7 * r) ≤ 12 ∧ dtOk (Z (6 + 7 * r)) ∧ 0 ≤ Z (7 + 7 * r) ∧ Z (7 + 7 * r) ≤ 1439 ∧ 0 ≤ Z (8 + 7 * r) ∧ Z (8 + 7 * r) ≤ 2 ∧ 0 ≤ Z (9 + 7 * r) ∧ Z (9 + 7 * r) ≤ 120) ∧
  (∀ c, 0 ≤ c → c < Z 2 → 0 ≤ Z (59 + 2 * c) ∧ Z (59 + 2 * c) ≤ 11687 ∧ -720 ≤ Z (60 + 2 * c) ∧ Z (60 + 2 * c) ≤ 840)
def kC (Z : Int → Int) (c : Int) : Int := (1440 * Z (59 + 2 * c) + 0) * 16 + c
def dR (Z : Int → Int) (r y : Int) : Int := dB y (Z (5 + 7 * r)) (Z (6 + 7 * r))
def kR (Z : Int → Int) (r y : Int) : Int := (1440 * dR Z r y + Z (7 + 7 * r)) * 16 + (4 + r)
def cC (Z : Int → Int) : Nat → Int → Nat
  | 0, _ => 0
  | n + 1, v => cC Z n v + (if kC Z n = v then 1 else 0)
def nY (Z : Int → Int) (r : Int) : Nat → Nat
  | 0 => 0
  | n + 1 => nY Z r n + (if 0 ≤ dR Z r (Z (3 + 7 * r) + n) then 1 else 0)
def cY (Z : Int → Int) (r : Int) : Nat → Int → Nat
  | 0, _ => 0
  | n + 1, v => cY Z r n v + (if 0 ≤ dR Z r (Z (3 + 7 * r) + n) ∧ kR Z r (Z (3 + 7 * r) + n) = v then 1 else 0)
def lY (Z : Int → Int) (r : Int) : Nat := (Z (4 + 7 * r) + 1 - Z (3 + 7 * r)).toNat
def nR (Z : Int → Int) : Nat → Nat
  | 0 => 0
  | n + 1 => nR Z n + nY Z n (lY Z n)
def cR (Z : Int → Int) : Nat → Int → Nat
  | 0, _ => 0
  | n + 1, v => cR Z n v + cY Z n (lY Z n) v
/-- the events: how many, and how often a key is one of theirs -/
def nE (Z : Int → Int) : Int := Z 2 + (nR Z (Z 1).toNat : Int)
def cE (Z : Int → Int) (v : Int) : Nat := cC Z (Z 2).toNat v + cR Z (Z 1).toNat v
noncomputable def kE (Z : Int → Int) : Int → Int := Classical.epsilon (fun f : Int → Int => Srt f (nE Z) ∧ ∀ v, cnt f (nE Z).toNat v = cE Z v)
theorem kE_spec {Z f : Int → Int} (h1 : Srt f (nE Z)) (h2 : ∀ v, cnt f (nE Z).toNat v = cE Z v) : Srt (kE Z) (nE Z) ∧ ∀ v, cnt (kE Z) (nE Z).toNat v = cE Z v :=
  Classical.epsilon_spec (p := fun f : Int → Int => Srt f (nE Z) ∧ ∀ v, cnt f (nE Z).toNat v = cE Z v) ⟨f, h1, h2⟩
theorem kE_eq {Z f : Int → Int} (h1 : Srt f (nE Z)) (h2 : ∀ v, cnt f (nE Z).toNat v = cE Z v) {i : Int} (i0 : 0 ≤ i) (i1 : i < nE Z) : f i = kE Z i := by
  obtain ⟨h3, h4⟩ := kE_spec h1 h2
  exact h1.uniq h3 (fun v => by rw [h2, h4]) i0 i1
theorem nY_le {Z : Int → Int} {r : Int} : ∀ n : Nat, nY Z r n ≤ n
  | 0 => Nat.le_refl _
  | n + 1 => by
    have := nY_le (Z := Z) (r := r) n
    show nY Z r n + _ ≤ _
    split <;> omega
theorem nR_le {Z : Int → Int} (ho : ZOk Z) : ∀ n : Nat, (n : Int) ≤ Z 1 → nR Z n ≤ 32 * n
  | 0, _ => Nat.le_refl _
  | n + 1, h => by
    have h1 := nR_le ho n (by omega)
    have h2 := nY_le (Z := Z) (r := n) (lY Z n)
    have h3 := ho.2.2.2.1 n (by omega) (by omega)
    have : lY Z n ≤ 32 := by unfold lY; omega
    show nR Z n + _ ≤ _
    omega
theorem nE_rng {Z : Int → Int} (ho : ZOk Z) : 0 ≤ nE Z ∧ nE Z ≤ 260 := by
  have h1 := nR_le ho (Z 1).toNat (by have := ho.2.1; omega)
  have := ho.2.1; have := ho.2.2.1
  unfold nE; omega
def KOk (Z : Int → Int) (v : Int) : Prop := 0 ≤ v ∧ v / 16 ≤ 16830719 ∧ ((v % 16 < 4 ∧ v % 16 < Z 2) ∨ (4 ≤ v % 16 ∧ v % 16 - 4 < Z 1))
theorem dR_rng {Z : Int → Int} (ho : ZOk Z) {r y : Int} (h0 : 0 ≤ r) (h1 : r < Z 1) (hy : 0 ≤ y ∧ y ≤ 31) : -1 ≤ dR Z r y ∧ dR Z r y ≤ 11687 := by
  have h3 := ho.2.2.2.1 r h0 h1
  have h4 := dB_rng (y := y) (m := Z (5 + 7 * r)) (date := Z (6 + 7 * r)) hy (by omega) h3.2.2.2.2.2.1
  have h5 := mD_rng (y := y) (m := Z (5 + 7 * r)) hy (by omega)
  unfold dR; omega
theorem kC_ok {Z : Int → Int} (ho : ZOk Z) {c : Int} (h0 : 0 ≤ c) (h1 : c < Z 2) : KOk Z (kC Z c) := by
  have h2 := ho.2.2.2.2 c h0 h1
  have h3 := ho.2.2.1
  have e1 : kC Z c / 16 = 1440 * Z (59 + 2 * c) := by unfold kC; omega
  have e2 : kC Z c % 16 = c := by unfold kC; omega
  unfold KOk
  rw [e1, e2]
  refine ⟨by unfold kC; omega, by omega, Or.inl ⟨by omega, h1⟩⟩
theorem kR_ok {Z : Int → Int} (ho : ZOk Z) {r y : Int} (h0 : 0 ≤ r) (h1 : r < Z 1) (hy : 0 ≤ y ∧ y ≤ 31) (hd : 0 ≤ dR Z r y) : KOk Z (kR Z r y) := by
  have h2 := ho.2.2.2.1 r h0 h1
  have h3 := ho.2.1
  have h4 := dR_rng ho h0 h1 hy
  have e1 : kR Z r y / 16 = 1440 * dR Z r y + Z (7 + 7 * r) := by unfold kR; omega
  have e2 : kR Z r y % 16 = 4 + r := by unfold kR; omega
  unfold KOk
  rw [e1, e2]
  refine ⟨by unfold kR; omega, by omega, Or.inr ⟨by omega, by omega⟩⟩
theorem cC_pos {Z : Int → Int} (ho : ZOk Z) {v : Int} : ∀ n : Nat, (n : Int) ≤ Z 2 → 0 < cC Z n v → KOk Z v
  | 0, _, h => by simp [cC] at h
  | n + 1, hn, h => by
    change 0 < cC Z n v + (if kC Z n = v then 1 else 0) at h
    by_cases e : kC Z n = v
    · rw [← e]; exact kC_ok ho (by omega) (by omega)
    · rw [if_neg e] at h; exact cC_pos ho n (by omega) h
theorem cY_pos {Z : Int → Int} (ho : ZOk Z) {v r : Int} (h0 : 0 ≤ r) (h1 : r < Z 1) : ∀ n : Nat, n ≤ lY Z r → 0 < cY Z r n v → KOk Z v
  | 0, _, h => by simp [cY] at h
  | n + 1, hn, h => by
    change 0 < cY Z r n v + (if 0 ≤ dR Z r (Z (3 + 7 * r) + n) ∧ kR Z r (Z (3 + 7 * r) + n) = v then 1 else 0) at h
    by_cases e : 0 ≤ dR Z r (Z (3 + 7 * r) + n) ∧ kR Z r (Z (3 + 7 * r) + n) = v
    · rw [← e.2]
      have h3 := ho.2.2.2.1 r h0 h1
      unfold lY at hn
      exact kR_ok ho h0 h1 (by omega) e.1
    · rw [if_neg e] at h; exact cY_pos ho h0 h1 n (by omega) h
theorem cR_pos {Z : Int → Int} (ho : ZOk Z) {v : Int} : ∀ n : Nat, (n : Int) ≤ Z 1 → 0 < cR Z n v → KOk Z v
  | 0, _, h => by simp [cR] at h
  | n + 1, hn, h => by
    change 0 < cR Z n v + cY Z n (lY Z n) v at h
    by_cases e : 0 < cY Z n (lY Z n) v
    · exact cY_pos ho (r := n) (by omega) (by omega) _ (Nat.le_refl _) e
    · exact cR_pos ho n (by omega) (by omega)
theorem cE_ok {Z : Int → Int} (ho : ZOk Z) {v : Int} (h : 0 < cE Z v) : KOk Z v := by
  have := ho.2.1; have := ho.2.2.1
  unfold cE at h
  by_cases e : 0 < cC Z (Z 2).toNat v
  · exact cC_pos ho _ (by omega) e
  · exact cR_pos ho _ (by omega) (show 0 < cR Z (Z 1).toNat v by omega)
/-- the keys of a row that counts as the events do -/
theorem key_ok {Z f : Int → Int} (ho : ZOk Z) (h2 : ∀ v, cnt f (nE Z).toNat v = cE Z v) {i : Int} (i0 : 0 ≤ i) (i1 : i < nE Z) : KOk Z (f i) := by
  apply cE_ok ho
  rw [← h2]
  exact cnt_pos.mpr ⟨i.toNat, by omega, by rw [Int.toNat_of_nonneg i0]⟩
/-! events taken one behind another -/
abbrev T5 : Type := Int × Int × Int × Int × Int
def eC (Z : Int → Int) (key : Int) : Int := if key % 16 < 4 then 0 else Z (8 + 7 * (key % 16 - 4))
def eS (Z : Int → Int) (key b v : Int) : Int := key / 16 - (if eC Z key = 2 then 0 else b) - (if eC Z key = 0 then v else 0)
def eB (Z : Int → Int) (key b : Int) : Int := if key % 16 < 4 then Z (60 + 2 * (key % 16)) else b
def eV (Z : Int → Int) (key v : Int) : Int := if key % 16 < 4 then v else Z (9 + 7 * (key % 16 - 4))
def idO (s : Int) : Int := if s < 4 then 100 + s else s - 4
def oc (Z : Int → Int) (key : Int) (s : T5) : Int := if 0 < s.2.2.1 ∧ eS Z key s.1 s.2.1 ≤ s.2.2.2.2 then 0 else if eB Z key s.1 + eV Z key s.2.1 = s.1 + s.2.1 then 1 else 2
def nx (Z : Int → Int) (key : Int) (s : T5) : T5 := if oc Z key s = 0 then (s.1, s.2.1, s.2.2.1, s.2.2.2.1 + 1, s.2.2.2.2) else if oc Z key s = 1 then (eB Z key s.1, eV Z key s.2.1, s.2.2.1, s.2.2.2.1, s.2.2.2.2) else (eB Z key s.1, eV Z key s.2.1, s.2.2.1 + 1, s.2.2.2.1, eS Z key s.1 s.2.1)
def f5 (Z k : Int → Int) : Nat → T5
  | 0 => (Z 0, 0, 0, 0, 0)
  | n + 1 => nx Z (k n) (f5 Z k n)
def tS (Z k : Int → Int) : Nat → Int → Int
  | 0 => fun _ => 0
  | n + 1 => if oc Z (k n) (f5 Z k n) = 2 then upr (tS Z k n) (f5 Z k n).2.2.1 (eS Z (k n) (f5 Z k n).1 (f5 Z k n).2.1) else tS Z k n
def tV (Z k : Int → Int) : Nat → Int → Int
  | 0 => fun _ => 0
  | n + 1 => if oc Z (k n) (f5 Z k n) = 2 then upr (tV Z k n) (f5 Z k n).2.2.1 (eV Z (k n) (f5 Z k n).2.1) else tV Z k n
def tI (Z k : Int → Int) : Nat → Int → Int
  | 0 => fun _ => 0
  | n + 1 => if oc Z (k n) (f5 Z k n) = 2 then upr (tI Z k n) (f5 Z k n).2.2.1 (idO (k n % 16)) else tI Z k n
def tF (Z k : Int → Int) : Nat → Int → Int
  | 0 => fun _ => Z 0
  | n + 1 => if oc Z (k n) (f5 Z k n) = 2 then upr (tF Z k n) ((f5 Z k n).2.2.1 + 1) (eB Z (k n) (f5 Z k n).1 + eV Z (k n) (f5 Z k n).2.1) else tF Z k n
def vT (Z k : Int → Int) : Nat → Int → Int
  | 0 => fun _ => 0
  | n + 1 => if oc Z (k n) (f5 Z k n) = 0 then upr (vT Z k n) (f5 Z k n).2.2.2.1 (k n / 16) else vT Z k n
def vS (Z k : Int → Int) : Nat → Int → Int
  | 0 => fun _ => 0
  | n + 1 => if oc Z (k n) (f5 Z k n) = 0 then upr (vS Z k n) (f5 Z k n).2.2.2.1 (eS Z (k n) (f5 Z k n).1 (f5 Z k n).2.1) else vS Z k n
def vI (Z k : Int → Int) : Nat → Int → Int
  | 0 => fun _ => 0
  | n + 1 => if oc Z (k n) (f5 Z k n) = 0 then upr (vI Z k n) (f5 Z k n).2.2.2.1 (idO (k n % 16)) else vI Z k n
theorem oc_cases (Z : Int → Int) (key : Int) (s : T5) : (oc Z key s = 0 ∧ nx Z key s = (s.1, s.2.1, s.2.2.1, s.2.2.2.1 + 1, s.2.2.2.2) ∧ (0 < s.2.2.1 ∧ eS Z key s.1 s.2.1 ≤ s.2.2.2.2)) ∨
    (oc Z key s = 1 ∧ nx Z key s = (eB Z key s.1, eV Z key s.2.1, s.2.2.1, s.2.2.2.1, s.2.2.2.2) ∧ ¬ (0 < s.2.2.1 ∧ eS Z key s.1 s.2.1 ≤ s.2.2.2.2) ∧ eB Z key s.1 + eV Z key s.2.1 = s.1 + s.2.1) ∨
    (oc Z key s = 2 ∧ nx Z key s = (eB Z key s.1, eV Z key s.2.1, s.2.2.1 + 1, s.2.2.2.1, eS Z key s.1 s.2.1) ∧ ¬ (0 < s.2.2.1 ∧ eS Z key s.1 s.2.1 ≤ s.2.2.2.2) ∧ eB Z key s.1 + eV Z key s.2.1 ≠ s.1 + s.2.1) := by
  by_cases c1 : 0 < s.2.2.1 ∧ eS Z key s.1 s.2.1 ≤ s.2.2.2.2
  · have e : oc Z key s = 0 := by unfold oc; rw [if_pos c1]
    left; exact ⟨e, by unfold nx; rw [if_pos e], c1⟩
  · by_cases c2 : eB Z key s.1 + eV Z key s.2.1 = s.1 + s.2.1
    · have e : oc Z key s = 1 := by unfold oc; rw [if_neg c1, if_pos c2]
      right; left; exact ⟨e, by unfold nx; rw [if_neg (by omega), if_pos e], c1, c2⟩
    · have e : oc Z key s = 2 := by unfold oc; rw [if_neg c1, if_neg c2]
      right; right; exact ⟨e, by unfold nx; rw [if_neg (by omega), if_neg (by omega)], c1, c2⟩
theorem upr_ext {f g : Int → Int} {m v : Int} (h : ∀ j, 0 ≤ j → j < m → f j = g j) : ∀ j, 0 ≤ j → j < m + 1 → upr f m v j = upr g m v j := by
  intro j h0 h1
  unfold upr
  by_cases e : j = m
  · rw [if_pos e, if_pos e]
  · rw [if_neg e, if_neg e]; exact h j h0 (by omega)
theorem e_rng {Z : Int → Int} (ho : ZOk Z) {key : Int} (hk : KOk Z key) {b v : Int} (hb : -720 ≤ b ∧ b ≤ 840) (hv : 0 ≤ v ∧ v ≤ 120) : (-960 ≤ eS Z key b v ∧ eS Z key b v ≤ 16831439) ∧ (-720 ≤ eB Z key b ∧ eB Z key b ≤ 840) ∧ (0 ≤ eV Z key v ∧ eV Z key v ≤ 120) ∧ (0 ≤ eC Z key ∧ eC Z key ≤ 2) ∧ 0 ≤ key / 16 ∧ key / 16 ≤ 16830719 := by
  obtain ⟨k0, k1, k2⟩ := hk
  have h1 := ho.2.2.2.2 (key % 16)
  have h2 := ho.2.2.2.1 (key % 16 - 4)
  have hc : 0 ≤ eC Z key ∧ eC Z key ≤ 2 := by unfold eC; split <;> omega
  refine ⟨?_, ?_, ?_, hc, by omega, k1⟩
  · unfold eS; split <;> split <;> omega
  · unfold eB; split <;> omega
  · unfold eV; split <;> omega
/-- what holds of the line while it grows -/
theorem f5_inv {Z k : Int → Int} (ho : ZOk Z) {N : Int} (hk : ∀ i, 0 ≤ i → i < N → KOk Z (k i)) : ∀ n : Nat, (n : Int) ≤ N →
    (-720 ≤ (f5 Z k n).1 ∧ (f5 Z k n).1 ≤ 840) ∧ (0 ≤ (f5 Z k n).2.1 ∧ (f5 Z k n).2.1 ≤ 120) ∧ (0 ≤ (f5 Z k n).2.2.1 ∧ 0 ≤ (f5 Z k n).2.2.2.1 ∧ (f5 Z k n).2.2.1 + (f5 Z k n).2.2.2.1 ≤ n) ∧
    (0 < (f5 Z k n).2.2.1 → (f5 Z k n).2.2.2.2 = tS Z k n ((f5 Z k n).2.2.1 - 1)) ∧
    tF Z k n (f5 Z k n).2.2.1 = (f5 Z k n).1 + (f5 Z k n).2.1 ∧
    (∀ j, 0 ≤ j → j < (f5 Z k n).2.2.1 → -960 ≤ tS Z k n j ∧ tS Z k n j ≤ 16831439) ∧
    (∀ j, 0 ≤ j → j ≤ (f5 Z k n).2.2.1 → -720 ≤ tF Z k n j ∧ tF Z k n j ≤ 960) ∧
    (∀ i j, 0 ≤ i → i < j → j < (f5 Z k n).2.2.1 → tS Z k n i < tS Z k n j) ∧
    tF Z k n 0 = Z 0
  | 0, _ => by
    have := ho.1
    simp only [f5, tF, tS]
    refine ⟨by omega, by omega, by omega, by omega, by omega, fun j a b => by omega, fun j a b => by omega, fun i j a b c => by omega, trivial⟩
  | n + 1, hn => by
    obtain ⟨i1, i2, i3, i4, i5, i6, i7, i8, i9⟩ := f5_inv ho hk n (by omega)
    have hK := hk n (by omega) (by omega)
    obtain ⟨e1, e2, e3, e4, e5, e6⟩ := e_rng ho hK i1 i2
    have es : f5 Z k (n + 1) = nx Z (k n) (f5 Z k n) := rfl
    rcases oc_cases Z (k n) (f5 Z k n) with ⟨c, c1, c2⟩ | ⟨c, c1, c2, c3⟩ | ⟨c, c1, c2, c3⟩
    · have t1 : tS Z k (n + 1) = tS Z k n := by simp only [tS]; rw [if_neg (by omega)]
      have t2 : tF Z k (n + 1) = tF Z k n := by simp only [tF]; rw [if_neg (by omega)]
      rw [t1, t2, es, c1]
      exact ⟨i1, i2, ⟨i3.1, by simp only []; omega, by simp only []; omega⟩, i4, i5, i6, i7, i8, i9⟩
    · have t1 : tS Z k (n + 1) = tS Z k n := by simp only [tS]; rw [if_neg (by omega)]
      have t2 : tF Z k (n + 1) = tF Z k n := by simp only [tF]; rw [if_neg (by omega)]
      rw [t1, t2, es, c1]
      exact ⟨e2, e3, ⟨i3.1, by simp only []; omega, by simp only []; omega⟩, i4, by simp only []; omega, i6, i7, i8, i9⟩
    · have t1 : tS Z k (n + 1) = upr (tS Z k n) (f5 Z k n).2.2.1 (eS Z (k n) (f5 Z k n).1 (f5 Z k n).2.1) := by simp only [tS]; rw [if_pos c]
      have t2 : tF Z k (n + 1) = upr (tF Z k n) ((f5 Z k n).2.2.1 + 1) (eB Z (k n) (f5 Z k n).1 + eV Z (k n) (f5 Z k n).2.1) := by simp only [tF]; rw [if_pos c]
      rw [t1, t2, es, c1]
      simp only []
      refine ⟨e2, e3, by omega, fun _ => ?_, ?_, fun j a b => ?_, fun j a b => ?_, fun i j a b d => ?_, ?_⟩
      · rw [show (f5 Z k n).2.2.1 + 1 - 1 = (f5 Z k n).2.2.1 by omega, upr_eq]
      · rw [upr_eq]
      · unfold upr; split
        · exact e1
        · exact i6 j a (by omega)
      · unfold upr; split
        · omega
        · exact i7 j a (by omega)
      · unfold upr
        rw [if_neg (by omega)]
        by_cases q : j = (f5 Z k n).2.2.1
        · rw [if_pos q]
          have h4 := i4 (by omega)
          have : tS Z k n i ≤ tS Z k n ((f5 Z k n).2.2.1 - 1) := by
            by_cases q2 : i = (f5 Z k n).2.2.1 - 1
            · rw [q2]; exact Int.le_refl _
            · exact Int.le_of_lt (i8 i _ a (by omega) (by omega))
          omega
        · rw [if_neg q]; exact i8 i j a b (by omega)
      · rw [upr_ne (by omega)]; exact i9
