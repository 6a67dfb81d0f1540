/-! a line of transitions (m of them, beginning at s, with offsets f between them): what holds of local times -/
def LOk (m : Int) (s f : Int → Int) : Prop := (0 ≤ m ∧ m ≤ 260) ∧ (∀ i j, 0 ≤ i → i < j → j < m → s i < s j) ∧ (∀ j, 0 ≤ j → j < m → -960 ≤ s j ∧ s j ≤ 16831439) ∧ (∀ j, 0 ≤ j → j ≤ m → -720 ≤ f j ∧ f j ≤ 960)
noncomputable def lm (Z : Int → Int) : Int := (f5 Z (kE Z) (nE Z).toNat).2.2.1
noncomputable def lv (Z : Int → Int) : Int := (f5 Z (kE Z) (nE Z).toNat).2.2.2.1
noncomputable def lS (Z : Int → Int) : Int → Int := tS Z (kE Z) (nE Z).toNat
noncomputable def lF (Z : Int → Int) : Int → Int := tF Z (kE Z) (nE Z).toNat
theorem LOk.of {Z : Int → Int} (ho : ZOk Z) (hK : LK Z) : LOk (lm Z) (lS Z) (lF Z) ∧ lF Z 0 = Z 0 := by
  have hn := nE_rng ho
  obtain ⟨i1, i2, i3, i4, i5, i6, i7, i8, i9⟩ := f5_inv ho hK (nE Z).toNat (by omega)
  exact ⟨⟨by unfold lm; omega, i8, i6, i7⟩, i9⟩
def spn (s : Int → Int) (x : Int) : Nat → Int
  | 0 => 0
  | n + 1 => if s n ≤ x then spn s x n + 1 else spn s x n
def SP (m : Int) (s : Int → Int) (x : Int) : Int := spn s x m.toNat
def isSp (m : Int) (s : Int → Int) (x p : Int) : Prop := 0 ≤ p ∧ p ≤ m ∧ (∀ j, 0 ≤ j → j < p → s j ≤ x) ∧ (∀ j, p ≤ j → j < m → x < s j)
theorem isSp.uniq {m : Int} {s : Int → Int} {x p q : Int} (hp : isSp m s x p) (hq : isSp m s x q) : p = q := by
  obtain ⟨p0, p1, p2, p3⟩ := hp
  obtain ⟨q0, q1, q2, q3⟩ := hq
  rcases Int.lt_trichotomy p q with c | c | c
  · have := q2 p p0 c; have := p3 p (Int.le_refl _) (by omega); omega
  · exact c
  · have := p2 q q0 c; have := q3 q (Int.le_refl _) (by omega); omega
theorem SP_is {m : Int} {s f : Int → Int} (h : LOk m s f) (x : Int) : isSp m s x (SP m s x) := by
  have key : ∀ n : Nat, (n : Int) ≤ m → 0 ≤ spn s x n ∧ spn s x n ≤ n ∧ (∀ j, 0 ≤ j → j < spn s x n → s j ≤ x) ∧ (∀ j, spn s x n ≤ j → j < n → x < s j) := by
    intro n
    induction n with
    | zero => intro _; simp only [spn]; exact ⟨by omega, by omega, fun j a b => by omega, fun j a b => by omega⟩
    | succ n ih =>
      intro hn
      obtain ⟨a1, a2, a3, a4⟩ := ih (by omega)
      simp only [spn]
      by_cases c : s n ≤ x
      · rw [if_pos c]
        have e : spn s x n = n := by
          by_cases q : spn s x n = n
          · exact q
          · have h1 := a4 (spn s x n) (Int.le_refl _) (by omega)
            have h2 := h.2.1 (spn s x n) n a1 (by omega) (by omega)
            omega
        refine ⟨by omega, by omega, fun j b1 b2 => ?_, fun j b1 b2 => by omega⟩
        by_cases q : j = n
        · rw [q]; exact c
        · exact a3 j b1 (by omega)
      · rw [if_neg c]
        refine ⟨a1, by omega, a3, fun j b1 b2 => ?_⟩
        by_cases q : j = n
        · rw [q]; omega
        · exact a4 j b1 (by omega)
  have hm := h.1
  obtain ⟨a1, a2, a3, a4⟩ := key m.toNat (by omega)
  exact ⟨a1, by unfold SP; omega, a3, fun j b1 b2 => a4 j b1 (by omega)⟩
theorem SP_eq {m : Int} {s f : Int → Int} (h : LOk m s f) {x p : Int} (h0 : 0 ≤ p ∧ p ≤ m) (h1 : p = 0 ∨ s (p - 1) ≤ x) (h2 : p = m ∨ x < s p) : SP m s x = p := by
  refine (SP_is h x).uniq ⟨h0.1, h0.2, fun j a b => ?_, fun j a b => ?_⟩
  · rcases h1 with h1 | h1
    · omega
    · by_cases q : j = p - 1
      · rw [q]; exact h1
      · have := h.2.1 j (p - 1) a (by omega) (by omega); omega
  · rcases h2 with h2 | h2
    · omega
    · by_cases q : j = p
      · rw [q]; exact h2
      · have := h.2.1 p j h0.1 (by omega) b; omega
/-- the offset k is in force at the instant that it gives for the local time l -/
abbrev Hh (m : Int) (s f : Int → Int) (l k : Int) : Prop := (k = 0 ∨ s (k - 1) ≤ l - f k) ∧ (k = m ∨ l - f k < s k)
def fc (m : Int) (s f : Int → Int) (l : Int) : Nat → Int
  | 0 => 0
  | n + 1 => if Hh m s f l n then fc m s f l n + 1 else fc m s f l n
def ff (m : Int) (s f : Int → Int) (l : Int) : Nat → Int
  | 0 => -1000000000
  | n + 1 => if Hh m s f l n ∧ fc m s f l n = 0 then l - f n else ff m s f l n
def fl' (m : Int) (s f : Int → Int) (l : Int) : Nat → Int
  | 0 => -1000000000
  | n + 1 => if Hh m s f l n then l - f n else fl' m s f l n
theorem fc_nn {m : Int} {s f : Int → Int} {l : Int} : ∀ n : Nat, 0 ≤ fc m s f l n ∧ fc m s f l n ≤ n
  | 0 => by simp only [fc]; omega
  | n + 1 => by
    have := fc_nn (m := m) (s := s) (f := f) (l := l) n
    simp only [fc]; split <;> omega
theorem fc_skip {m : Int} {s f : Int → Int} {l : Int} {a : Nat} : ∀ d : Nat, (∀ j : Nat, a ≤ j → j < a + d → ¬ Hh m s f l j) → fc m s f l (a + d) = fc m s f l a ∧ ff m s f l (a + d) = ff m s f l a ∧ fl' m s f l (a + d) = fl' m s f l a
  | 0, _ => ⟨rfl, rfl, rfl⟩
  | d + 1, h => by
    obtain ⟨h1, h2, h3⟩ := fc_skip (a := a) d (fun j a b => h j a (by omega))
    have h4 := h (a + d) (by omega) (by omega)
    have e1 : fc m s f l (a + (d + 1)) = if Hh m s f l ((a + d : Nat) : Int) then fc m s f l (a + d) + 1 else fc m s f l (a + d) := rfl
    have e2 : ff m s f l (a + (d + 1)) = if Hh m s f l ((a + d : Nat) : Int) ∧ fc m s f l (a + d) = 0 then l - f ((a + d : Nat) : Int) else ff m s f l (a + d) := rfl
    have e3 : fl' m s f l (a + (d + 1)) = if Hh m s f l ((a + d : Nat) : Int) then l - f ((a + d : Nat) : Int) else fl' m s f l (a + d) := rfl
    rw [e1, e2, e3, if_neg h4, if_neg (fun q => h4 q.1), if_neg h4]
    exact ⟨h1, h2, h3⟩
abbrev Gp (s f : Int → Int) (l k : Int) : Prop := s k + f k ≤ l ∧ l < s k + f (k + 1)
def gp (s f : Int → Int) (l : Int) : Nat → Int
  | 0 => -1
  | n + 1 => if 0 ≤ gp s f l n then gp s f l n else if Gp s f l n then n else -1
theorem gp_sp {s f : Int → Int} {l : Int} : ∀ n : Nat, (gp s f l n = -1 ∧ ∀ j : Nat, j < n → ¬ Gp s f l j) ∨ (∃ k : Nat, gp s f l n = k ∧ k < n ∧ Gp s f l k ∧ ∀ j : Nat, j < k → ¬ Gp s f l j)
  | 0 => Or.inl ⟨rfl, fun j h => by omega⟩
  | n + 1 => by
    simp only [gp]
    rcases gp_sp (s := s) (f := f) (l := l) n with ⟨h1, h2⟩ | ⟨k, h1, h2, h3, h4⟩
    · rw [h1, if_neg (by omega)]
      by_cases c : Gp s f l n
      · rw [if_pos c]; exact Or.inr ⟨n, rfl, by omega, c, h2⟩
      · rw [if_neg c]
        refine Or.inl ⟨rfl, fun j hj => ?_⟩
        by_cases q : j = n
        · rw [q]; exact c
        · exact h2 j (by omega)
    · rw [h1, if_pos (by omega)]
      exact Or.inr ⟨k, rfl, by omega, h3, h4⟩
/-- no offset holds: then a gap -/
theorem gap_ex {m : Int} {s f : Int → Int} {l : Int} (h : LOk m s f) (h0 : fc m s f l (m.toNat + 1) = 0) : ∃ k : Nat, gp s f l m.toNat = k ∧ (k : Int) < m ∧ Gp s f l k ∧ ∀ j : Nat, j < k → ¬ Gp s f l j := by
  have hm := h.1
  have hno : ∀ n : Nat, fc m s f l n = 0 → ∀ j : Nat, j < n → ¬ Hh m s f l j := by
    intro n
    induction n with
    | zero => intro _ j hj; omega
    | succ n ih =>
      intro e j hj
      have hn := fc_nn (m := m) (s := s) (f := f) (l := l) n
      simp only [fc] at e
      by_cases c : Hh m s f l n
      · rw [if_pos c] at e; omega
      · rw [if_neg c] at e
        by_cases q : j = n
        · rw [q]; exact c
        · exact ih e j (by omega)
  have hN := hno _ h0
  rcases gp_sp (s := s) (f := f) (l := l) m.toNat with ⟨h1, h2⟩ | ⟨k, h1, h2, h3, h4⟩
  · exfalso
    have key : ∀ n : Nat, (n : Int) ≤ m → (n : Int) = 0 ∨ s ((n : Int) - 1) ≤ l - f n := by
      intro n
      induction n with
      | zero => intro _; exact Or.inl rfl
      | succ n ih =>
        intro hn
        right
        have a := ih (by omega)
        have b := hN n (by omega)
        have c := h2 n (by omega)
        rw [show ((n + 1 : Nat) : Int) - 1 = n by omega, show ((n + 1 : Nat) : Int) = (n : Int) + 1 by omega]
        unfold Hh at b
        unfold Gp at c
        omega
    have a := key m.toNat (by omega)
    have b := hN m.toNat (by omega)
    unfold Hh at b
    omega
  · exact ⟨k, h1, by omega, h3, h4⟩
/-- more than one offset holds -/
theorem ff_sp {m : Int} {s f : Int → Int} {l : Int} : ∀ n : Nat, 0 < fc m s f l n → ∃ p q : Nat, p ≤ q ∧ q < n ∧ Hh m s f l p ∧ Hh m s f l q ∧ ff m s f l n = l - f p ∧ fl' m s f l n = l - f q ∧ (1 < fc m s f l n → p < q) ∧ (fc m s f l n = 1 → p = q) ∧ (∀ j : Nat, j < p → ¬ Hh m s f l j)
  | 0, h => by simp [fc] at h
  | n + 1, h => by
    have hn := fc_nn (m := m) (s := s) (f := f) (l := l) n
    simp only [fc, ff, fl'] at h ⊢
    by_cases c : Hh m s f l n
    · simp only [if_pos c] at h ⊢
      by_cases c2 : fc m s f l n = 0
      · rw [if_pos ⟨c, c2⟩]
        refine ⟨n, n, by omega, by omega, c, c, rfl, rfl, by omega, by omega, ?_⟩
        have hno : ∀ n : Nat, fc m s f l n = 0 → ∀ j : Nat, j < n → ¬ Hh m s f l j := by
          intro n
          induction n with
          | zero => intro _ j hj; omega
          | succ n ih =>
            intro e j hj
            have hn := fc_nn (m := m) (s := s) (f := f) (l := l) n
            simp only [fc] at e
            by_cases c : Hh m s f l n
            · rw [if_pos c] at e; omega
            · rw [if_neg c] at e
              by_cases q : j = n
              · rw [q]; exact c
              · exact ih e j (by omega)
        exact hno n c2
      · rw [if_neg (fun q => c2 q.2)]
        obtain ⟨p, q, h1, h2, h3, h4, h5, h6, h7, h8, h9⟩ := ff_sp (m := m) (s := s) (f := f) (l := l) n (by omega)
        exact ⟨p, n, by omega, by omega, h3, c, h5, rfl, by omega, by omega, h9⟩
    · simp only [if_neg c] at h ⊢
      rw [if_neg (fun q => c q.1)]
      obtain ⟨p, q, h1, h2, h3, h4, h5, h6, h7, h8, h9⟩ := ff_sp (m := m) (s := s) (f := f) (l := l) n h
      exact ⟨p, q, h1, by omega, h3, h4, h5, h6, h7, h8, h9⟩
/-! counts, causes, instants of a local time -/
def cN (m : Int) (s f : Int → Int) (l : Int) : Int := fc m s f l (m.toNat + 1)
def cF (m : Int) (s f : Int → Int) (l : Int) : Int := ff m s f l (m.toNat + 1)
def cL (m : Int) (s f : Int → Int) (l : Int) : Int := fl' m s f l (m.toNat + 1)
def cG (m : Int) (s f : Int → Int) (l : Int) : Int := gp s f l m.toNat
def cS (m : Int) (s f : Int → Int) (l : Int) : Int := if cN m s f l = 0 then cG m s f l else if cN m s f l = 1 then -1 else SP m s (cF m s f l)
def iO (m : Int) (s f : Int → Int) (l mode : Int) : Int :=
  if cN m s f l = 1 then cF m s f l else if mode = 3 then -1000000000 else if 1 < cN m s f l then (if mode = 1 then cL m s f l else cF m s f l) else if mode = 2 then s (cG m s f l) else l - f (cG m s f l + mode)
theorem cN_rng {m : Int} {s f : Int → Int} {l : Int} (h : LOk m s f) : 0 ≤ cN m s f l ∧ cN m s f l ≤ 261 := by
  have := fc_nn (m := m) (s := s) (f := f) (l := l) (m.toNat + 1)
  have := h.1
  unfold cN; omega
theorem cF_rng {m : Int} {s f : Int → Int} {l : Int} (h : LOk m s f) (hl : 0 ≤ l ∧ l ≤ 16832160) (h0 : 0 < cN m s f l) : (-960 ≤ cF m s f l ∧ cF m s f l ≤ 16833000) ∧ (-960 ≤ cL m s f l ∧ cL m s f l ≤ 16833000) := by
  obtain ⟨p, q, h1, h2, h3, h4, h5, h6, h7, h8, h9⟩ := ff_sp _ h0
  have hm := h.1
  have a := h.2.2.2 p (by omega) (by omega)
  have b := h.2.2.2 q (by omega) (by omega)
  unfold cF cL; rw [h5, h6]; omega
theorem iO_rng {m : Int} {s f : Int → Int} {l mode : Int} (h : LOk m s f) (hl : 0 ≤ l ∧ l ≤ 16832160) (hmo : 0 ≤ mode ∧ mode ≤ 3) : (iO m s f l mode = -1000000000 ∧ mode = 3 ∧ cN m s f l ≠ 1) ∨ (-960 ≤ iO m s f l mode ∧ iO m s f l mode ≤ 16833000 ∧ ¬ (mode = 3 ∧ cN m s f l ≠ 1)) := by
  have hc := cN_rng (l := l) h
  unfold iO
  by_cases c1 : cN m s f l = 1
  · rw [if_pos c1]; have := cF_rng h hl (by omega); right; omega
  · rw [if_neg c1]
    by_cases c2 : mode = 3
    · rw [if_pos c2]; left; omega
    · rw [if_neg c2]
      by_cases c3 : 1 < cN m s f l
      · rw [if_pos c3]; have := cF_rng h hl (by omega); right; split <;> omega
      · rw [if_neg c3]
        obtain ⟨k, k1, k2, k3, k4⟩ := gap_ex (l := l) h (show fc m s f l (m.toNat + 1) = 0 by unfold cN at *; omega)
        have e : cG m s f l = k := k1
        rw [e]
        right
        have a := h.2.2.1 k (by omega) k2
        have b := h.2.2.2 (k + mode)
        split
        · omega
        · have := b (by omega) (by omega); omega
