/-! sums over a day's or a year's local times: between two edges all have equally many instants -/
def Ed (m : Int) (s f : Int → Int) (l : Int) : Prop := ∃ j, 0 ≤ j ∧ j < m ∧ (s j + f j = l ∨ s j + f (j + 1) = l)
theorem Ed.mk {m : Int} {s f : Int → Int} {l : Int} (j : Int) (h0 : 0 ≤ j) (h1 : j < m) (h2 : s j + f j = l ∨ s j + f (j + 1) = l) : Ed m s f l := Exists.intro j ⟨h0, h1, h2⟩
theorem fc_same {m : Int} {s f : Int → Int} {l l' : Int} : ∀ n : Nat, (∀ k : Nat, k < n → (Hh m s f l k ↔ Hh m s f l' k)) → fc m s f l n = fc m s f l' n
  | 0, _ => rfl
  | n + 1, h => by
    have h1 := fc_same n (fun k hk => h k (by omega))
    have h2 := h n (by omega)
    simp only [fc]
    rw [h1]
    by_cases c : Hh m s f l n
    · rw [if_pos c, if_pos (h2.mp c)]
    · rw [if_neg c, if_neg (fun q => c (h2.mpr q))]
theorem cN_step {m : Int} {s f : Int → Int} {l : Int} (hL : LOk m s f) (h : ¬ Ed m s f (l + 1)) : cN m s f (l + 1) = cN m s f l := by
  have hm := hL.1
  refine fc_same _ (fun k hk => ?_)
  have a : 0 < k → s ((k : Int) - 1) + f k ≠ l + 1 := fun k0 e => h (Ed.mk ((k : Int) - 1) (by omega) (by omega) (Or.inr (by rw [show (k : Int) - 1 + 1 = k by omega]; exact e)))
  have b : (k : Int) < m → s k + f k ≠ l + 1 := fun k1 e => h (Ed.mk k (by omega) k1 (Or.inl e))
  unfold Hh
  omega
theorem cN_const {m : Int} {s f : Int → Int} {a : Int} (hL : LOk m s f) : ∀ n : Nat, (∀ l, a < l → l < a + n + 1 → ¬ Ed m s f l) → cN m s f (a + n) = cN m s f a
  | 0, _ => by rw [show a + ((0 : Nat) : Int) = a by omega]
  | n + 1, h => by
    have h1 := cN_const hL n (fun l a b => h l a (by omega))
    rw [show a + ((n + 1 : Nat) : Int) = a + n + 1 by omega, cN_step hL (h _ (by omega) (by omega)), h1]
def sm (m : Int) (s f w : Int → Int) (a : Int) : Nat → Int
  | 0 => 0
  | n + 1 => sm m s f w a n + w (cN m s f (a + n))
theorem sm_add {m : Int} {s f w : Int → Int} {a : Int} {n : Nat} : ∀ k : Nat, sm m s f w a (n + k) = sm m s f w a n + sm m s f w (a + n) k
  | 0 => by simp [sm]
  | k + 1 => by
    show sm m s f w a (n + k) + w (cN m s f (a + ((n + k : Nat) : Int))) = _
    rw [sm_add k]
    simp only [sm]
    rw [show a + ((n + k : Nat) : Int) = a + n + k by omega]
    omega
theorem sm_const {m : Int} {s f w : Int → Int} {a : Int} (hL : LOk m s f) : ∀ n : Nat, (∀ l, a < l → l < a + n → ¬ Ed m s f l) → sm m s f w a n = n * w (cN m s f a)
  | 0, _ => by simp [sm]
  | n + 1, h => by
    simp only [sm]
    rw [sm_const hL n (fun l a b => h l a (by omega)), cN_const hL n (fun l a b => h l a (by omega))]
    rw [show ((n + 1 : Nat) : Int) = (n : Int) + 1 by omega, Int.add_mul, Int.one_mul]
theorem sm_ext {m : Int} {s f w : Int → Int} {a b c : Int} (hL : LOk m s f) (h1 : a ≤ b) (h2 : b ≤ c) (h : ∀ l, b < l → l < c → ¬ Ed m s f l) : sm m s f w a (c - a).toNat = sm m s f w a (b - a).toNat + (c - b) * w (cN m s f b) := by
  have := sm_add (m := m) (s := s) (f := f) (w := w) (a := a) (n := (b - a).toNat) (c - b).toNat
  rw [show (b - a).toNat + (c - b).toNat = (c - a).toNat by omega, show a + (((b - a).toNat : Nat) : Int) = b by omega, sm_const hL (c - b).toNat (fun l a b => h l a (by omega)), show (((c - b).toNat : Nat) : Int) = c - b by omega] at this
  exact this
def nE' (s f : Int → Int) (l : Int) : Nat → Int
  | 0 => 0
  | n + 1 => nE' s f l n + (if l < s n + f n then 1 else 0) + (if l < s n + f ((n : Int) + 1) then 1 else 0)
theorem nE'_rng {s f : Int → Int} {l : Int} : ∀ n : Nat, 0 ≤ nE' s f l n ∧ nE' s f l n ≤ 2 * n
  | 0 => by simp [nE']
  | n + 1 => by
    have := nE'_rng (s := s) (f := f) (l := l) n
    simp only [nE']
    split <;> split <;> omega
theorem nE'_le {s f : Int → Int} {l e : Int} (h : l ≤ e) : ∀ n : Nat, nE' s f e n ≤ nE' s f l n
  | 0 => by simp [nE']
  | n + 1 => by
    have := nE'_le (s := s) (f := f) h n
    simp only [nE']
    split <;> split <;> split <;> split <;> omega
theorem nE'_lt {s f : Int → Int} {l e : Int} {j : Nat} (h : l < e) (hj : s j + f j = e ∨ s j + f ((j : Int) + 1) = e) : ∀ n : Nat, j < n → nE' s f e n + 1 ≤ nE' s f l n
  | 0, q => by omega
  | n + 1, q => by
    have h1 := nE'_le (s := s) (f := f) (Int.le_of_lt h) n
    simp only [nE']
    by_cases c : j = n
    · rw [c] at hj
      split <;> split <;> split <;> split <;> omega
    · have := nE'_lt h hj n (by omega)
      split <;> split <;> split <;> split <;> omega
theorem pf_eE {l c e : Int} : pf_X7_earlierEdge l c e = if l < c ∧ c < e then c else e := by
  unfold pf_X7_earlierEdge; omega
theorem pg_eE {l c e : Int} (h1 : rg l) (h2 : rg c) (h3 : rg e) : pg_X7_earlierEdge l c e := by
  unfold pg_X7_earlierEdge; exact ⟨h2, h1, fun _ => trivial, fun _ => ⟨h3, fun _ => trivial, fun _ => trivial⟩⟩
theorem sp_nextEdge {M : jT} {L a b m : Int} {s f : Int → Int} {Q : Int → Prop} (hC : CL M L m s f) (hL : LOk m s f) (ha : 0 ≤ a) (hab : a < b) (hb : b ≤ 16830720)
    (kk : ∀ e, a < e → e ≤ b → (e = b ∨ Ed m s f e) → (∀ l, a < l → l < e → ¬ Ed m s f l) → Q e) : wp_X7_nextEdge M L a b Q := by
  have hm := hL.1
  obtain ⟨c1, c2, c3, c4, c5, c6, c7⟩ := hC
  have hC : CL M L m s f := ⟨c1, c2, c3, c4, c5, c6, c7⟩
  unfold wp_X7_nextEdge
  refine sp_spanAt hC hL ⟨by omega, by omega⟩ ?_
  obtain ⟨p0, p1, p2, p3⟩ := SP_is hL (a - M L 4)
  refine ⟨fun n e i => 0 ≤ i ∧ i ≤ m ∧ (m - i).toNat ≤ n ∧ a < e ∧ e ≤ b ∧ (e = b ∨ Ed m s f e) ∧ ∀ j, 0 ≤ j → j < i → ¬ (a < s j + f j ∧ s j + f j < e) ∧ ¬ (a < s j + f (j + 1) ∧ s j + f (j + 1) < e), ⟨m.toNat, p0, p1, by omega, hab, by omega, Or.inl rfl, fun j j0 j1 => ?_⟩, ?_⟩
  · have q1 := p2 j j0 j1
    have q2 := c4 j j0 (by omega)
    have q3 := c4 (j + 1) (by omega) (by omega)
    omega
  · rintro n6 x3 x4 ⟨i0, i1, i2, i3, i4, i5, i6⟩
    rw [c1]
    refine ⟨∀ l, a < l → l < x3 → ¬ Ed m s f l, fun h => kk x3 i3 i4 i5 h, ⟨by omega, by omega⟩, ⟨by omega, by omega⟩, fun c => ?_, fun c => ⟨by omega, ?_⟩⟩
    · rintro l l0 l1 ⟨j, j0, j1, j2⟩
      have := i6 j j0 (by omega)
      omega
    · have hs := hL.2.2.1 x4 i0 c
      have hf0 := hL.2.2.2 x4 i0 (by omega)
      have hf1 := hL.2.2.2 (x4 + 1) (by omega) (by omega)
      rw [c2 x4 i0 c, c3 x4 i0 (by omega), c3 (x4 + 1) (by omega) (by omega)]
      refine ⟨⟨by omega, by omega⟩, ⟨by omega, by omega⟩, fun c' => ?_, fun c' => ⟨by omega, pg_eE ⟨by omega, by omega⟩ ⟨by omega, by omega⟩ ⟨by omega, by omega⟩, ?_⟩⟩
      · rintro l l0 l1 ⟨j, j0, j1, j2⟩
        by_cases q : j < x4
        · have := i6 j j0 q; omega
        · have h1 := c5 j j0 (by omega)
          have h2 := c5 (j + 1) (by omega) (by omega)
          have h3 : s x4 ≤ s j := by
            by_cases q2 : x4 = j
            · rw [q2]; exact Int.le_refl _
            · exact Int.le_of_lt (hL.2.1 x4 j i0 (by omega) j1)
          omega
      · intro x38 e38
        rw [pf_eE] at e38
        refine ⟨by omega, pg_eE ⟨by omega, by omega⟩ ⟨by omega, by omega⟩ (by split at e38 <;> exact ⟨by omega, by omega⟩), ?_⟩
        intro x43 e43 x44 e44
        rw [pf_eE] at e43
        have hd : Ed m s f x43 ∨ x43 = x3 := by
          by_cases q1 : a < s x4 + f (x4 + 1) ∧ s x4 + f (x4 + 1) < x38
          · rw [if_pos q1] at e43; exact Or.inl (Ed.mk x4 i0 c (Or.inr e43.symm))
          · rw [if_neg q1] at e43
            by_cases q2 : a < s x4 + f x4 ∧ s x4 + f x4 < x3
            · rw [if_pos q2] at e38; exact Or.inl (Ed.mk x4 i0 c (Or.inl (by omega)))
            · rw [if_neg q2] at e38; exact Or.inr (by omega)
        have hr : a < x43 ∧ x43 ≤ x3 ∧ ¬ (a < s x4 + f x4 ∧ s x4 + f x4 < x43) ∧ ¬ (a < s x4 + f (x4 + 1) ∧ s x4 + f (x4 + 1) < x43) := by
          split at e43 <;> split at e38 <;> omega
        refine ⟨(m - x44).toNat, by omega, by omega, by omega, by omega, hr.1, by omega, ?_, fun j j0 j1 => ?_⟩
        · rcases hd with hd | hd
          · exact Or.inr hd
          · rw [hd]; exact i5
        · by_cases q : j = x4
          · rw [q]; exact ⟨hr.2.2.1, hr.2.2.2⟩
          · have := i6 j j0 (by omega); omega
def wG (c : Int) : Int := if c = 0 then 1 else 0
def wF' (c : Int) : Int := if 1 < c then c - 1 else 0
theorem sp_countMinutes {M : jT} {L a b g m : Int} {s f : Int → Int} {Q : Int → jT → Prop} (hC : CL M L m s f) (hL : LOk m s f) (ha : 0 ≤ a) (hab : a ≤ b) (hb : b ≤ 16830720) (hg : 0 ≤ g ∧ g ≤ 1)
    (kk : ∀ M', (∀ a, a ≠ L → M' a = M a) → (∀ b, b ≠ 13 → b ≠ 14 → b ≠ 15 → M' L b = M L b) → Q (sm m s f (if g = 0 then wF' else wG) a (b - a).toNat) M') : wp_X7_countMinutes M L a b g Q := by
  have hm := hL.1
  unfold wp_X7_countMinutes
  refine ⟨fun n x y t M4 => a ≤ y ∧ y ≤ b ∧ (b - y).toNat ≤ n ∧ x = sm m s f (if g = 0 then wF' else wG) a (y - a).toNat ∧ 0 ≤ t ∧ t ≤ 600 ∧ (y = b ∨ t + nE' s f y m.toNat ≤ 2 * m) ∧ (∀ a, a ≠ L → M4 a = M a) ∧ (∀ b, b ≠ 13 → b ≠ 14 → b ≠ 15 → M4 L b = M L b), ⟨(b - a).toNat, by omega, hab, by omega, by rw [show (a - a).toNat = 0 by omega]; rfl, by omega, by omega, Or.inr (by have := nE'_rng (s := s) (f := f) (l := a) m.toNat; omega), fun _ _ => rfl, fun _ _ _ _ => rfl⟩, ?_⟩
  rintro n6 x1 x2 x3 M4 ⟨i1, i2, i3, i4, i5, i6, i7, F, G⟩
  have hC4 : CL M4 L m s f := hC.mv (fun b hb => G b (by omega) (by omega) (by omega)) (F _ (by omega)) (F _ (by omega))
  have hn := nE'_rng (s := s) (f := f) (l := x2) m.toNat
  rw [hC4.1]
  refine ⟨x2 = b, fun e => ?_, ⟨by omega, by omega⟩, ⟨by omega, by omega⟩, fun c => by omega, fun c => ⟨⟨by omega, by omega⟩, ⟨by omega, by omega⟩, fun c2 => by omega, fun c2 => ?_⟩⟩
  · rw [i4, e]; exact kk M4 F G
  · refine sp_nextEdge hC4 hL (by omega) c2 hb (fun e e0 e1 e2 e3 => ?_)
    refine sp_look hC4 hL (by omega) (fun M' F' G' g13 g14 g15 => ?_)
    have hc := cN_rng (l := x2) hL
    rw [g13]
    refine ⟨⟨⟨by omega, by omega⟩, fun _ => trivial, fun _ => trivial⟩, ?_⟩
    intro x40 a1 a2
    have hw : (if g = 0 then wF' else wG) (cN m s f x2) = max x40 0 := by
      by_cases c3 : g = 0
      · have h1 := a1 c3
        rw [if_pos c3]; unfold wF'; split <;> omega
      · have h1 := a2 c3
        rw [if_neg c3]; unfold wG; split <;> omega
    have hr : -1000 ≤ x40 ∧ x40 ≤ 1000 := by
      by_cases c3 : g = 0
      · have h1 := a1 c3; omega
      · have h1 := a2 c3; omega
    refine ⟨⟨by omega, by omega⟩, ?_⟩
    intro x45 e45 x46 e46
    have hs := sm_ext (w := if g = 0 then wF' else wG) hL i1 (Int.le_of_lt e0) e3
    refine ⟨(b - e).toNat, by omega, by omega, e1, by omega, ?_, by omega, by omega, ?_, fun a ha => (F' a ha).trans (F a ha), fun b b1 b2 b3 => (G' b b1 b2 b3).trans (G b b1 b2 b3)⟩
    · rw [hs, hw, e45, i4, Int.mul_comm (max x40 0)]
    · rcases e2 with e2 | ⟨j, j0, j1, j2⟩
      · exact Or.inl e2
      · right
        have := nE'_lt (s := s) (f := f) (j := j.toNat) e0 (by rw [Int.toNat_of_nonneg j0]; exact j2) m.toNat (by omega)
        omega
theorem sp_countGaps {M : jT} {L a b m : Int} {s f : Int → Int} {Q : Int → jT → Prop} (hC : CL M L m s f) (hL : LOk m s f) (ha : 0 ≤ a) (hab : a ≤ b) (hb : b ≤ 16830720)
    (kk : ∀ M', (∀ a, a ≠ L → M' a = M a) → (∀ b, b ≠ 13 → b ≠ 14 → b ≠ 15 → M' L b = M L b) → Q (sm m s f wG a (b - a).toNat) M') : wp_X7_countMinutes M L a b 1 Q :=
  sp_countMinutes hC hL ha hab hb ⟨by decide, by decide⟩ (fun M' F G => by rw [if_neg (by decide)]; exact kk M' F G)
theorem sp_countFolds {M : jT} {L a b m : Int} {s f : Int → Int} {Q : Int → jT → Prop} (hC : CL M L m s f) (hL : LOk m s f) (ha : 0 ≤ a) (hab : a ≤ b) (hb : b ≤ 16830720)
    (kk : ∀ M', (∀ a, a ≠ L → M' a = M a) → (∀ b, b ≠ 13 → b ≠ 14 → b ≠ 15 → M' L b = M L b) → Q (sm m s f wF' a (b - a).toNat) M') : wp_X7_countMinutes M L a b 0 Q :=
  sp_countMinutes hC hL ha hab hb ⟨by decide, by decide⟩ (fun M' F G => by rw [if_pos rfl]; exact kk M' F G)
/-! the reference: borders -/
def Fr2 (M M' : jT) : Prop := (∀ a, a ≠ 608 → a ≠ 626 → (a < 616 ∨ 625 < a) → M' a = M a) ∧ (∀ b, b ≠ 14 → b ≠ 15 → b ≠ 18 → b ≠ 24 → b ≠ 28 → b ≠ 29 → b ≠ 30 → M' 608 b = M 608 b)
theorem Fr1.to2 {M M' : jT} (h : Fr1 M M') : Fr2 M M' := ⟨fun a a1 a2 a3 => h.1 a a1 a3, h.2⟩
theorem Fr2.trans {M M1 M2 : jT} (a : Fr2 M M1) (b : Fr2 M1 M2) : Fr2 M M2 := ⟨fun x h1 h2 h3 => (b.1 x h1 h2 h3).trans (a.1 x h1 h2 h3), fun x h1 h2 h3 h4 h5 h6 h7 => (b.2 x h1 h2 h3 h4 h5 h6 h7).trans (a.2 x h1 h2 h3 h4 h5 h6 h7)⟩
theorem RZ.mv2 {M M' : jT} {z : Int} {Z : Int → Int} (h : RZ M z Z) (f : ∀ a, a ≠ 626 → M' a = M a) : RZ M' z Z := by
  obtain ⟨a, b, c, d, e⟩ := h
  have h8 := f 608 (by omega)
  exact ⟨a, b, c.mv (f 609 (by omega)), by rw [h8]; exact d, fun q => (e (by rw [← h8]; exact q)).mv (by rw [h8]) (by rw [h8]) (by rw [h8]) (fun a _ _ => f a (by omega))⟩
/-- the borders: sorted, from the first to the last, with every edge told so far that lies between -/
def Bd (r : Int → Int) (n a b : Int) (P : Int → Prop) : Prop := 2 ≤ n ∧ Srt r n ∧ r 0 = a ∧ r (n - 1) = b ∧ ∀ e, P e → a ≤ e → e ≤ b → ∃ i, 0 ≤ i ∧ i < n ∧ r i = e
theorem Bd.ins {r r' : Int → Int} {n a b k e : Int} {P P' : Int → Prop} (h : Bd r n a b P) (hk : 0 ≤ k ∧ k ≤ n) (he : a ≤ e ∧ e ≤ b) (h1 : ∀ i, 0 ≤ i → i < k → r' i = r i) (h2 : r' k = e) (h3 : ∀ i, k < i → i ≤ n → r' i = r (i - 1)) (h4 : k = 0 ∨ r (k - 1) ≤ e) (h5 : ∀ i, k ≤ i → i < n → e < r i) (hP : ∀ x, P' x → P x ∨ x = e) : Bd r' (n + 1) a b P' := by
  obtain ⟨b1, b2, b3, b4, b5⟩ := h
  have k0 : 0 < k := by
    by_cases q : 0 < k
    · exact q
    · have := h5 0 (by omega) (by omega); omega
  have low : ∀ i, 0 ≤ i → i < k → r i ≤ e := fun i i0 i1 => by
    by_cases q : i = k - 1
    · rw [q]; omega
    · have := b2 i (k - 1) i0 (by omega) (by omega); omega
  refine ⟨by omega, fun p q p0 p1 p2 => ?_, by rw [h1 0 (by omega) k0]; exact b3, ?_, fun x hx x0 x1 => ?_⟩
  · rcases Int.lt_trichotomy p k with c1 | c1 | c1
    · rw [h1 p p0 c1]
      rcases Int.lt_trichotomy q k with c2 | c2 | c2
      · rw [h1 q (by omega) c2]; exact b2 p q p0 p1 (by omega)
      · rw [c2, h2]; exact low p p0 c1
      · rw [h3 q c2 (by omega)]
        have := h5 (q - 1) (by omega) (by omega); have := low p p0 c1; omega
    · rw [c1, h2, h3 q (by omega) (by omega)]
      have := h5 (q - 1) (by omega) (by omega); omega
    · rw [h3 p c1 (by omega), h3 q (by omega) (by omega)]
      exact b2 (p - 1) (q - 1) (by omega) (by omega) (by omega)
  · rw [show n + 1 - 1 = n by omega]
    by_cases q : k = n
    · rw [← q, h2]
      have := low (n - 1) (by omega) (by omega)
      omega
    · rw [h3 n (by omega) (by omega)]; exact b4
  · rcases hP x hx with hx | hx
    · obtain ⟨i, i0, i1, i2⟩ := b5 x hx x0 x1
      by_cases q : i < k
      · exact ⟨i, i0, by omega, by rw [h1 i i0 q]; exact i2⟩
      · exact ⟨i + 1, by omega, by omega, by rw [h3 (i + 1) (by omega) (by omega), show i + 1 - 1 = i by omega]; exact i2⟩
    · exact ⟨k, by omega, by omega, by rw [h2, hx]⟩
theorem sp_minutes {M : jT} {z a b g : Int} {Z : Int → Int} {Q : Int → jT → Prop} (h : RZ M z Z) (ha : 0 ≤ a) (hab : a ≤ b) (hb : b ≤ 16830720) (hg : 0 ≤ g ∧ g ≤ 1)
    (kk : ∀ M', Fr2 M M' → M' 608 14 = z → Rl M' Z → RZ M' z Z → Q (sm (lm Z) (lS Z) (lF Z) (if g = 0 then wF' else wG) a (b - a).toNat) M') : wp_X11_minutes M 608 z a b g Q := by
  unfold wp_X11_minutes
  simp only [Int.reduceAdd]
  refine sp_comp h (fun M2 f2 h14 hl2 hz2 => ?_)
  have hL := (LOk.of h.1 hl2.2.1).1
  have hm := hL.1
  intro x3 e3
  refine up_in fun M4 h4 => ?_
  intro x5 e5
  refine ⟨by omega, up_in fun M7 h7 => ?_⟩
  have F7 : ∀ a, a ≠ 626 → M7 a = M2 a := (fun a ha => funext fun b => by rw [h7 a b, if_neg (by omega), h4 a b, if_neg (by omega)])
  have r0 : M7 626 0 = a := by rw [h7, if_neg (by omega), h4, if_pos ⟨rfl, rfl⟩]
  have r1 : M7 626 1 = b := by rw [h7, if_pos ⟨rfl, by omega⟩]
  refine ⟨fun n x y M10 => 0 ≤ y ∧ y ≤ lm Z ∧ (lm Z - y).toNat ≤ n ∧ x ≤ 2 + 2 * y ∧ (∀ a, a ≠ 626 → M10 a = M2 a) ∧ Bd (M10 626) x a b (fun e => ∃ j, 0 ≤ j ∧ j < y ∧ (lS Z j + lF Z j = e ∨ lS Z j + lF Z (j + 1) = e)), ⟨(lm Z).toNat, by omega, by omega, by omega, by omega, F7, by omega, fun p q p0 p1 p2 => ?_, r0, by rw [show x5 - 1 = 1 by omega]; exact r1, fun e he => by obtain ⟨j, j0, j1, _⟩ := he; omega⟩, ?_⟩
  · rw [show p = 0 by omega, show q = 1 by omega, r0, r1]; exact hab
  · rintro n12 x8 x9 M10 ⟨y0, y1, y2, y3, F10, hB⟩
    have hz10 : RZ M10 z Z := hz2.mv2 F10
    have g14 : M10 608 14 = z := by rw [F10 608 (by omega)]; exact h14
    have hl10 : Rl M10 Z := hz10.2.2.2.2 g14
    obtain ⟨l1, l2, l3, l4, l5, l6⟩ := id hl10
    have l3 : M10 608 18 = lm Z := l3
    have fr10 : Fr2 M M10 := f2.to2.trans ⟨fun a a1 a2 a3 => F10 a a2, fun b _ _ _ _ _ _ _ => by rw [F10 608 (by omega)]⟩
    rw [l3]
    refine ⟨⟨by omega, by omega⟩, ⟨by omega, by omega⟩, fun c => ?_, fun c => ?_⟩
    · have ey : x9 = lm Z := by omega
      rw [ey] at hB y3
      obtain ⟨b1, b2, b3, b4, b5⟩ := hB
      have hrow : ∀ i, 0 ≤ i → i < x8 → a ≤ M10 626 i ∧ M10 626 i ≤ b := fun i i0 i1 => by
        constructor
        · by_cases q : i = 0
          · rw [q, b3]; exact Int.le_refl _
          · rw [← b3]; exact b2 0 i (by omega) (by omega) i1
        · by_cases q : i = x8 - 1
          · rw [q, b4]; exact Int.le_refl _
          · rw [← b4]; exact b2 i (x8 - 1) i0 (by omega) (by omega)
      refine ⟨fun n x i M18 => 0 ≤ i ∧ i < x8 ∧ (x8 - i).toNat ≤ n ∧ x = sm (lm Z) (lS Z) (lF Z) (if g = 0 then wF' else wG) a (M10 626 i - a).toNat ∧ M18 626 = M10 626 ∧ Fr2 M M18 ∧ M18 608 14 = z ∧ Rl M18 Z ∧ RZ M18 z Z, ⟨x8.toNat, by omega, by omega, by omega, by rw [b3, show (a - a).toNat = 0 by omega]; rfl, rfl, fr10, g14, hl10, hz10⟩, ?_⟩
      rintro n20 x16 x17 M18 ⟨i0, i1, i2, i3, er, fr18, e14, hl18, hz18⟩
      refine ⟨⟨by omega, by omega⟩, ⟨by omega, by omega⟩, fun c2 => ?_, fun c2 => ⟨by omega, by omega, ?_⟩⟩
      · have : x17 = x8 - 1 := by omega
        rw [i3, this, b4]; exact kk M18 fr18 e14 hl18 hz18
      · rw [er]
        have hi := hrow x17 i0 i1
        have hi1 := hrow (x17 + 1) (by omega) c2
        have hle := b2 x17 (x17 + 1) i0 (by omega) c2
        have noE : ∀ l, M10 626 x17 < l → l < M10 626 (x17 + 1) → ¬ Ed (lm Z) (lS Z) (lF Z) l := by
          rintro l l0 l1 ⟨j, j0, j1, j2⟩
          obtain ⟨i, q0, q1, q2⟩ := b5 l ⟨j, j0, j1, j2⟩ (by omega) (by omega)
          by_cases q : i ≤ x17
          · by_cases q3 : i = x17
            · rw [q3] at q2; omega
            · have := b2 i x17 q0 (by omega) i1; omega
          · by_cases q3 : i = x17 + 1
            · rw [q3] at q2; omega
            · have := b2 (x17 + 1) i (by omega) (by omega) q1; omega
        have hs := sm_ext (w := if g = 0 then wF' else wG) hL hi.1 hle noE
        refine ⟨fun x M' => x = sm (lm Z) (lS Z) (lF Z) (if g = 0 then wF' else wG) a (M10 626 (x17 + 1) - a).toNat ∧ M' 626 = M10 626 ∧ Fr2 M M' ∧ M' 608 14 = z ∧ Rl M' Z ∧ RZ M' z Z, ?_, ⟨by omega, by omega⟩, ⟨by omega, by omega⟩, fun c3 => ?_, fun c3 => ?_⟩
        · rintro x M' ⟨k1, k2, k3, k4, k5, k6⟩
          intro x49 e49
          exact ⟨(x8 - x49).toNat, by omega, by omega, by omega, by omega, by rw [k1, e49], k2, k3, k4, k5, k6⟩
        · refine sp_finds hz18 (by omega) (fun M55 f55 h14 hl55 hz55 e30 _ => ?_)
          have hc := cN_rng (l := M10 626 x17) hL
          have r55 : M55 626 = M10 626 := by rw [f55.1 626 (by omega) (by omega), er]
          have fr55 : Fr2 M M55 := fr18.trans f55.to2
          rw [e30, r55]
          refine ⟨⟨⟨by omega, by omega⟩, fun _ => trivial, fun _ => ⟨⟨by omega, by omega⟩, fun _ => trivial, fun _ => trivial⟩⟩, ?_⟩
          intro x60 a1 a2 a3
          refine ⟨⟨by omega, by omega⟩, fun c4 => ?_, fun c4 => ⟨⟨by omega, by omega⟩, fun c5 => ?_, fun c5 => ?_⟩⟩
          · refine ⟨?_, r55, fr55, h14, hl55, hz55⟩
            rw [hs, if_neg c4]
            rw [if_neg c4] at i3
            by_cases c5 : cN (lm Z) (lS Z) (lF Z) (M10 626 x17) = 0
            · have ew : wG (cN (lm Z) (lS Z) (lF Z) (M10 626 x17)) = 1 := by unfold wG; rw [if_pos c5]
              rw [a3 ⟨c4, c5⟩, ew, i3]; omega
            · have ew : wG (cN (lm Z) (lS Z) (lF Z) (M10 626 x17)) = 0 := by unfold wG; rw [if_neg c5]
              rw [a2 ⟨c4, c5⟩, ew, i3]; omega
          · refine ⟨?_, r55, fr55, h14, hl55, hz55⟩
            have ew : wF' (cN (lm Z) (lS Z) (lF Z) (M10 626 x17)) = 0 := by unfold wF'; rw [if_neg (by omega)]
            rw [hs, if_pos c4, ew]
            rw [if_pos c4] at i3
            rw [a1 c4, i3]; omega
          · intro x70 e70
            refine ⟨?_, r55, fr55, h14, hl55, hz55⟩
            have ew : wF' (cN (lm Z) (lS Z) (lF Z) (M10 626 x17)) = cN (lm Z) (lS Z) (lF Z) (M10 626 x17) - 1 := by unfold wF'; rw [if_pos c5]
            rw [hs, if_pos c4, ew]
            rw [if_pos c4] at i3
            rw [e70, a1 c4, i3, Int.mul_comm]
        · refine ⟨?_, er, fr18, e14, hl18, hz18⟩
          rw [i3, c3]
    · have hr := hL.2.2.1 x9 y0 c
      have hf0 := hL.2.2.2 x9 y0 (by omega)
      have hf1 := hL.2.2.2 (x9 + 1) (by omega) (by omega)
      refine ⟨fun n x t M73 => 0 ≤ t ∧ t ≤ 2 ∧ (2 - t).toNat ≤ n ∧ x ≤ 2 + 2 * x9 + t ∧ (∀ a, a ≠ 626 → M73 a = M2 a) ∧ Bd (M73 626) x a b (fun e => (∃ j, 0 ≤ j ∧ j < x9 ∧ (lS Z j + lF Z j = e ∨ lS Z j + lF Z (j + 1) = e)) ∨ (0 < t ∧ lS Z x9 + lF Z x9 = e) ∨ (1 < t ∧ lS Z x9 + lF Z (x9 + 1) = e)), ⟨2, by omega, by omega, by omega, by omega, F10, hB.1, hB.2.1, hB.2.2.1, hB.2.2.2.1, fun e he e0 e1 => hB.2.2.2.2 e (by rcases he with he | ⟨h0, _⟩ | ⟨h0, _⟩ <;> first | exact he | omega) e0 e1⟩, ?_⟩
      rintro n75 x71 x72 M73 ⟨t0, t1, t2, t3, F73, hB73⟩
      refine ⟨⟨by omega, by omega⟩, fun c2 => ?_, fun c2 => ⟨by omega, ?_⟩⟩
      · intro x78 e78
        refine ⟨(lm Z - x78).toNat, by omega, by omega, by omega, by omega, by omega, F73, hB73.1, hB73.2.1, hB73.2.2.1, hB73.2.2.2.1, fun e he e0 e1 => hB73.2.2.2.2 e ?_ e0 e1⟩
        obtain ⟨j, j0, j1, j2⟩ := he
        by_cases q : j = x9
        · rw [q] at j2
          rcases j2 with j2 | j2
          · exact Or.inr (Or.inl ⟨by omega, j2⟩)
          · exact Or.inr (Or.inr ⟨by omega, j2⟩)
        · exact Or.inl ⟨j, j0, by omega, j2⟩
      · have hz73 : RZ M73 z Z := hz2.mv2 F73
        have g14 : M73 608 14 = z := by rw [F73 608 (by omega)]; exact h14
        have hl73 : Rl M73 Z := hz73.2.2.2.2 g14
        obtain ⟨_, _, _, _, l5, _⟩ := hl73
        have hs := l5 x9 y0 c
        have s1 : M73 618 x9 = lS Z x9 := hs.1
        have s2 : M73 619 x9 = lF Z x9 := hs.2.1
        have s3 : M73 620 x9 = lF Z (x9 + 1) := hs.2.2.1
        rw [s1, s2, s3]
        intro x82 a1 a2 x85 e85
        have hx85 : -2000 ≤ x85 ∧ x85 ≤ 16840000 := by
          by_cases q : x72 = 0
          · have := a2 q; omega
          · have := a1 q; omega
        have hP : ∀ x, ((∃ j, 0 ≤ j ∧ j < x9 ∧ (lS Z j + lF Z j = x ∨ lS Z j + lF Z (j + 1) = x)) ∨ (0 < x72 + 1 ∧ lS Z x9 + lF Z x9 = x) ∨ (1 < x72 + 1 ∧ lS Z x9 + lF Z (x9 + 1) = x)) → ((∃ j, 0 ≤ j ∧ j < x9 ∧ (lS Z j + lF Z j = x ∨ lS Z j + lF Z (j + 1) = x)) ∨ (0 < x72 ∧ lS Z x9 + lF Z x9 = x) ∨ (1 < x72 ∧ lS Z x9 + lF Z (x9 + 1) = x)) ∨ x = x85 := by
          intro x hx
          rcases hx with hx | ⟨h0, h1⟩ | ⟨h0, h1⟩
          · exact Or.inl (Or.inl hx)
          · by_cases q : x72 = 0
            · right; rw [e85, a2 q, h1]
            · exact Or.inl (Or.inr (Or.inl ⟨by omega, h1⟩))
          · right; rw [e85, a1 (by omega), h1]
        refine ⟨⟨⟨by omega, by omega⟩, ⟨by omega, by omega⟩, fun _ => trivial, fun _ => ⟨⟨by omega, by omega⟩, fun _ => trivial, fun _ => trivial⟩⟩, ?_⟩
        refine ⟨fun x M' => x ≤ 2 + 2 * x9 + (x72 + 1) ∧ (∀ a, a ≠ 626 → M' a = M2 a) ∧ Bd (M' 626) x a b (fun e => (∃ j, 0 ≤ j ∧ j < x9 ∧ (lS Z j + lF Z j = e ∨ lS Z j + lF Z (j + 1) = e)) ∨ (0 < x72 + 1 ∧ lS Z x9 + lF Z x9 = e) ∨ (1 < x72 + 1 ∧ lS Z x9 + lF Z (x9 + 1) = e)), ?_, fun c3 => ?_, fun c3 => ?_⟩
        · rintro x M' ⟨k1, k2, k3⟩
          intro x121 e121
          rw [← e121] at k3
          exact ⟨(2 - x121).toNat, by omega, by omega, by omega, by omega, by omega, k2, k3⟩
        · intro x124 e124
          have c3 : a ≤ x85 ∧ x85 ≤ b := c3
          have hBn := hB73.1
          refine ⟨fun n k M126 => k.toNat ≤ n ∧ 0 ≤ k ∧ k ≤ x71 ∧ (∀ a, a ≠ 626 → M126 a = M2 a) ∧ (∀ i, 0 ≤ i → i < k → M126 626 i = M73 626 i) ∧ (∀ i, k < i → i ≤ x71 → M126 626 i = M73 626 (i - 1)) ∧ (∀ i, k ≤ i → i < x71 → x85 < M73 626 i), ⟨x71.toNat, by omega, by omega, by omega, F73, fun _ _ _ => rfl, fun i p q => by omega, fun i p q => by omega⟩, ?_⟩
          rintro n128 k M126 ⟨k1, k2, k3, F126, hA, hB', hC'⟩
          refine ⟨k = 0 ∨ M73 626 (k - 1) ≤ x85, fun hc => ⟨by omega, up_in fun M141 h141 => ?_⟩, ⟨by omega, by omega⟩, fun c4 => Or.inl (by omega), fun c4 => ⟨by omega, ?_⟩⟩
          · refine ⟨by omega, (fun a ha => by rw [← F126 a ha]; funext b; rw [h141, if_neg (by omega)]), ?_⟩
            rw [e124]
            refine Bd.ins hB73 ⟨k2, k3⟩ c3 (fun i i0 i1 => by rw [h141, if_neg (by omega)]; exact hA i i0 i1) (by rw [h141, if_pos ⟨rfl, rfl⟩]) (fun i i0 i1 => by rw [h141, if_neg (by omega)]; exact hB' i i0 i1) hc hC' hP
          · rw [hA (k - 1) (by omega) (by omega)]
            have hrr : a ≤ M73 626 (k - 1) ∧ M73 626 (k - 1) ≤ b := by
              obtain ⟨b1, b2, b3, b4, b5⟩ := hB73
              constructor
              · by_cases q : k - 1 = 0
                · rw [q, b3]; exact Int.le_refl _
                · rw [← b3]; exact b2 0 (k - 1) (by omega) (by omega) (by omega)
              · by_cases q : k - 1 = x71 - 1
                · rw [q, b4]; exact Int.le_refl _
                · rw [← b4]; exact b2 (k - 1) (x71 - 1) (by omega) (by omega) (by omega)
            refine ⟨⟨by omega, by omega⟩, ⟨by omega, by omega⟩, fun c5 => Or.inr c5, fun c5 => ⟨by omega, up_in fun M149 h149 => ?_⟩⟩
            intro x150 e150
            refine ⟨x150.toNat, by omega, by omega, by omega, by omega, (fun a ha => by rw [← F126 a ha]; funext b; rw [h149, if_neg (by omega)]), fun i i0 i1 => by rw [h149, if_neg (by omega)]; exact hA i i0 (by omega), fun i i0 i1 => ?_, fun i i0 i1 => ?_⟩
            · by_cases q : i = k
              · rw [q, h149, if_pos ⟨rfl, rfl⟩]
              · rw [h149, if_neg (by omega)]; exact hB' i (by omega) i1
            · by_cases q : i = k - 1
              · rw [q]; exact c5
              · exact hC' i (by omega) i1
        · have c3 : ¬ (a ≤ x85 ∧ x85 ≤ b) := c3
          refine ⟨by omega, F73, hB73.1, hB73.2.1, hB73.2.2.1, hB73.2.2.2.1, fun e he e0 e1 => ?_⟩
          rcases hP e he with hx | hx
          · exact hB73.2.2.2.2 e hx e0 e1
          · rw [hx] at e0 e1; exact absurd ⟨e0, e1⟩ c3
