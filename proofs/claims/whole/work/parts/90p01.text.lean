/-! the text of commands: a parser of the letters, and both readers' small parts -/
def numT (c : Int → Int) : Nat → Int → Int → Int × Int
  | 0, v, p => (v, p)
  | n + 1, v, p => if 0 < v ∧ 48 ≤ c p ∧ c p ≤ 57 then numT c n (10 * v + c p - 48) (p + 1) else (v, p)
def numP (c : Int → Int) (n : Nat) (p : Int) : Option Int × Int := if 48 ≤ c p ∧ c p ≤ 57 then (some (numT c (n - 1) (c p - 48) (p + 1)).1, (numT c (n - 1) (c p - 48) (p + 1)).2) else (none, p)
def wkP (c : Int → Int) (p b : Int) : Option Int × Int := if 48 ≤ c p ∧ c p ≤ 54 then (some (b + (c p - 48)), p + 1) else (none, p)
def mapP (r : Option Int × Int) (f : Int → Int) : Option Int × Int := (r.1.map f, r.2)
def dateP (c : Int → Int) (p : Int) : Option Int × Int := if c p = 108 then wkP c (p + 1) 500 else if c (p + 1) = 120 ∧ 49 ≤ c p ∧ c p ≤ 52 then wkP c (p + 2) (100 * (c p - 48)) else if c (p + 1) = 62 ∧ 48 ≤ c p ∧ c p ≤ 54 then mapP (numP c 2 (p + 2)) (fun m => 1000 + 10 * m + (c p - 48)) else mapP (numP c 5 p) (fun v => if v ≤ 31 then v else 0)
def clockP (c : Int → Int) (p : Int) : Option Int × Int := if c p = 119 then (some 0, p + 1) else if c p = 98 then (some 1, p + 1) else if c p = 105 then (some 2, p + 1) else (none, p)
def baseP (c : Int → Int) (p : Int) : Option Int × Int := if c p = 45 then mapP (numP c 5 (p + 1)) (fun v => -v) else numP c 5 p
/-- letters: none behind the end -/
def LT (c : Int → Int) (L : Int) : Prop := (0 ≤ L ∧ L ≤ 60) ∧ (∀ i, 0 ≤ i → i < L → 33 ≤ c i ∧ c i ≤ 126) ∧ ∀ i, L ≤ i → c i = 0
theorem LT.nz {c : Int → Int} {L i : Int} (h : LT c L) (hc : c i ≠ 0) : i < L := by
  by_cases q : i < L
  · exact q
  · exact absurd (h.2.2 i (by omega)) hc
theorem LT.rg {c : Int → Int} {L i : Int} (h : LT c L) (h0 : 0 ≤ i) : 0 ≤ c i ∧ c i ≤ 126 := by
  by_cases q : i < L
  · have := h.2.1 i h0 q; omega
  · rw [h.2.2 i (by omega)]; omega
/-- how far a part reaches -/
theorem numT_pos {c : Int → Int} {L : Int} (h : LT c L) : ∀ (n : Nat) (v p : Int), 0 ≤ v → p ≤ L → p ≤ (numT c n v p).2 ∧ (numT c n v p).2 ≤ L ∧ 0 ≤ (numT c n v p).1
  | 0, v, p, hv, hp => ⟨Int.le_refl _, hp, hv⟩
  | n + 1, v, p, hv, hp => by
    unfold numT
    by_cases q : 0 < v ∧ 48 ≤ c p ∧ c p ≤ 57
    · rw [if_pos q]
      have h1 := h.nz (i := p) (by omega)
      obtain ⟨a, b, d⟩ := numT_pos h n (10 * v + c p - 48) (p + 1) (by omega) (by omega)
      exact ⟨by omega, b, d⟩
    · rw [if_neg q]; exact ⟨Int.le_refl _, hp, hv⟩
/-- from p on, a part that stands has one letter at least; it ends in the text -/
def PO (c : Int → Int) (L p : Int) (r : Option Int × Int) : Prop := p ≤ r.2 ∧ r.2 ≤ L ∧ (r.1 ≠ none → p + 1 ≤ r.2)
theorem PO.map {c : Int → Int} {L p : Int} {r : Option Int × Int} {f : Int → Int} (h : PO c L p r) : PO c L p (mapP r f) := by
  refine ⟨h.1, h.2.1, fun q => h.2.2 (fun q2 => q ?_)⟩
  unfold mapP; rw [q2]; rfl
theorem PO.back {c : Int → Int} {L p q : Int} {r : Option Int × Int} (h : PO c L q r) (hq : p ≤ q) : PO c L p r := ⟨by have := h.1; omega, h.2.1, fun z => by have := h.2.2 z; omega⟩
theorem numP_pos {c : Int → Int} {L p : Int} {n : Nat} (h : LT c L) (hp : p ≤ L) : PO c L p (numP c n p) := by
  unfold numP
  by_cases q : 48 ≤ c p ∧ c p ≤ 57
  · rw [if_pos q]
    have h1 := h.nz (i := p) (by omega)
    obtain ⟨a, b, d⟩ := numT_pos h (n - 1) (c p - 48) (p + 1) (by omega) (by omega)
    exact ⟨by show p ≤ (numT c (n - 1) (c p - 48) (p + 1)).2; omega, b, fun _ => a⟩
  · rw [if_neg q]; exact ⟨Int.le_refl _, hp, fun z => absurd rfl z⟩
theorem wkP_pos {c : Int → Int} {L p b : Int} (h : LT c L) (hp : p ≤ L) : PO c L p (wkP c p b) := by
  unfold wkP
  by_cases q : 48 ≤ c p ∧ c p ≤ 54
  · rw [if_pos q]
    have h1 := h.nz (i := p) (by omega)
    exact ⟨by show p ≤ p + 1; omega, by show p + 1 ≤ L; omega, fun _ => Int.le_refl _⟩
  · rw [if_neg q]; exact ⟨Int.le_refl _, hp, fun z => absurd rfl z⟩
theorem dateP_pos {c : Int → Int} {L p : Int} (h : LT c L) (hp : p ≤ L) : PO c L p (dateP c p) := by
  unfold dateP
  by_cases q : c p = 108
  · rw [if_pos q]
    have h1 := h.nz (i := p) (by omega)
    exact (wkP_pos h (by omega)).back (by omega)
  · rw [if_neg q]
    by_cases q1 : c (p + 1) = 120 ∧ 49 ≤ c p ∧ c p ≤ 52
    · rw [if_pos q1]
      have h1 := h.nz (i := p + 1) (by omega)
      exact (wkP_pos h (by omega)).back (by omega)
    · rw [if_neg q1]
      by_cases q2 : c (p + 1) = 62 ∧ 48 ≤ c p ∧ c p ≤ 54
      · rw [if_pos q2]
        have h1 := h.nz (i := p + 1) (by omega)
        exact ((numP_pos h (by omega)).back (by omega)).map
      · rw [if_neg q2]; exact (numP_pos h hp).map
theorem clockP_pos {c : Int → Int} {L p : Int} (h : LT c L) (hp : p ≤ L) : PO c L p (clockP c p) := by
  unfold clockP
  have one : ∀ v : Int, c p ≠ 0 → PO c L p (some v, p + 1) := fun v hc => by
    have h1 := h.nz hc
    exact ⟨by show p ≤ p + 1; omega, by show p + 1 ≤ L; omega, fun _ => Int.le_refl _⟩
  by_cases q : c p = 119
  · rw [if_pos q]; exact one 0 (by omega)
  · rw [if_neg q]
    by_cases q : c p = 98
    · rw [if_pos q]; exact one 1 (by omega)
    · rw [if_neg q]
      by_cases q : c p = 105
      · rw [if_pos q]; exact one 2 (by omega)
      · rw [if_neg q]; exact ⟨Int.le_refl _, hp, fun z => absurd rfl z⟩
theorem baseP_pos {c : Int → Int} {L p : Int} (h : LT c L) (hp : p ≤ L) : PO c L p (baseP c p) := by
  unfold baseP
  by_cases q : c p = 45
  · rw [if_pos q]
    have h1 := h.nz (i := p) (by omega)
    exact ((numP_pos h (by omega)).back (by omega)).map
  · rw [if_neg q]; exact numP_pos h hp
/-! the class's reader -/
abbrev Bdv (v : Int) : Prop := -2000000 < v ∧ v < 2000000
def RdL (c : Int → Int) (M : jT) : Prop := LT c (M 601 0) ∧ ∀ i, 0 ≤ i → i < M 601 0 → M 602 i = c i
/-- the reader's small parts change its place and its error position alone -/
def FrC (M M' : jT) : Prop := (∀ a, a ≠ 601 → M' a = M a) ∧ ∀ b, b ≠ 2 → b ≠ 3 → M' 601 b = M 601 b
theorem FrC.rfl {M : jT} : FrC M M := ⟨fun _ _ => Eq.refl _, fun _ _ _ => Eq.refl _⟩
theorem FrC.trans {M M1 M2 : jT} (a : FrC M M1) (b : FrC M1 M2) : FrC M M2 := ⟨fun x h => (b.1 x h).trans (a.1 x h), fun x h h2 => (b.2 x h h2).trans (a.2 x h h2)⟩
theorem FrC.up {M M' M1 : jT} {j v : Int} (f : FrC M M') (hj : j = 2 ∨ j = 3) (h : ∀ a b, M1 a b = if a = 601 ∧ b = j then v else M' a b) : FrC M M1 :=
  ⟨fun a ha => by rw [← f.1 a ha]; funext b; rw [h, if_neg (by omega)], fun b h2 h3 => by rw [h, if_neg (by omega)]; exact f.2 b h2 h3⟩
theorem RdL.fr {c : Int → Int} {M M' : jT} (h : RdL c M) (f : FrC M M') : RdL c M' := by
  unfold RdL; rw [f.2 0 (by omega) (by omega), f.1 602 (by omega)]; exact h
theorem RdL.at {c : Int → Int} {M : jT} {i : Int} (h : RdL c M) (hi : 0 ≤ i ∧ i ≤ 1000) : pf_X6_letterAt M 601 i = c i ∧ pg_X6_letterAt M 601 i ∧ rg (c i) := by
  obtain ⟨⟨h1, h2, h3⟩, h4⟩ := h
  have hr : 0 ≤ c i ∧ c i ≤ 126 := LT.rg ⟨h1, h2, h3⟩ hi.1
  unfold pf_X6_letterAt pg_X6_letterAt
  simp only [Int.reduceAdd]
  refine ⟨?_, ⟨⟨by omega, by omega⟩, fun q => trivial, fun q => ⟨⟨by omega, by omega⟩, fun _ => trivial, fun q2 => ⟨fun _ => trivial, fun q3 => ⟨⟨by omega, q3⟩, ?_, trivial⟩⟩⟩⟩, ⟨by omega, by omega⟩⟩
  · rw [if_neg (by omega)]
    by_cases q : M 601 0 ≤ i
    · rw [if_pos q, h3 i q]
    · rw [if_neg q, if_neg (by omega), h4 i (by omega) (by omega)]
  · rw [h4 i (by omega) q2]
    exact ⟨by omega, by omega⟩
/-- a part read: its value and its end, or the error's place -/
def RO (M M' : jT) (r : Option Int × Int) (v : Int) : Prop := FrC M M' ∧ M' 601 3 = r.2 ∧ ((r.1 = some v ∧ M' 601 2 = M 601 2) ∨ (r.1 = none ∧ M' 601 2 = r.2))
theorem RO.map {M M' : jT} {r : Option Int × Int} {v : Int} {f : Int → Int} (h : RO M M' r v) : RO M M' (mapP r f) (f v) := by
  obtain ⟨h1, h2, h3⟩ := h
  refine ⟨h1, h2, ?_⟩
  rcases h3 with ⟨a, b⟩ | ⟨a, b⟩
  · left; unfold mapP; rw [a]; exact ⟨rfl, b⟩
  · right; unfold mapP; rw [a]; exact ⟨rfl, b⟩
theorem RO.pre {M M1 M' : jT} {r : Option Int × Int} {v : Int} (f : FrC M M1) (e : M1 601 2 = M 601 2) (h : RO M1 M' r v) : RO M M' r v := by
  obtain ⟨h1, h2, h3⟩ := h
  refine ⟨f.trans h1, h2, ?_⟩
  rw [← e]; exact h3
theorem c_number {c : Int → Int} {M : jT} {p a : Int} {n : Nat} {Q : Int → jT → Prop} (h : RdL c M) (hp : 0 ≤ p ∧ p ≤ 100) (hat : M 601 3 = p) (ha : a = n) (hn : 1 ≤ n ∧ n ≤ 5)
    (kk : ∀ v M', 0 ≤ v ∧ v ≤ 99999 → RO M M' (numP c n p) v → Q v M') : wp_X6_readNumber M 601 a Q := by
  subst ha
  unfold wp_X6_readNumber
  refine ⟨fun k v d M3 => FrC M M3 ∧ M3 601 2 = M 601 2 ∧ 0 ≤ d ∧ d ≤ n ∧ (n - d).toNat ≤ k ∧ M3 601 3 = p + d ∧ (0 ≤ v ∧ v ≤ 99999 ∧ (d = 0 → v = 0) ∧ (d ≤ 1 → v ≤ 9) ∧ (d ≤ 2 → v ≤ 99) ∧ (d ≤ 3 → v ≤ 999) ∧ (d ≤ 4 → v ≤ 9999)) ∧ (0 < d → (48 ≤ c p ∧ c p ≤ 57) ∧ numT c (n - d.toNat) v (p + d) = numT c (n - 1) (c p - 48) (p + 1)), ⟨n, FrC.rfl, rfl, by omega, by omega, by omega, by omega, ⟨by omega, by omega, by omega, by omega, by omega, by omega, by omega⟩, fun q => by omega⟩, ?_⟩
  rintro k v d M3 ⟨f, e2, d0, d1, dk, e3, ⟨v0, v5, w0, w1, w2, w3, w4⟩, hT⟩
  have hL := h.fr f
  obtain ⟨l1, l2, l3⟩ := hL.at (i := p + d) (by omega)
  rw [e3, l1]
  refine ⟨(d = n ∨ ¬ (48 ≤ c (p + d) ∧ c (p + d) ≤ 57) ∨ (d ≠ 0 ∧ v ≤ 0)), fun stop => ?_, ⟨by omega, by omega⟩, ⟨by omega, by omega⟩, fun q => Or.inl (by omega), fun q => ⟨l2, l3, fun q1 => Or.inr (Or.inl (by omega)), fun q1 => ⟨fun q2 => Or.inr (Or.inl (by omega)), fun q2 => ?_⟩⟩⟩
  · refine ⟨fun M34 => RO M M34 (numP c n p) v, fun M34 h34 => kk v M34 ⟨v0, v5⟩ h34, ⟨by omega, by omega⟩, fun dz => ?_, fun dz => up_in fun M38 h38 => ?_⟩
    · obtain ⟨g1, g2⟩ := hT (by omega)
      have e : numT c (n - d.toNat) v (p + d) = (v, p + d) := by
        by_cases c1 : n - d.toNat = 0
        · rw [c1]; rfl
        · obtain ⟨n', hn'⟩ : ∃ n', n - d.toNat = n' + 1 := ⟨n - d.toNat - 1, by omega⟩
          rw [hn']; unfold numT; rw [if_neg (by omega)]
      rw [e] at g2
      unfold numP
      rw [if_pos g1, ← g2]
      exact ⟨f, e3, Or.inl ⟨rfl, e2⟩⟩
    · subst dz
      have ev := w0 rfl
      rw [ev]
      have e : numP c n p = (none, p) := by
        unfold numP
        rw [Int.add_zero] at stop
        rw [if_neg (by omega)]
      rw [e]
      exact ⟨f.up (Or.inl rfl) h38, by rw [h38, if_neg (by omega)]; omega, Or.inr ⟨rfl, by rw [h38, if_pos ⟨rfl, rfl⟩]; omega⟩⟩
  · refine ⟨d = 0 ∨ 0 < v, fun go => ?_, fun q3 => Or.inl q3, fun q3 => ⟨⟨by omega, by omega⟩, fun q4 => Or.inr (Or.inr ⟨q3, q4⟩), fun q4 => Or.inr q4⟩⟩
    intro x56 e56 x57 e57
    refine up_in fun M58 h58 => ⟨(n - x57).toNat, by omega, f.up (Or.inr rfl) h58, by rw [h58, if_neg (by omega)]; exact e2, by omega, by omega, by omega, by rw [h58, if_pos ⟨rfl, rfl⟩]; omega, ⟨by omega, by omega, by omega, by omega, by omega, by omega, by omega⟩, fun _ => ?_⟩
    by_cases c1 : d = 0
    · subst c1
      have ev := w0 rfl
      rw [Int.add_zero] at q1 q2 e56
      refine ⟨⟨q1, q2⟩, ?_⟩
      rw [show n - x57.toNat = n - 1 by omega, show x56 = c p - 48 by omega, show p + x57 = p + 1 by omega]
    · obtain ⟨g1, g2⟩ := hT (by omega)
      refine ⟨g1, ?_⟩
      rw [← g2]
      obtain ⟨n', hn'⟩ : ∃ n', n - d.toNat = n' + 1 := ⟨n - d.toNat - 1, by omega⟩
      rw [hn', show n - x57.toNat = n' by omega]
      conv => rhs; unfold numT
      rw [if_pos ⟨by omega, q1, q2⟩, show x56 = 10 * v + c (p + d) - 48 by omega, show p + x57 = p + d + 1 by omega]
theorem c_base {c : Int → Int} {M : jT} {p : Int} {Q : Int → jT → Prop} (h : RdL c M) (hp : 0 ≤ p ∧ p ≤ 90) (hat : M 601 3 = p) (kk : ∀ v M', Bdv v → RO M M' (baseP c p) v → Q v M') : wp_X6_readBase M 601 Q := by
  unfold wp_X6_readBase
  obtain ⟨l1, l2, l3⟩ := h.at (i := p) (by omega)
  rw [hat, l1]
  refine ⟨l2, l3, fun q => up_in fun M6 h6 => ?_, fun q => ?_⟩
  · have f6 : FrC M M6 := FrC.rfl.up (Or.inr rfl) h6
    refine c_number (n := 5) (h.fr f6) (p := p + 1) (by omega) (by rw [h6, if_pos ⟨rfl, rfl⟩]) rfl (by omega) fun v M' hv hr => kk _ M' ⟨by omega, by omega⟩ ?_
    unfold baseP; rw [if_pos q]
    exact ((RO.pre f6 (by rw [h6, if_neg (by omega)]) hr).map (f := fun v => -v))
  · refine c_number (n := 5) h (by omega) hat rfl (by omega) fun v M' hv hr => kk v M' ⟨by omega, by omega⟩ ?_
    unfold baseP; rw [if_neg q]; exact hr
theorem c_weekday {c : Int → Int} {M : jT} {p b : Int} {Q : Int → jT → Prop} (h : RdL c M) (hp : 0 ≤ p ∧ p ≤ 90) (hat : M 601 3 = p) (kk : ∀ v M', 0 ≤ v ∧ v ≤ 6 → RO M M' (wkP c p b) (b + v) → Q v M') : wp_X6_readWeekday M 601 Q := by
  unfold wp_X6_readWeekday
  obtain ⟨l1, l2, l3⟩ := h.at (i := p) (by omega)
  have l4 := h.1.rg hp.1
  rw [hat, l1]
  refine ⟨l2, fun x4 e4 => ⟨¬ (48 ≤ c p ∧ c p ≤ 54), fun q => up_in fun M10 h10 => kk 0 M10 ⟨by omega, by omega⟩ ?_, ⟨by omega, by omega⟩, fun q => by omega, fun q => ⟨fun q2 => up_in fun M14 h14 => kk x4 M14 ⟨by omega, by omega⟩ ?_, fun q2 => by omega⟩⟩⟩
  · unfold wkP; rw [if_neg q]
    exact ⟨FrC.rfl.up (Or.inl rfl) h10, by rw [h10, if_neg (by omega)]; exact hat, Or.inr ⟨rfl, by rw [h10, if_pos ⟨rfl, rfl⟩]⟩⟩
  · unfold wkP; rw [if_pos (by omega)]
    exact ⟨FrC.rfl.up (Or.inr rfl) h14, by rw [h14, if_pos ⟨rfl, rfl⟩], Or.inl ⟨by rw [e4], by rw [h14, if_neg (by omega)]⟩⟩
theorem c_clock {c : Int → Int} {M : jT} {p : Int} {Q : Int → jT → Prop} (h : RdL c M) (hp : 0 ≤ p ∧ p ≤ 90) (hat : M 601 3 = p) (kk : ∀ v M', Bdv v → RO M M' (clockP c p) v → Q v M') : wp_X6_readClock M 601 Q := by
  unfold wp_X6_readClock
  obtain ⟨l1, l2, l3⟩ := h.at (i := p) (by omega)
  rw [hat, l1]
  refine ⟨l2, fun v => (0 ≤ v ∧ v ≤ 2) ∧ clockP c p = (some v, p + 1), fun x7 ⟨v7, h7⟩ => up_in fun M9 h9 => kk x7 M9 ⟨by omega, by omega⟩ ?_, l3, fun q => ?_, fun q => ?_, fun q => ?_, fun ⟨q1, q2, q3⟩ => up_in fun M12 h12 => kk 0 M12 ⟨by omega, by omega⟩ ?_⟩
  · rw [h7]
    exact ⟨FrC.rfl.up (Or.inr rfl) h9, by rw [h9, if_pos ⟨rfl, rfl⟩], Or.inl ⟨rfl, by rw [h9, if_neg (by omega)]⟩⟩
  · refine ⟨⟨by omega, by omega⟩, ?_⟩; unfold clockP; rw [if_neg (by omega), if_pos q]
  · refine ⟨⟨by omega, by omega⟩, ?_⟩; unfold clockP; rw [if_neg (by omega), if_neg (by omega), if_pos q]
  · refine ⟨⟨by omega, by omega⟩, ?_⟩; unfold clockP; rw [if_pos q]
  · unfold clockP; rw [if_neg q3, if_neg q1, if_neg q2]
    exact ⟨FrC.rfl.up (Or.inl rfl) h12, by rw [h12, if_neg (by omega)]; exact hat, Or.inr ⟨rfl, by rw [h12, if_pos ⟨rfl, rfl⟩]⟩⟩
