/-! the reference's reader: small parts -/
def RdR (c : Int → Int) (N : jT) : Prop := LT c (N 608 8) ∧ ∀ i, 0 ≤ i → i < N 608 8 → N 613 i = c i
def FrR (N N' : jT) : Prop := (∀ a, a ≠ 608 → N' a = N a) ∧ ∀ b, b ≠ 9 → N' 608 b = N 608 b
theorem FrR.rfl {N : jT} : FrR N N := ⟨fun _ _ => Eq.refl _, fun _ _ => Eq.refl _⟩
theorem FrR.up {N N' N1 : jT} {v : Int} (f : FrR N N') (h : ∀ a b, N1 a b = if a = 608 ∧ b = 9 then v else N' a b) : FrR N N1 :=
  ⟨fun a ha => by rw [← f.1 a ha]; funext b; rw [h, if_neg (by omega)], fun b hb => by rw [h, if_neg (by omega)]; exact f.2 b hb⟩
theorem FrR.trans {N N1 N2 : jT} (a : FrR N N1) (b : FrR N1 N2) : FrR N N2 := ⟨fun x h => (b.1 x h).trans (a.1 x h), fun x h => (b.2 x h).trans (a.2 x h)⟩
theorem RdR.fr {c : Int → Int} {N N' : jT} (h : RdR c N) (f : FrR N N') : RdR c N' := by
  unfold RdR; rw [f.2 8 (by omega), f.1 613 (by omega)]; exact h
theorem RdR.here {c : Int → Int} {N : jT} {p : Int} (h : RdR c N) (hp : 0 ≤ p ∧ p ≤ 1000) (hat : N 608 9 = p) : pf_X11_here N 608 = c p ∧ pg_X11_here N 608 ∧ rg (c p) := by
  obtain ⟨⟨h1, h2, h3⟩, h4⟩ := h
  have hr : 0 ≤ c p ∧ c p ≤ 126 := LT.rg ⟨h1, h2, h3⟩ hp.1
  unfold pf_X11_here pg_X11_here
  simp only [Int.reduceAdd]
  rw [hat]
  refine ⟨?_, ⟨⟨by omega, by omega⟩, ⟨by omega, by omega⟩, fun _ => trivial, fun q => ⟨⟨hp.1, by omega⟩, trivial⟩⟩, ⟨by omega, by omega⟩⟩
  by_cases q : N 608 8 ≤ p
  · rw [if_pos q, h3 p q]
  · rw [if_neg q, h4 p hp.1 (by omega)]
theorem r_dig {c : Int → Int} {N : jT} {p lo hi : Int} (h : RdR c N) (hp : 0 ≤ p ∧ p ≤ 1000) (hat : N 608 9 = p) (hl : 0 ≤ lo ∧ lo ≤ 9) (hh : 0 ≤ hi ∧ hi ≤ 9) : pg_X11_isDigit N 608 lo hi ∧ (pb_X11_isDigit N 608 lo hi ↔ (48 + lo ≤ c p ∧ c p ≤ 48 + hi)) := by
  obtain ⟨h1, h2, h3⟩ := h.here hp hat
  refine ⟨?_, ?_⟩
  · unfold pg_X11_isDigit pg_X11_in
    rw [h1]
    exact ⟨h2, ⟨h3, ⟨by omega, by omega⟩, fun _ => trivial, fun _ => ⟨⟨by omega, by omega⟩, fun _ => trivial, fun _ => trivial⟩⟩, trivial⟩
  · show (48 + lo ≤ pf_X11_here N 608 ∧ pf_X11_here N 608 ≤ 48 + hi) ↔ _
    rw [h1]
theorem r_takes {c : Int → Int} {N : jT} {p a : Int} {Q : Int → jT → Prop} (h : RdR c N) (hp : 0 ≤ p ∧ p ≤ 1000) (hat : N 608 9 = p) (ra : rg a) (k1 : c p = a → ∀ N', FrR N N' → N' 608 9 = p + 1 → Q 1 N') (k0 : c p ≠ a → Q 0 N) : wp_X11_takes N 608 a Q := by
  obtain ⟨h1, h2, h3⟩ := h.here hp hat
  unfold wp_X11_takes
  rw [h1, hat]
  exact ⟨h2, h3, ra, fun q => up_in fun M7 k7 => k1 q M7 (FrR.rfl.up k7) (by rw [k7, if_pos ⟨rfl, rfl⟩]), fun q => k0 q⟩
theorem r_number {c : Int → Int} {N : jT} {p a : Int} {n : Nat} {Q : Int → jT → Prop} (h : RdR c N) (hp : 0 ≤ p ∧ p ≤ 100) (hat : N 608 9 = p) (ha : a = n) (hn : 1 ≤ n ∧ n ≤ 5)
    (kk : ∀ v N', FrR N N' → N' 608 9 = (numP c n p).2 → (((numP c n p).1 = some v ∧ 0 ≤ v ∧ v ≤ 99999) ∨ ((numP c n p).1 = none ∧ v = -1)) → Q v N') : wp_X11_number N 608 a Q := by
  subst ha
  have hL := h.1.1
  obtain ⟨g, e⟩ := r_dig h (p := p) (lo := 0) (hi := 9) (by omega) hat (by omega) (by omega)
  unfold wp_X11_number
  simp only [Int.reduceAdd]
  rw [hat]
  refine ⟨g, fun q => ?_, fun q => ?_⟩
  · have q := e.mp q
    have hlt := h.1.nz (i := p) (by omega)
    refine up_in fun M5 k5 => ⟨⟨hp.1, by omega⟩, fun x7 e7 => ?_⟩
    have f5 : FrR N M5 := FrR.rfl.up k5
    have v5 : M5 613 p = c p := by rw [f5.1 613 (by omega)]; exact h.2 p hp.1 hlt
    rw [v5] at e7
    refine ⟨fun k v d M10 => FrR N M10 ∧ 1 ≤ d ∧ d ≤ n ∧ (n - d).toNat ≤ k ∧ M10 608 9 = p + d ∧ (0 ≤ v ∧ v ≤ 99999 ∧ (d ≤ 1 → v ≤ 9) ∧ (d ≤ 2 → v ≤ 99) ∧ (d ≤ 3 → v ≤ 999) ∧ (d ≤ 4 → v ≤ 9999)) ∧ numT c (n - d.toNat) v (p + d) = numT c (n - 1) (c p - 48) (p + 1), ⟨n, f5, by omega, by omega, by omega, by rw [k5, if_pos ⟨rfl, rfl⟩], ⟨by omega, by omega, by omega, by omega, by omega, by omega⟩, by rw [e7]; rfl⟩, ?_⟩
    rintro k v d M10 ⟨f, d0, d1, dk, e3, ⟨v0, v5', w1, w2, w3, w4⟩, hT⟩
    have hR := h.fr f
    obtain ⟨g', e'⟩ := r_dig hR (p := p + d) (lo := 0) (hi := 9) (by omega) e3 (by omega) (by omega)
    rw [e3]
    refine ⟨(d = n ∨ v ≤ 0 ∨ ¬ (48 ≤ c (p + d) ∧ c (p + d) ≤ 57)), fun stop => ?_, ⟨by omega, by omega⟩, ⟨by omega, by omega⟩, fun q1 => Or.inl (by omega), fun q1 => ⟨⟨by omega, by omega⟩, fun q2 => Or.inr (Or.inl q2), fun q2 => ⟨g', fun q3 => Or.inr (Or.inr (fun z => q3 (e'.mpr ⟨by omega, by omega⟩))), fun q3 => ?_⟩⟩⟩
    · have e4 : numT c (n - d.toNat) v (p + d) = (v, p + d) := by
        by_cases c1 : n - d.toNat = 0
        · rw [c1]; rfl
        · obtain ⟨n', hn'⟩ : ∃ n', n - d.toNat = n' + 1 := ⟨n - d.toNat - 1, by omega⟩
          rw [hn']; unfold numT; rw [if_neg (by omega)]
      rw [e4] at hT
      have e5 : numP c n p = (some v, p + d) := by unfold numP; rw [if_pos (by omega), ← hT]
      exact kk v M10 f (by rw [e5]; exact e3) (Or.inl ⟨by rw [e5], v0, v5'⟩)
    · have q3 := e'.mp q3
      have hlt' := h.1.nz (i := p + d) (by omega)
      refine up_in fun M37 k37 => ⟨⟨by omega, by omega⟩, fun x39 e39 x40 e40 => ?_⟩
      have f37 : FrR N M37 := f.up k37
      have v37 : M37 613 (p + d) = c (p + d) := by rw [f37.1 613 (by omega)]; exact h.2 _ (by omega) hlt'
      rw [v37] at e39
      refine ⟨(n - x40).toNat, by omega, f37, by omega, by omega, by omega, by rw [k37, if_pos ⟨rfl, rfl⟩]; omega, ⟨by omega, by omega, by omega, by omega, by omega, by omega⟩, ?_⟩
      rw [← hT]
      obtain ⟨n', hn'⟩ : ∃ n', n - d.toNat = n' + 1 := ⟨n - d.toNat - 1, by omega⟩
      rw [hn', show n - x40.toNat = n' by omega]
      conv => rhs; unfold numT
      rw [if_pos ⟨by omega, by omega, by omega⟩, show x39 = 10 * v + c (p + d) - 48 by omega, show p + x40 = p + d + 1 by omega]
  · have e5 : numP c n p = (none, p) := by
      unfold numP; rw [if_neg (fun z => q (e.mpr ⟨by omega, by omega⟩))]
    exact kk (-1) N FrR.rfl (by rw [e5]; exact hat) (Or.inr ⟨by rw [e5], rfl⟩)
/-- an item read into its place -/
def FrI (N N' : jT) (i : Int) : Prop := (∀ a, a ≠ 608 → a ≠ 615 → N' a = N a) ∧ (∀ b, b ≠ 9 → N' 608 b = N 608 b) ∧ ∀ j, j ≠ i → N' 615 j = N 615 j
theorem FrI.rfl {N : jT} {i : Int} : FrI N N i := ⟨fun _ _ _ => Eq.refl _, fun _ _ => Eq.refl _, fun _ _ => Eq.refl _⟩
theorem FrR.i {N N' : jT} {i : Int} (f : FrR N N') : FrI N N' i := ⟨fun a a1 _ => f.1 a a1, f.2, fun j _ => by rw [f.1 615 (by omega)]⟩
theorem FrI.r {N N1 N2 : jT} {i : Int} (f : FrI N N1 i) (g : FrR N1 N2) : FrI N N2 i := ⟨fun a a1 a2 => (g.1 a a1).trans (f.1 a a1 a2), fun b hb => (g.2 b hb).trans (f.2.1 b hb), fun j hj => by rw [g.1 615 (by omega)]; exact f.2.2 j hj⟩
theorem FrI.up {N N1 N2 : jT} {i v : Int} (f : FrI N N1 i) (e : ∀ a b, N2 a b = if a = 615 ∧ b = i then v else N1 a b) : FrI N N2 i := ⟨fun a a1 a2 => by rw [← f.1 a a1 a2]; funext b; rw [e, if_neg (by omega)], fun b hb => by rw [e, if_neg (by omega)]; exact f.2.1 b hb, fun j hj => by rw [e, if_neg (by omega)]; exact f.2.2 j hj⟩
theorem RdR.fri {c : Int → Int} {N N' : jT} {i : Int} (h : RdR c N) (f : FrI N N' i) : RdR c N' := by
  unfold RdR; rw [f.2.1 8 (by omega), f.1 613 (by omega) (by omega)]; exact h
def fixD (v : Int) : Int := if 1000 ≤ v ∧ ((v - 1000) / 10 = 0 ∨ 31 < (v - 1000) / 10) then 0 else v
def IO (N N' : jT) (i : Int) (r : Option Int × Int) (fx : Int → Int) (b : Int) : Prop := FrI N N' i ∧ N' 608 9 = r.2 ∧ ((∃ v, r.1 = some v ∧ b = 1 ∧ N' 615 i = fx v) ∨ (r.1 = none ∧ b = 0))
theorem r_clock {c : Int → Int} {N : jT} {p i : Int} {Q : Int → jT → Prop} (h : RdR c N) (hp : 0 ≤ p ∧ p ≤ 90) (hat : N 608 9 = p) (hi : 0 ≤ i ∧ i < 8) (kk : ∀ b N', IO N N' i (clockP c p) (fun v => v) b → Q b N') : wp_X11_clock N 608 i Q := by
  obtain ⟨h1, h2, h3⟩ := h.here (by omega) hat
  unfold wp_X11_clock
  simp only [Int.reduceAdd]
  rw [h1]
  refine ⟨h2, ⟨h3, fun _ => ⟨fun _ => ⟨fun _ => trivial, fun _ => trivial⟩, fun _ => trivial⟩, fun _ => trivial⟩, fun x g0 g1 g2 g3 => ⟨hi, up_in fun M23 k23 => ?_⟩⟩
  have f23 : FrI N M23 i := FrI.rfl.up k23
  have a23 : M23 608 9 = p := by rw [f23.2.1 9 |> fun _ => k23 608 9, if_neg (by omega)]; exact hat
  have t23 : M23 615 i = x := by rw [k23, if_pos ⟨rfl, rfl⟩]
  rw [t23, a23]
  have hx : (clockP c p = (some x, p + 1) ∧ 0 ≤ x ∧ x ≤ 2) ∨ (clockP c p = (none, p) ∧ x = -1) := by
    unfold clockP
    by_cases q1 : c p = 119
    · rw [if_pos q1, g3 q1]; exact Or.inl ⟨rfl, by omega, by omega⟩
    · rw [if_neg q1]
      by_cases q2 : c p = 98
      · rw [if_pos q2, g2 ⟨q1, q2⟩]; exact Or.inl ⟨rfl, by omega, by omega⟩
      · rw [if_neg q2]
        by_cases q3 : c p = 105
        · rw [if_pos q3, g1 ⟨q1, q2, q3⟩]; exact Or.inl ⟨rfl, by omega, by omega⟩
        · rw [if_neg q3, g0 ⟨q1, q2, q3⟩]; exact Or.inr ⟨rfl, rfl⟩
  refine ⟨fun M27 => M27 615 i = x ∧ IO N M27 i (clockP c p) (fun v => v) (b2i (0 ≤ x)), fun M27 ⟨z1, z2⟩ => ?_, ⟨by omega, by omega⟩, fun q => ?_, fun q => up_in fun M37 k37 => ?_⟩
  · rw [z1]; exact ⟨⟨⟨by omega, by omega⟩, fun _ => trivial, fun _ => trivial⟩, kk _ M27 z2⟩
  · rcases hx with ⟨e1, e2, e3⟩ | ⟨e1, e2⟩
    · omega
    · rw [e1, b2i_f (by omega)]; exact ⟨t23, f23, a23, Or.inr ⟨rfl, rfl⟩⟩
  · rcases hx with ⟨e1, e2, e3⟩ | ⟨e1, e2⟩
    · have fR : FrR M23 M37 := FrR.rfl.up k37
      have t37 : M37 615 i = x := by rw [fR.1 615 (by omega)]; exact t23
      rw [e1, b2i_t q]; exact ⟨t37, f23.r fR, by rw [k37, if_pos ⟨rfl, rfl⟩], Or.inl ⟨x, rfl, rfl, t37⟩⟩
    · omega
theorem r_plain {c : Int → Int} {N : jT} {p i m : Int} {Q : Int → jT → Prop} (h : RdR c N) (hp : 0 ≤ p ∧ p ≤ 90) (hat : N 608 9 = p) (hi : 0 ≤ i ∧ i < 8) (hm : m = 0 ∨ m = 1) (kk : ∀ b N', IO N N' i (if m = 1 then baseP c p else numP c 5 p) (fun v => v) b → Q b N') : wp_X11_plain N 608 i m Q := by
  have core : ∀ (s : Int) (M16 : jT) (p' : Int), FrR N M16 → M16 608 9 = p' → 0 ≤ p' ∧ p' ≤ 91 → (s = 0 ∨ s = 1) → (if m = 1 then baseP c p else numP c 5 p) = (if s = 1 then mapP (numP c 5 p') (fun v => -v) else numP c 5 p') → wp_X11_number M16 608 5 (fun z18 M19 => (0 ≤ i ∧ i < 8) ∧ ∀ M21 : jT, M21 = up M19 (608 + 7) i z18 → rg (M21 (608 + 7) i) ∧ ((0 ≤ M21 (608 + 7) i → (∃ K28 : jT → Prop, (∀ (M27 : jT), K28 M27 → Q 1 M27) ∧ rg s ∧ ((s = 0 → K28 M21) ∧ (s ≠ 0 → (∀ M31 : jT, M31 = up M21 (608 + 7) i (-(M21 (608 + 7) i)) → K28 M31))))) ∧ (M21 (608 + 7) i < 0 → Q 0 M21))) := by
    intro s M16 p' f16 a16 hp' hs he
    simp only [Int.reduceAdd]
    refine r_number (n := 5) (h.fr f16) (p := p') (by omega) a16 rfl (by omega) fun v N' fN aN hv => ⟨hi, up_in fun M21 k21 => ?_⟩
    have f21 : FrI N M21 i := ((f16.trans fN).i).up k21
    have t21 : M21 615 i = v := by rw [k21, if_pos ⟨rfl, rfl⟩]
    have a21 : M21 608 9 = (numP c 5 p').2 := by rw [k21, if_neg (by omega)]; exact aN
    rw [t21]
    rcases hv with ⟨v1, v2, v3⟩ | ⟨v1, v2⟩
    · refine ⟨⟨by omega, by omega⟩, fun _ => ⟨fun M27 => Q 1 M27, fun M27 z => z, by rcases hs with rfl | rfl <;> exact ⟨by omega, by omega⟩, fun q => kk 1 M21 ?_, fun q => up_in fun M31 k31 => kk 1 M31 ?_⟩, fun q => by omega⟩
      · rw [he, if_neg (by omega)]
        exact ⟨f21, a21, Or.inl ⟨v, v1, rfl, t21⟩⟩
      · rw [he, if_pos (by omega)]
        refine ⟨f21.up k31, by rw [k31, if_neg (by omega)]; exact a21, Or.inl ⟨-v, by unfold mapP; rw [v1]; rfl, rfl, by rw [k31, if_pos ⟨rfl, rfl⟩]⟩⟩
    · refine ⟨⟨by omega, by omega⟩, fun q => by omega, fun _ => kk 0 M21 ?_⟩
      rw [he]
      refine ⟨f21, ?_, Or.inr ⟨?_, rfl⟩⟩
      · split
        · exact a21
        · exact a21
      · split
        · unfold mapP; rw [v1]; rfl
        · exact v1
  unfold wp_X11_plain
  refine ⟨fun s M16 => ∃ p', FrR N M16 ∧ M16 608 9 = p' ∧ (0 ≤ p' ∧ p' ≤ 91) ∧ (s = 0 ∨ s = 1) ∧ (if m = 1 then baseP c p else numP c 5 p) = (if s = 1 then mapP (numP c 5 p') (fun v => -v) else numP c 5 p'), fun s M16 ⟨p', z1, z2, z3, z4, z5⟩ => core s M16 p' z1 z2 z3 z4 z5, fun M38 => FrR N M38 ∧ M38 608 9 = p ∧ (m = 1 → c p ≠ 45), fun M38 ⟨z1, z2, z3⟩ => ⟨p, z1, z2, by omega, Or.inl rfl, ?_⟩, by rcases hm with rfl | rfl <;> exact ⟨by omega, by omega⟩, fun q => ⟨FrR.rfl, hat, fun z => by omega⟩, fun q => ?_⟩
  · rw [if_neg (show ¬ (0 : Int) = 1 by omega)]
    by_cases q : m = 1
    · rw [if_pos q]; unfold baseP; rw [if_neg (z3 q)]
    · rw [if_neg q]
  · have hm1 : m = 1 := by omega
    refine r_takes h (by omega) hat ⟨by omega, by omega⟩ (fun hc N' f' a' => ⟨⟨by omega, by omega⟩, fun z => by omega, fun _ => ⟨p + 1, f', a', by omega, Or.inr rfl, ?_⟩⟩) (fun hc => ⟨⟨by omega, by omega⟩, fun _ => ⟨FrR.rfl, hat, fun _ => hc⟩, fun z => absurd rfl z⟩)
    rw [if_pos hm1, if_pos rfl]; unfold baseP; rw [if_pos hc]
