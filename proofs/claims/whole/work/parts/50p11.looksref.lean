/-! the reference looks at its line -/
def Fr1 (M M' : jT) : Prop := (∀ a, a ≠ 608 → (a < 616 ∨ 625 < a) → M' a = M a) ∧ (∀ b, b ≠ 14 → b ≠ 15 → b ≠ 18 → b ≠ 24 → b ≠ 28 → b ≠ 29 → b ≠ 30 → M' 608 b = M 608 b)
theorem Fr1.rfl {M : jT} : Fr1 M M := ⟨fun _ _ _ => Eq.refl _, fun _ _ _ _ _ _ _ _ => Eq.refl _⟩
theorem Fr1.trans {M M1 M2 : jT} (a : Fr1 M M1) (b : Fr1 M1 M2) : Fr1 M M2 := ⟨fun x h1 h2 => (b.1 x h1 h2).trans (a.1 x h1 h2), fun x h1 h2 h3 h4 h5 h6 h7 => (b.2 x h1 h2 h3 h4 h5 h6 h7).trans (a.2 x h1 h2 h3 h4 h5 h6 h7)⟩
/-- what the reference needs of a zone before it compiles it -/
def RZ (M : jT) (z : Int) (Z : Int → Int) : Prop := ZOk Z ∧ (0 ≤ z ∧ z < 6) ∧ ZR M z Z ∧ rg (M 608 14) ∧ (M 608 14 = z → Rl M Z)
theorem RZ.mv {M M' : jT} {z : Int} {Z : Int → Int} (h : RZ M z Z) (f : Fr1 M M') (h14 : M' 608 14 = z) (hl : Rl M' Z) : RZ M' z Z := by
  obtain ⟨a, b, c, d, e⟩ := h
  exact ⟨a, b, c.mv (f.1 609 (by omega) (by omega)), by rw [h14]; exact ⟨by omega, by omega⟩, fun _ => hl⟩
theorem sp_comp {M : jT} {z : Int} {Z : Int → Int} {Q : jT → Prop} (h : RZ M z Z) (kk : ∀ M', Fr1 M M' → M' 608 14 = z → Rl M' Z → RZ M' z Z → Q M') : wp_X11_compiles M 608 z Q := by
  refine sp_compiles h.1 h.2.1 h.2.2.1 h.2.2.2.1 h.2.2.2.2 (fun M' k1 k2 k3 k4 => ?_)
  have f : Fr1 M M' := ⟨k1, fun b b1 b2 b3 b4 b5 b6 b7 => k2 b b1 b2 b3 b4⟩
  exact kk M' f k3 k4 (h.mv f k3 k4)
theorem oI {M : jT} {z : Int} {Z : Int → Int} (h : RZ M z Z) (hl : Rl M Z) {k : Int} (k0 : 0 ≤ k) (k1 : k ≤ lm Z) : pg_X11_offsetIn M 608 z k ∧ pf_X11_offsetIn M 608 z k = lF Z k ∧ -720 ≤ lF Z k ∧ lF Z k ≤ 960 := by
  obtain ⟨ho, hz, hZ, hg, hc⟩ := h
  obtain ⟨l1, l2, l3, l4, l5, l6⟩ := hl
  obtain ⟨⟨m1, m2, m3, m4⟩, m5⟩ := LOk.of ho l2
  refine ⟨?_, ?_, m4 k k0 k1⟩
  · unfold pg_X11_offsetIn
    rw [zAt]
    exact ⟨⟨by omega, by omega⟩, fun c => ⟨by omega, trivial⟩, fun c => ⟨by omega, trivial⟩⟩
  · unfold pf_X11_offsetIn
    simp only [Int.reduceAdd]
    by_cases c : k = 0
    · rw [if_neg (by omega), zAt, c, m5]
      exact hZ.at' (i := 0) (by omega) (by omega)
    · rw [if_pos c, (l5 (k - 1) (by omega) (by unfold lm at k1; omega)).2.2.1, show k - 1 + 1 = k by omega]; rfl
theorem sp_offsetAt {M : jT} {z x : Int} {Z : Int → Int} {Q : Int → jT → Prop} (h : RZ M z Z) (hx : rg x) (kk : ∀ M', Fr1 M M' → M' 608 14 = z → Rl M' Z → RZ M' z Z → Q (lF Z (SP (lm Z) (lS Z) x)) M') : wp_X11_offsetAt M 608 z x Q := by
  unfold wp_X11_offsetAt
  simp only [Int.reduceAdd]
  refine sp_comp h (fun M' f h14 hl hz => ?_)
  have k := kk M' f h14 hl hz
  have hL := (LOk.of h.1 hl.2.1).1
  obtain ⟨p0, p1, p2, p3⟩ := SP_is hL x
  have hm := hL.1
  obtain ⟨l1, l2, l3, l4, l5, l6⟩ := id hl
  have l3 : M' 608 18 = lm Z := l3
  refine ⟨fun n i => 0 ≤ i ∧ i ≤ SP (lm Z) (lS Z) x ∧ (lm Z - i).toNat ≤ n, ⟨(lm Z).toNat, by omega, by omega, by omega⟩, ?_⟩
  rintro n5 x3 ⟨i1, i2, i3⟩
  rw [l3]
  refine ⟨x3 = SP (lm Z) (lS Z) x, fun e => ?_, ⟨by omega, by omega⟩, ⟨by omega, by omega⟩, fun c => by omega, fun c => ⟨by omega, ?_⟩⟩
  · obtain ⟨o1, o2, o3⟩ := oI hz hl i1 (by omega)
    rw [o2, e]; exact ⟨by rw [← e]; exact o1, k⟩
  · have hs : M' 618 x3 = lS Z x3 := (l5 x3 i1 c).1
    have hr := hL.2.2.1 x3 i1 c
    rw [hs]
    refine ⟨⟨by omega, by omega⟩, hx, fun c2 => ?_, fun c2 => ?_⟩
    · by_cases q : x3 = SP (lm Z) (lS Z) x
      · exact q
      · have := p2 x3 i1 (by omega); omega
    · intro x26 e26
      have : x3 ≠ SP (lm Z) (lS Z) x := fun q => by have := p3 x3 (by omega) c; omega
      exact ⟨(lm Z - x26).toNat, by omega, by omega, by omega, by omega⟩
theorem sp_finds {M : jT} {z l : Int} {Z : Int → Int} {Q : jT → Prop} (h : RZ M z Z) (hl : 0 ≤ l ∧ l ≤ 16832160)
    (kk : ∀ M', Fr1 M M' → M' 608 14 = z → Rl M' Z → RZ M' z Z → M' 608 30 = cN (lm Z) (lS Z) (lF Z) l → (0 < cN (lm Z) (lS Z) (lF Z) l → M' 608 28 = cF (lm Z) (lS Z) (lF Z) l ∧ M' 608 29 = cL (lm Z) (lS Z) (lF Z) l) → Q M') : wp_X11_finds M 608 z l Q := by
  unfold wp_X11_finds
  simp only [Int.reduceAdd]
  refine sp_comp h (fun M2 f2 h14 hl2 hz2 => ?_)
  have hL := (LOk.of h.1 hl2.2.1).1
  have hm := hL.1
  refine up_in fun M3 h3 => ?_
  refine ⟨fun n x M5 => ∃ k : Nat, x = k ∧ (k : Int) ≤ lm Z + 1 ∧ (lm Z + 1 - k).toNat ≤ n ∧ (∀ a, a ≠ 608 → M5 a = M2 a) ∧ (∀ b, b ≠ 28 → b ≠ 29 → b ≠ 30 → M5 608 b = M2 608 b) ∧ M5 608 30 = fc (lm Z) (lS Z) (lF Z) l k ∧ (0 < fc (lm Z) (lS Z) (lF Z) l k → M5 608 28 = ff (lm Z) (lS Z) (lF Z) l k ∧ M5 608 29 = fl' (lm Z) (lS Z) (lF Z) l k), ⟨(lm Z + 1).toNat, 0, rfl, by omega, by omega, (fun a ha => funext fun b => by rw [h3 a b, if_neg (by omega)]), fun b b1 b2 b3 => by rw [h3, if_neg (by omega)], by rw [h3, if_pos ⟨rfl, rfl⟩]; rfl, fun q => by simp [fc] at q⟩, ?_⟩
  rintro n7 x4 M5 ⟨k, rfl, k1, k2, F5, G5, e30, e28⟩
  have f5 : Fr1 M M5 := f2.trans ⟨fun a a1 a2 => F5 a a1, fun b b1 b2 b3 b4 b5 b6 b7 => G5 b b5 b6 b7⟩
  have e14 : M5 608 14 = z := by rw [G5 14 (by omega) (by omega) (by omega), h14]
  have hl5 : Rl M5 Z := hl2.mv (G5 15 (by omega) (by omega) (by omega)) (G5 18 (by omega) (by omega) (by omega)) (G5 24 (by omega) (by omega) (by omega)) (fun a _ _ => F5 a (by omega))
  have hz5 : RZ M5 z Z := h.mv f5 e14 hl5
  obtain ⟨l1, l2, l3, l4, l5, l6⟩ := id hl5
  have l3 : M5 608 18 = lm Z := l3
  rw [l3]
  refine ⟨⟨by omega, by omega⟩, ⟨by omega, by omega⟩, fun c => ?_, fun c => ?_⟩
  · have e : k = (lm Z).toNat + 1 := by omega
    exact kk M5 f5 e14 hl5 hz5 (by rw [e30, e]; rfl) (fun q => by rw [e] at e28; exact e28 q)
  · obtain ⟨o1, o2, o3⟩ := oI hz5 hl5 (k := k) (by omega) c
    have hn := fc_nn (m := lm Z) (s := lS Z) (f := lF Z) (l := l) k
    refine ⟨o1, ?_⟩
    rw [o2, e30]
    intro x14 ex
    refine ⟨fun M' => (∀ a, a ≠ 608 → M' a = M2 a) ∧ (∀ b, b ≠ 28 → b ≠ 29 → b ≠ 30 → M' 608 b = M2 608 b) ∧ M' 608 30 = fc (lm Z) (lS Z) (lF Z) l (k + 1) ∧ (0 < fc (lm Z) (lS Z) (lF Z) l (k + 1) → M' 608 28 = ff (lm Z) (lS Z) (lF Z) l (k + 1) ∧ M' 608 29 = fl' (lm Z) (lS Z) (lF Z) l (k + 1)), ?_, ?_⟩
    · rintro M' ⟨k1', k2', k3', k4'⟩
      intro x49 e49
      exact ⟨(lm Z + 1 - (k + 1)).toNat, by omega, k + 1, by omega, by omega, by omega, k1', k2', k3', k4'⟩
    · have hno : ¬ Hh (lm Z) (lS Z) (lF Z) l k → (∀ a, a ≠ 608 → M5 a = M2 a) ∧ (∀ b, b ≠ 28 → b ≠ 29 → b ≠ 30 → M5 608 b = M2 608 b) ∧ M5 608 30 = fc (lm Z) (lS Z) (lF Z) l (k + 1) ∧ (0 < fc (lm Z) (lS Z) (lF Z) l (k + 1) → M5 608 28 = ff (lm Z) (lS Z) (lF Z) l (k + 1) ∧ M5 608 29 = fl' (lm Z) (lS Z) (lF Z) l (k + 1)) := by
        intro q
        have := fc_skip (m := lm Z) (s := lS Z) (f := lF Z) (l := l) (a := k) 1 (fun j a b => by rw [show j = k by omega]; exact q)
        rw [this.1, this.2.1, this.2.2]
        exact ⟨F5, G5, e30, e28⟩
      refine ⟨(k : Int) = 0 ∨ lS Z ((k : Int) - 1) ≤ l - lF Z k, fun hA => ⟨(k : Int) = lm Z ∨ l - lF Z k < lS Z k, fun hB => ?_, fun c8 => Or.inl (by omega), fun c8 => ?_⟩, fun c8 => Or.inl (by omega), fun c8 => ?_⟩
      · have q : Hh (lm Z) (lS Z) (lF Z) l k := ⟨hA, hB⟩
        refine ⟨fun M' => (∀ a, a ≠ 608 → M' a = M2 a) ∧ (∀ b, b ≠ 28 → b ≠ 29 → b ≠ 30 → M' 608 b = M2 608 b) ∧ M' 608 30 = fc (lm Z) (lS Z) (lF Z) l k ∧ M' 608 28 = ff (lm Z) (lS Z) (lF Z) l (k + 1), ?_, ⟨by omega, by omega⟩, fun c9 => ?_, fun c9 => ?_⟩
        · rintro M' ⟨k1', k2', k3', k4'⟩
          refine up_in fun M68 h68 => up_in fun M69 h69 => ?_
          have g30 : M68 608 30 = fc (lm Z) (lS Z) (lF Z) l k := by rw [h68, if_neg (by omega), k3']
          rw [g30] at h69
          refine ⟨(fun a ha => by rw [← k1' a ha]; funext b; rw [h69, if_neg (by omega), h68, if_neg (by omega)]), fun b b1 b2 b3 => by rw [h69, if_neg (by omega), h68, if_neg (by omega)]; exact k2' b b1 b2 b3, ?_, fun _ => ⟨?_, ?_⟩⟩
          · rw [h69, if_pos ⟨rfl, rfl⟩]; simp only [fc]; rw [if_pos q]
          · rw [h69, if_neg (by omega), h68, if_neg (by omega), k4']
          · rw [h69, if_neg (by omega), h68, if_pos ⟨rfl, rfl⟩, ex]; simp only [fl']; rw [if_pos q]
        · refine ⟨F5, G5, e30, ?_⟩
          rw [(e28 (by omega)).1]; simp only [ff]; rw [if_neg (fun z => c9 z.2)]
        · refine up_in fun M72 h72 => ⟨(fun a ha => by rw [← F5 a ha]; funext b; rw [h72, if_neg (by omega)]), fun b b1 b2 b3 => by rw [h72, if_neg (by omega)]; exact G5 b b1 b2 b3, by rw [h72, if_neg (by omega), e30], ?_⟩
          rw [h72, if_pos ⟨rfl, rfl⟩, ex]; simp only [ff]; rw [if_pos ⟨q, c9⟩]
      · have hs : M5 618 k = lS Z k := (l5 k (by omega) c8).1
        have hr := hL.2.2.1 k (by omega) c8
        rw [hs]
        refine ⟨by omega, ⟨by omega, by omega⟩, ⟨by omega, by omega⟩, fun c9 => Or.inr (by omega), fun c9 => hno ?_⟩
        unfold Hh; omega
      · have hs : M5 618 ((k : Int) - 1) = lS Z ((k : Int) - 1) := (l5 _ (by omega) (show (k : Int) - 1 < lm Z by omega)).1
        have hr := hL.2.2.1 ((k : Int) - 1) (by omega) (by omega)
        rw [hs]
        refine ⟨by omega, ⟨by omega, by omega⟩, ⟨by omega, by omega⟩, fun c9 => hno ?_, fun c9 => Or.inr (by omega)⟩
        unfold Hh; omega
/-- the transition at which more than one instant begins -/
theorem fold_at {m l : Int} {s f : Int → Int} (hL : LOk m s f) (h : 1 < cN m s f l) : 0 ≤ SP m s (cF m s f l) ∧ SP m s (cF m s f l) < m ∧ cF m s f l < s (SP m s (cF m s f l)) ∧ s (SP m s (cF m s f l)) ≤ cL m s f l ∧ ∀ j, 0 ≤ j → j < SP m s (cF m s f l) → s j ≤ cF m s f l := by
  obtain ⟨p, q, h1, h2, h3, h4, h5, h6, h7, h8, h9⟩ := ff_sp (m := m) (s := s) (f := f) (l := l) (m.toNat + 1) (by unfold cN at h; omega)
  have hm := hL.1
  have hpq := h7 h
  have e1 : cF m s f l = l - f p := h5
  have e2 : cL m s f l = l - f q := h6
  have e3 : SP m s (cF m s f l) = p := by rw [e1]; exact SP_eq hL (by omega) h3.1 h3.2
  obtain ⟨p0, p1, p2, p3⟩ := SP_is hL (cF m s f l)
  rw [e3] at p2 ⊢
  rw [e1] at p2 ⊢
  rw [e2]
  refine ⟨by omega, by omega, ?_, ?_, p2⟩
  · have := h3.2; omega
  · have a : s ((q : Int) - 1) ≤ l - f q := by have := h4.1; omega
    by_cases c : (q : Int) - 1 = p
    · rw [c] at a; exact a
    · have := hL.2.1 p ((q : Int) - 1) (by omega) (by omega) (by omega); omega
theorem sp_causeOf {M : jT} {z l : Int} {Z : Int → Int} {Q : Int → jT → Prop} (h : RZ M z Z) (hl : 0 ≤ l ∧ l ≤ 16832160)
    (kk : ∀ M', Fr1 M M' → M' 608 14 = z → Rl M' Z → RZ M' z Z → M' 608 30 = cN (lm Z) (lS Z) (lF Z) l → (0 < cN (lm Z) (lS Z) (lF Z) l → M' 608 28 = cF (lm Z) (lS Z) (lF Z) l ∧ M' 608 29 = cL (lm Z) (lS Z) (lF Z) l) → Q (cS (lm Z) (lS Z) (lF Z) l) M') : wp_X11_causeOf M 608 z l Q := by
  unfold wp_X11_causeOf
  simp only [Int.reduceAdd]
  refine sp_finds h hl (fun M' f h14 hl' hz e30 e28 => ?_)
  have k := kk M' f h14 hl' hz e30 e28
  have hL := (LOk.of h.1 hl'.2.1).1
  have hm := hL.1
  have hc := cN_rng (l := l) hL
  obtain ⟨l1, l2, l3, l4, l5, l6⟩ := id hl'
  have l3 : M' 608 18 = lm Z := l3
  rw [e30]
  refine ⟨⟨by omega, by omega⟩, fun c => ?_, fun c => ?_⟩
  · have key : ∃ p : Nat, cS (lm Z) (lS Z) (lF Z) l = p ∧ (p : Int) < lm Z ∧ (cN (lm Z) (lS Z) (lF Z) l = 0 → Gp (lS Z) (lF Z) l p ∧ ∀ j : Nat, j < p → ¬ Gp (lS Z) (lF Z) l j) ∧ (1 < cN (lm Z) (lS Z) (lF Z) l → cF (lm Z) (lS Z) (lF Z) l < lS Z p ∧ lS Z p ≤ cL (lm Z) (lS Z) (lF Z) l ∧ ∀ j, 0 ≤ j → j < (p : Int) → lS Z j ≤ cF (lm Z) (lS Z) (lF Z) l) := by
      by_cases c0 : cN (lm Z) (lS Z) (lF Z) l = 0
      · obtain ⟨i, i1, i2, i3, i4⟩ := gap_ex hL c0
        refine ⟨i, ?_, i2, fun _ => ⟨i3, i4⟩, fun q => by omega⟩
        unfold cS; rw [if_pos c0]; exact i1
      · obtain ⟨a1, a2, a3, a4, a5⟩ := fold_at hL (l := l) (by omega)
        refine ⟨(SP (lm Z) (lS Z) (cF (lm Z) (lS Z) (lF Z) l)).toNat, ?_, by omega, fun q => absurd q c0, fun _ => ?_⟩
        · unfold cS; rw [if_neg c0, if_neg c]; omega
        · rw [Int.toNat_of_nonneg a1]; exact ⟨a3, a4, a5⟩
    obtain ⟨p, hp, p1, pg, pf⟩ := key
    rw [hp] at k
    refine ⟨fun n i => 0 ≤ i ∧ i ≤ p ∧ (lm Z - i).toNat ≤ n, ⟨(lm Z).toNat, by omega, by omega, by omega⟩, ?_⟩
    rintro n7 x5 ⟨i1, i2, i3⟩
    rw [l3]
    refine ⟨⟨by omega, by omega⟩, ⟨by omega, by omega⟩, fun c2 => by omega, fun c2 => ?_⟩
    have hs := l5 x5 i1 c2
    have hr := hL.2.2.1 x5 i1 c2
    have hf0 := hL.2.2.2 x5 i1 (by omega)
    have hf1 := hL.2.2.2 (x5 + 1) (by omega) (by omega)
    have s1 : M' 618 x5 = lS Z x5 := hs.1
    have s2 : M' 619 x5 = lF Z x5 := hs.2.1
    have s3 : M' 620 x5 = lF Z (x5 + 1) := hs.2.2.1
    rw [s1, s2, s3]
    refine ⟨⟨fun c3 => ?_, fun c3 => ?_⟩, fun c3 => ?_, fun c3 => ?_⟩
    · have := e28 (by omega)
      have := cF_rng hL hl (by omega)
      rw [(e28 (by omega)).1, (e28 (by omega)).2]
      exact ⟨by omega, ⟨by omega, by omega⟩, ⟨by omega, by omega⟩, fun _ => trivial, fun _ => ⟨⟨by omega, by omega⟩, fun _ => trivial, fun _ => trivial⟩⟩
    · exact ⟨by omega, ⟨by omega, by omega⟩, ⟨by omega, by omega⟩, fun _ => trivial, fun _ => ⟨⟨by omega, by omega⟩, fun _ => trivial, fun _ => trivial⟩⟩
    · intro x40 e40
      have : x5 ≠ p := by
        intro q
        apply c3
        rw [q]
        by_cases c0 : cN (lm Z) (lS Z) (lF Z) l = 0
        · exact Or.inr ⟨c0, (pg c0).1.1, (pg c0).1.2⟩
        · have a := pf (by omega)
          rw [(e28 (by omega)).1, (e28 (by omega)).2]
          exact Or.inl ⟨c0, a.1, a.2.1⟩
      exact ⟨(lm Z - x40).toNat, by omega, by omega, by omega, by omega⟩
    · have : x5 = p := by
        by_cases q : x5 = p
        · exact q
        · exfalso
          rcases c3 with ⟨b1, b2, b3⟩ | ⟨b1, b2, b3⟩
          · have a := (pf (by omega)).2.2 x5 i1 (by omega)
            rw [(e28 (by omega)).1] at b2
            omega
          · have a := (pg b1).2 x5.toNat (by omega)
            rw [Int.toNat_of_nonneg i1] at a
            exact a ⟨b2, b3⟩
      rw [this]; exact k
  · unfold cS at k; rw [if_neg (by omega), if_pos c] at k; exact k
theorem sp_tells {M : jT} {z l mode : Int} {Z : Int → Int} {Q : Int → jT → Prop} (h : RZ M z Z) (hl : 0 ≤ l ∧ l ≤ 16832160) (hmo : 0 ≤ mode ∧ mode ≤ 3)
    (kk : ∀ M' t, Fr1 M M' → M' 608 14 = z → Rl M' Z → RZ M' z Z → M' 608 30 = cN (lm Z) (lS Z) (lF Z) l → (t = 0 ∧ iO (lm Z) (lS Z) (lF Z) l mode = -1000000000 ∨ t = 1 ∧ M' 608 28 = iO (lm Z) (lS Z) (lF Z) l mode ∧ -960 ≤ iO (lm Z) (lS Z) (lF Z) l mode ∧ iO (lm Z) (lS Z) (lF Z) l mode ≤ 16833000) → Q t M') : wp_X11_tells M 608 z l mode Q := by
  unfold wp_X11_tells
  simp only [Int.reduceAdd]
  refine sp_causeOf h hl (fun M2 f2 h14 hl2 hz2 e30 e28 => ?_)
  have hL := (LOk.of h.1 hl2.2.1).1
  have hm := hL.1
  have hc := cN_rng (l := l) hL
  have hr := iO_rng (l := l) (mode := mode) hL hl hmo
  obtain ⟨l1, l2, l3, l4, l5, l6⟩ := id hl2
  refine ⟨¬ (mode = 3 ∧ cN (lm Z) (lS Z) (lF Z) l ≠ 1), fun hn => ?_, ⟨by omega, by omega⟩, fun c => by omega, fun c => ?_⟩
  · have hr2 : -960 ≤ iO (lm Z) (lS Z) (lF Z) l mode ∧ iO (lm Z) (lS Z) (lF Z) l mode ≤ 16833000 := by omega
    have fin : ∀ M' : jT, (∀ a, a ≠ 608 → M' a = M2 a) → (∀ b, b ≠ 28 → M' 608 b = M2 608 b) → M' 608 28 = iO (lm Z) (lS Z) (lF Z) l mode → Q 1 M' := by
      intro M' F G e
      have f' : Fr1 M M' := f2.trans ⟨fun a a1 a2 => F a a1, fun b b1 b2 b3 b4 b5 b6 b7 => G b b5⟩
      have e14 : M' 608 14 = z := by rw [G 14 (by omega), h14]
      have hl' : Rl M' Z := hl2.mv (G 15 (by omega)) (G 18 (by omega)) (G 24 (by omega)) (fun a _ _ => F a (by omega))
      exact kk M' 1 f' e14 hl' (h.mv f' e14 hl') (by rw [G 30 (by omega), e30]) (Or.inr ⟨rfl, e, hr2⟩)
    refine ⟨fun M' => (∀ a, a ≠ 608 → M' a = M2 a) ∧ (∀ b, b ≠ 28 → M' 608 b = M2 608 b) ∧ M' 608 28 = iO (lm Z) (lS Z) (lF Z) l mode, fun M' q => fin M' q.1 q.2.1 q.2.2, ?_⟩
    rw [e30]
    refine ⟨⟨by omega, by omega⟩, fun c => ⟨⟨by omega, by omega⟩, fun c2 => ?_, fun c2 => ?_⟩, fun c => ?_⟩
    · refine ⟨fun _ _ => rfl, fun _ _ => rfl, ?_⟩
      rw [(e28 (by omega)).1]
      unfold iO
      by_cases c3 : cN (lm Z) (lS Z) (lF Z) l = 1
      · rw [if_pos c3]
      · rw [if_neg c3, if_neg (by omega), if_pos (by omega), if_neg c2]
    · refine up_in fun M34 h34 => ⟨(fun a ha => funext fun b => by rw [h34 a b, if_neg (by omega)]), fun b b1 => by rw [h34, if_neg (by omega)], ?_⟩
      rw [h34, if_pos ⟨rfl, rfl⟩, (e28 (by omega)).2]
      unfold iO
      by_cases c3 : cN (lm Z) (lS Z) (lF Z) l = 1
      · rw [if_pos c3]
        obtain ⟨p, q, h1, h2, h3, h4, h5, h6, h7, h8, h9⟩ := ff_sp (m := lm Z) (s := lS Z) (f := lF Z) (l := l) ((lm Z).toNat + 1) (by unfold cN at c3; omega)
        have : p = q := h8 c3
        unfold cF cL; rw [h5, h6, this]
      · rw [if_neg c3, if_neg (by omega), if_pos (by omega), if_pos c2]
    · obtain ⟨i, i1, i2, i3, i4⟩ := gap_ex hL c
      have eS : cS (lm Z) (lS Z) (lF Z) l = i := by unfold cS; rw [if_pos c]; exact i1
      have eG : cG (lm Z) (lS Z) (lF Z) l = i := i1
      have hs := l5 i (by omega) i2
      have s1 : M2 618 i = lS Z i := hs.1
      have s2 : M2 619 i = lF Z i := hs.2.1
      have s3 : M2 620 i = lF Z ((i : Int) + 1) := hs.2.2.1
      rw [eS]
      refine ⟨⟨⟨by omega, by omega⟩, fun c2 => ⟨fun c3 => ⟨by omega, trivial⟩, fun c3 => ⟨by omega, trivial⟩⟩, fun c2 => ⟨by omega, trivial⟩⟩, ?_⟩
      intro x41 a1 a2 a3
      refine up_in fun M49 h49 => ⟨(fun a ha => funext fun b => by rw [h49 a b, if_neg (by omega)]), fun b b1 => by rw [h49, if_neg (by omega)], ?_⟩
      rw [h49, if_pos ⟨rfl, rfl⟩]
      rw [s1] at a1
      rw [s2] at a3
      rw [s3] at a2
      unfold iO
      rw [if_neg (by omega), if_neg (by omega), if_neg (by omega), eG]
      by_cases m2 : mode = 2
      · rw [if_pos m2]; exact a1 (by omega)
      · rw [if_neg m2]
        by_cases m1 : mode = 1
        · rw [a2 (by omega), m1]
        · rw [a3 (by omega), show mode = 0 by omega, Int.add_zero]
  · rw [e30]
    refine ⟨⟨by omega, by omega⟩, fun c2 => by omega, fun c2 => kk M2 0 f2 h14 hl2 hz2 e30 (Or.inl ⟨rfl, by omega⟩)⟩
theorem sp_begins {M : jT} {z d : Int} {Z : Int → Int} {Q : Int → jT → Prop} (h : RZ M z Z) (hd : 0 ≤ d ∧ d ≤ 11688)
    (kk : ∀ M', Fr1 M M' → M' 608 14 = z → Rl M' Z → RZ M' z Z → Q (iO (lm Z) (lS Z) (lF Z) (1440 * d) 2) M') : wp_X11_begins M 608 z d Q := by
  unfold wp_X11_begins
  refine sp_tells h (by omega) (by omega) (fun M' t f h14 hl hz e30 ht => ?_)
  have hL := (LOk.of h.1 hl.2.1).1
  have hr := iO_rng (l := 1440 * d) (mode := 2) hL (by omega) (by omega)
  refine ⟨⟨⟨by omega, by omega⟩, fun _ => trivial, fun _ => trivial⟩, ?_⟩
  intro x5 a1 a2
  have : x5 = iO (lm Z) (lS Z) (lF Z) (1440 * d) 2 := by
    rcases ht with ⟨t0, t1⟩ | ⟨t0, t1, t2⟩
    · omega
    · rw [a2 (by omega), t1]
  rw [this]; exact kk M' f h14 hl hz
