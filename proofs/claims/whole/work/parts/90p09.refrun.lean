/-! the reference does a command -/
def ER (N N' : jT) : Prop := (∀ a, a ≠ 608 → a ≠ 609 → a ≠ 627 → N' a = N a) ∧ ∀ b, b ≠ 33 → N' 608 b = N 608 b
theorem ER.rfl {N : jT} : ER N N := ⟨fun _ _ _ _ => Eq.refl _, fun _ _ => Eq.refl _⟩
theorem ER.of {N N' : jT} (f : ∀ a, a ≠ 609 → N' a = N a) : ER N N' := ⟨fun a _ a2 _ => f a a2, fun b _ => by rw [f 608 (by omega)]⟩
theorem rs_cancelBy2 {M : jT} {m o : Int} {Q : Int → jT → Prop} (hA : AOk (M 609)) (hR : RC M) (rm : rg m) (ro : rg o)
    (k0 : ocK (M 609) m o → ∀ M', ER M M' → M' 609 = mput (M 609) m (gC (msl (M 609) m) o) → Q (1 - msl (M 609) m (49 + o)) M')
    (k1 : ¬ ocK (M 609) m o → ∀ M', ER M M' → M' 609 = M 609 → Q (-1) M') : wp_X11_cancelBy M 608 m o Q := by
  have a2 := hA.2.1
  unfold wp_X11_cancelBy
  simp only [Int.reduceAdd]
  refine rc_isOccurrence hA hR rm ro (fun M2 hR2 f hb => ⟨⟨by omega, by omega⟩, fun q => by omega, fun _ => k1 (fun q => hb ⟨q.1.1, q.1.2, q.2.1, q.2.2⟩) M2 ⟨fun a a1 a2 a3 => f.1 a a1 a3, f.2⟩ (f.1 609 (by omega) (by omega))⟩) (fun M2 hR2 f hm ho _ => ⟨⟨by omega, by omega⟩, fun _ => ?_, fun q => by omega⟩)
  have hgo := (hA.2.2.2 m hm.1 hm.2).1
  have hn := nD_rng hgo
  intro x7 e7
  rw [mAt] at e7
  have e9 : M2 609 = M 609 := f.1 609 (by omega) (by omega)
  have ev : M 609 x7 = msl (M 609) m (49 + o) := by rw [msl_at (by omega), e7]; congr 1; omega
  rw [e9, ev]
  refine ⟨by omega, up_in fun M9 k9 => ?_⟩
  have F9 : ∀ a, a ≠ 609 → M9 a = M2 a := (fun a ha => funext fun b => by rw [k9 a b, if_neg (by omega)])
  rw [show M9 609 x7 = 1 - msl (M 609) m (49 + o) from by rw [k9, if_pos ⟨rfl, rfl⟩]]
  refine k0 ⟨hm, ho⟩ M9 ⟨fun a b1 b2 b3 => (F9 a b2).trans (f.1 a b1 b3), fun b hb => by rw [F9 608 (by omega)]; exact f.2 b hb⟩ (funext fun j => ?_)
  by_cases p0 : j < 404 + 89 * m ∨ 493 + 89 * m ≤ j
  · rw [k9, if_neg (by omega), e9, mput_n p0]
  · rw [mput_i (by omega)]
    by_cases q : j = x7
    · rw [k9, if_pos ⟨rfl, q⟩, show j - (404 + 89 * m) = 49 + o by omega, gC_o]
    · rw [k9, if_neg (by omega), e9, gC_n (by omega), msl_at (by omega)]; congr 1; omega
theorem r_does {N : jT} {w : Int} {l : List Int} {Q : Int → jT → Prop} (hA : AOk (N 609)) (hR : RC N) (hw : 0 ≤ w ∧ w < 5) (hl : l.length = mny w) (hit : ∀ j : Nat, j < l.length → N 615 j = vx w j (l.getD j 0) ∧ Bdv (l.getD j 0))
    (k1 : okC (N 609) w l → ∀ v N', 0 ≤ v ∧ rg v → ER N N' → N' 609 = nwC (N 609) w l → Q v N') (k0 : ¬ okC (N 609) w l → ∀ v N', v < 0 ∧ rg v → ER N N' → N' 609 = N 609 → Q v N') : wp_X11_does N 608 w Q := by
  have a1 := hA.1
  have a2 := hA.2.1
  unfold wp_X11_does
  simp only [Int.reduceAdd]
  unfold okC at k1 k0
  unfold nwC at k1
  have at' : ∀ (j : Nat) (x : Int), j < l.length → ¬ (w = 2 ∧ j = 4) → x = j → N 615 x = l.getD j 0 ∧ Bdv (l.getD j 0) := fun j x hj hn hx => by
    obtain ⟨h1, h2⟩ := hit j hj
    rw [hx, h1]; unfold vx; rw [if_neg (by omega)]; exact ⟨rfl, h2⟩
  refine ⟨⟨by omega, by omega⟩, fun q => ?_, fun q => ?_, fun q => ?_, fun q => ?_, fun q => ?_⟩
  · rw [if_pos q] at k1 k0
    rw [if_pos q] at k1
    have m1 : 1 = l.length := by rw [hl]; unfold mny; rw [if_pos q]
    obtain ⟨v0, b0⟩ := at' 0 0 (by omega) (by omega) rfl
    rw [v0]
    have hv := zoneF_v (N 609) (l.getD 0 0)
    exact rs_zoneBy hA ⟨by omega, by omega⟩ (fun hf M' f e => k1 hf _ M' ⟨by omega, by omega, by omega⟩ (ER.of f) e) (fun hf => k0 hf _ N ⟨by omega, by omega, by omega⟩ ER.rfl rfl)
  · have q0 : ¬ w = 0 := by omega
    rw [if_neg q0, if_pos q] at k1 k0
    rw [if_neg q0, if_pos q] at k1
    have m1 : 3 = l.length := by rw [hl]; unfold mny; rw [if_neg q0, if_pos q]
    obtain ⟨v0, b0⟩ := at' 0 0 (by omega) (by omega) rfl
    obtain ⟨v1, b1⟩ := at' 1 1 (by omega) (by omega) rfl
    obtain ⟨v2, b2⟩ := at' 2 2 (by omega) (by omega) rfl
    rw [v0, v1, v2]
    have hv : 0 ≤ baseF (N 609) (l.getD 0 0) (l.getD 1 0) (l.getD 2 0) ∧ baseF (N 609) (l.getD 0 0) (l.getD 1 0) (l.getD 2 0) ≤ 3 := by unfold baseF; (repeat' split) <;> omega
    refine rs_baseBy hA ⟨by omega, by omega⟩ ⟨by omega, by omega⟩ ⟨by omega, by omega⟩ (fun hf M' f e => ?_) (fun hf => k0 hf _ N ⟨by omega, by omega, by omega⟩ ER.rfl rfl)
    have hz := (baseF_0 hf)
    have hZ := (hA.2.2.1 _ hz.1.1 hz.1.2).2.2.1
    exact k1 hf _ M' ⟨by omega, by omega, by omega⟩ (ER.of f) e
  · have q0 : ¬ w = 0 := by omega
    have q1 : ¬ w = 1 := by omega
    rw [if_neg q0, if_neg q1, if_pos q] at k1 k0
    rw [if_neg q0, if_neg q1, if_pos q] at k1
    have m1 : 8 = l.length := by rw [hl]; unfold mny; rw [if_neg q0, if_neg q1, if_pos q]
    obtain ⟨v0, b0⟩ := at' 0 0 (by omega) (by omega) rfl
    obtain ⟨v1, b1⟩ := at' 1 1 (by omega) (by omega) rfl
    obtain ⟨v2, b2⟩ := at' 2 2 (by omega) (by omega) rfl
    obtain ⟨v3, b3⟩ := at' 3 3 (by omega) (by omega) rfl
    obtain ⟨v5, b5⟩ := at' 5 5 (by omega) (by omega) rfl
    obtain ⟨v6, b6⟩ := at' 6 6 (by omega) (by omega) rfl
    obtain ⟨v7, b7⟩ := at' 7 7 (by omega) (by omega) rfl
    obtain ⟨w4, b4⟩ := hit 4 (by omega)
    have v4 : N 615 4 = fixD (l.getD 4 0) := by
      have e : ((4 : Nat) : Int) = 4 := rfl
      rw [e] at w4; rw [w4]; unfold vx; rw [if_pos ⟨q, rfl⟩]
    rw [v0, v1, v2, v3, v4, v5, v6, v7]
    have b4' : Bdv (fixD (l.getD 4 0)) := by unfold fixD; split <;> exact ⟨by omega, by omega⟩
    have no : ¬ ((2000 ≤ l.getD 1 0 ∧ l.getD 1 0 ≤ 2031) ∧ (2000 ≤ l.getD 2 0 ∧ l.getD 2 0 ≤ 2031)) → Q (-2) N := fun z => k0 (fun z2 => z z2.1) _ N ⟨by omega, by omega, by omega⟩ ER.rfl rfl
    have pg : ∀ x : Int, Bdv x → pg_X11_in x 2000 2031 := fun x hx => by
      unfold pg_X11_in
      exact ⟨⟨by omega, by omega⟩, ⟨by omega, by omega⟩, fun _ => trivial, fun _ => ⟨⟨by omega, by omega⟩, fun _ => trivial, fun _ => trivial⟩⟩
    refine ⟨pg _ b1, ¬ ((2000 ≤ l.getD 1 0 ∧ l.getD 1 0 ≤ 2031) ∧ (2000 ≤ l.getD 2 0 ∧ l.getD 2 0 ≤ 2031)), no, fun z z2 => z z2.1, fun z => ⟨pg _ b2, fun z2 => ?_, fun z2 z3 => z2 z3.2⟩⟩
    have z : 2000 ≤ l.getD 1 0 ∧ l.getD 1 0 ≤ 2031 := z
    have z2 : 2000 ≤ l.getD 2 0 ∧ l.getD 2 0 ≤ 2031 := z2
    have eY : 100 * (l.getD 1 0 - 2000) + l.getD 2 0 - 2000 = ruY l := by unfold ruY; omega
    have eT : 10 * l.getD 5 0 + l.getD 6 0 = ruT l := rfl
    have rY : rg (ruY l) := by rw [← eY]; exact ⟨by omega, by omega⟩
    have rT : rg (ruT l) := by rw [← eT]; exact ⟨by omega, by omega⟩
    rw [eY, eT]
    have hv := ruleF_v (N 609) (l.getD 0 0) (ruY l) (l.getD 3 0) (l.getD 4 0) (ruT l) (l.getD 7 0)
    refine rs_ruleBy hA ⟨by omega, by omega⟩ rY ⟨by omega, by omega⟩ ⟨by omega, by omega⟩ rT ⟨by omega, by omega⟩ (fun hf M' f e => ?_) (fun hf => ?_)
    · rw [ruleF_fix] at hf
      have hz := (ruleF_0 hf)
      have hZ := (hA.2.2.1 _ hz.1.1 hz.1.2).2.1
      refine k1 ⟨⟨z, z2⟩, hf⟩ _ M' ⟨by omega, by omega, by omega⟩ (ER.of f) ?_
      rw [e, fixD_ok.1 hz.2.1.2.2.1]
    · rw [ruleF_fix] at hf ⊢
      exact k0 (fun y => hf y.2) _ N ⟨by omega, by omega, by omega⟩ ER.rfl rfl
  · have q0 : ¬ w = 0 := by omega
    have q1 : ¬ w = 1 := by omega
    have q2 : ¬ w = 2 := by omega
    rw [if_neg q0, if_neg q1, if_neg q2, if_pos q] at k1 k0
    rw [if_neg q0, if_neg q1, if_neg q2, if_pos q] at k1
    have m1 : 2 = l.length := by rw [hl]; unfold mny; rw [if_neg q0, if_neg q1, if_neg q2]
    obtain ⟨v0, b0⟩ := at' 0 0 (by omega) (by omega) rfl
    obtain ⟨v1, b1⟩ := at' 1 1 (by omega) (by omega) rfl
    rw [v0, v1]
    have hv : 0 ≤ dropF (N 609) (l.getD 0 0) (l.getD 1 0) ∧ dropF (N 609) (l.getD 0 0) (l.getD 1 0) ≤ 1 := by unfold dropF; split <;> omega
    refine rs_dropBy hA ⟨by omega, by omega⟩ ⟨by omega, by omega⟩ (fun hf M' f e => ?_) (fun hf => k0 hf _ N ⟨by omega, by omega, by omega⟩ ER.rfl rfl)
    have hz := dropF_0 hf
    have hZ := (hA.2.2.1 _ hz.1.1 hz.1.2).2.1
    exact k1 hf _ M' ⟨by omega, by omega, by omega⟩ (ER.of f) e
  · obtain ⟨q0, q1, q2, q3⟩ := q
    rw [if_neg q0, if_neg q1, if_neg q2, if_neg q3] at k1 k0
    rw [if_neg q0, if_neg q1, if_neg q2, if_neg q3] at k1
    have m1 : 2 = l.length := by rw [hl]; unfold mny; rw [if_neg q0, if_neg q1, if_neg q2]
    obtain ⟨v0, b0⟩ := at' 0 0 (by omega) (by omega) rfl
    obtain ⟨v1, b1⟩ := at' 1 1 (by omega) (by omega) rfl
    rw [v0, v1]
    refine rs_cancelBy2 hA hR ⟨by omega, by omega⟩ ⟨by omega, by omega⟩ (fun hk M' f e => ?_) (fun hk M' f e => k0 hk _ M' ⟨by omega, by omega, by omega⟩ f e)
    obtain ⟨hm, ho⟩ := hk
    obtain ⟨hgo, z0, z1⟩ := hA.2.2.2 _ hm.1 hm.2
    have hn := nD_rng hgo
    have b := hgo.2.2.2.2.2.2.2.2.2 (l.getD 1 0) ho.1 (by omega)
    exact k1 ⟨hm, ho⟩ _ M' ⟨by omega, by omega, by omega⟩ f e
/-! many commands -/
def okAll (A : Int → Int) : List TCm → Prop
  | [] => True
  | (_, w, l) :: t => okC A w l ∧ okAll (nwC A w l) t
noncomputable def endA (A : Int → Int) : List TCm → (Int → Int)
  | [] => A
  | (_, w, l) :: t => endA (nwC A w l) t
theorem okAll_app {A : Int → Int} : ∀ {t : List TCm} {p w : Int} {l : List Int}, okAll A t → okC (endA A t) w l → okAll A (t ++ [(p, w, l)]) ∧ endA A (t ++ [(p, w, l)]) = nwC (endA A t) w l
  | [], p, w, l, _, h => ⟨⟨h, trivial⟩, rfl⟩
  | (p', w', l') :: t, p, w, l, h1, h2 => by
    have := okAll_app (A := nwC A w' l') (t := t) (p := p) h1.2 h2
    exact ⟨⟨h1.1, this.1⟩, this.2⟩
theorem endA_ok {A : Int → Int} : ∀ {t : List TCm}, AOk A → okAll A t → AOk (endA A t)
  | [], h, _ => h
  | (_, w, l) :: t, h, h2 => endA_ok (t := t) (nwC_ok h h2.1) h2.2
/-- where the carrying out fails -/
def FailAt (A : Int → Int) (t : List TCm) (p : Int) : Prop := ∃ (t1 t2 : List TCm) (w : Int) (l : List Int), t = t1 ++ (p, w, l) :: t2 ∧ okAll A t1 ∧ ¬ okC (endA A t1) w l
theorem FailAt.app {A : Int → Int} {t : List TCm} {p : Int} {x : List TCm} (h : FailAt A t p) : FailAt A (t ++ x) p := by
  obtain ⟨t1, t2, w, l, h1, h2, h3⟩ := h
  exact ⟨t1, t2 ++ x, w, l, by rw [h1]; simp, h2, h3⟩
