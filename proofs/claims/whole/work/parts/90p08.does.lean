/-! what a command does, on both sides -/
theorem fixD_ok {d : Int} : (dtOk d → fixD d = d) ∧ (dtOk (fixD d) ↔ dtOk d) := by
  unfold fixD dtOk
  by_cases q : 1000 ≤ d ∧ ((d - 1000) / 10 = 0 ∨ 31 < (d - 1000) / 10)
  · rw [if_pos q]; refine ⟨fun h => ?_, ?_⟩ <;> omega
  · rw [if_neg q]; exact ⟨fun _ => rfl, Iff.rfl⟩
theorem ruleF_fix (A : Int → Int) (z y m d t s : Int) : ruleF A z y m (fixD d) t s = ruleF A z y m d t s := by
  have h : okR y m (fixD d) t s ↔ okR y m d t s := by unfold okR; rw [fixD_ok.2]
  unfold ruleF
  by_cases c : 0 ≤ z ∧ z < A 0
  · rw [if_pos c, if_pos c]
    by_cases q : okR y m d t s
    · rw [if_pos q, if_pos (h.mpr q)]
    · rw [if_neg q, if_neg (fun z => q (h.mp z))]
  · rw [if_neg c, if_neg c]
def ruY (l : List Int) : Int := 100 * (l.getD 1 0 - 2000) + (l.getD 2 0 - 2000)
def ruT (l : List Int) : Int := 10 * l.getD 5 0 + l.getD 6 0
def okC (A : Int → Int) (w : Int) (l : List Int) : Prop :=
  if w = 0 then zoneF A (l.getD 0 0) = 0 else if w = 1 then baseF A (l.getD 0 0) (l.getD 1 0) (l.getD 2 0) = 0
  else if w = 2 then ((2000 ≤ l.getD 1 0 ∧ l.getD 1 0 ≤ 2031) ∧ (2000 ≤ l.getD 2 0 ∧ l.getD 2 0 ≤ 2031)) ∧ ruleF A (l.getD 0 0) (ruY l) (l.getD 3 0) (l.getD 4 0) (ruT l) (l.getD 7 0) = 0
  else if w = 3 then dropF A (l.getD 0 0) (l.getD 1 0) = 0 else ocK A (l.getD 0 0) (l.getD 1 0)
noncomputable def nwC (A : Int → Int) (w : Int) (l : List Int) : Int → Int :=
  if w = 0 then nZone A (l.getD 0 0) else if w = 1 then zput A (l.getD 0 0) (zB (zsl A (l.getD 0 0)) (l.getD 1 0) (l.getD 2 0))
  else if w = 2 then zput A (l.getD 0 0) (zR (zsl A (l.getD 0 0)) (w7 (ruY l) (l.getD 3 0) (l.getD 4 0) (ruT l) (l.getD 7 0)))
  else if w = 3 then zput A (l.getD 0 0) (zD (zsl A (l.getD 0 0)) (l.getD 1 0)) else mput A (l.getD 0 0) (gC (msl A (l.getD 0 0)) (l.getD 1 0))
theorem nwC_ok {A : Int → Int} {w : Int} {l : List Int} (hA : AOk A) (h : okC A w l) : AOk (nwC A w l) := by
  unfold okC at h
  unfold nwC
  by_cases q0 : w = 0
  · rw [if_pos q0] at h ⊢
    obtain ⟨b1, b2⟩ := zoneF_0 h
    exact nZone_ok hA b1 b2
  rw [if_neg q0] at h ⊢
  by_cases q1 : w = 1
  · rw [if_pos q1] at h ⊢
    obtain ⟨hz, hd, hb, h4⟩ := baseF_0 h
    have hZ := hA.2.2.1 _ hz.1 hz.2
    have b2 := hZ.2.2.1
    refine zput_ok hA hz (fun i hi => ?_) (zB_ok hZ hd hb h4)
    unfold zB; rw [if_neg (by omega), if_neg (by omega), if_neg (by omega)]; exact zsl_o hi
  rw [if_neg q1] at h ⊢
  by_cases q2 : w = 2
  · rw [if_pos q2] at h ⊢
    obtain ⟨hz, ok, h8⟩ := ruleF_0 h.2
    have hZ := hA.2.2.1 _ hz.1 hz.2
    have b1 := hZ.2.1
    refine zput_ok hA hz (fun i hi => ?_) (zR_ok hZ h8 ok)
    unfold zR; rw [if_neg (by omega), if_neg (by omega)]; exact zsl_o hi
  rw [if_neg q2] at h ⊢
  by_cases q3 : w = 3
  · rw [if_pos q3] at h ⊢
    obtain ⟨hz, hr⟩ := dropF_0 h
    have hZ := hA.2.2.1 _ hz.1 hz.2
    have b1 := hZ.2.1
    refine zput_ok hA hz (fun i hi => ?_) (zD_ok hZ hr)
    unfold zD; rw [if_neg (by omega), if_neg (by omega)]; exact zsl_o hi
  rw [if_neg q3] at h ⊢
  obtain ⟨hm, ho⟩ := h
  obtain ⟨hgo, z0, z1⟩ := hA.2.2.2 _ hm.1 hm.2
  have hn := nD_rng hgo
  exact mput_ok hA hm (gC_z (by omega) (fun i hi => msl_o hi)) (gC_ok (by omega) hgo) (by rw [gC_n (by omega)]; exact ⟨z0, z1⟩)
/-- the class carries a command out -/
def EF (M M' : jT) : Prop := ∀ a, (a < 1 ∨ 47 < a) → (a < 521 ∨ 601 ≤ a) → a ≠ 606 → M' a = M a
theorem PF.ef {M M' : jT} (f : PF M M') : EF M M' := fun a a1 a2 _ => f a a1 (by omega)
theorem CFr.ef {M M' : jT} (f : CFr M M') : EF M M' := fun a _ a2 a3 => f a (by omega)
theorem EF.trans {M M1 M2 : jT} (a : EF M M1) (b : EF M1 M2) : EF M M2 := fun x h1 h2 h3 => (b x h1 h2 h3).trans (a x h1 h2 h3)
theorem EF.rfl {M : jT} : EF M M := fun _ _ _ _ => Eq.refl _
theorem Row.it {M : jT} {r p w : Int} {l : List Int} (h : Row M r p w l) {j : Nat} (hj : j < l.length) {x : Int} (hx : x = r + 2 + j) : M 603 x = l.getD j 0 ∧ Bdv (l.getD j 0) := by
  rw [hx]; exact h.2.2.2.2 j hj
theorem c_does {M : jT} {A : Int → Int} {k p w : Int} {l : List Int} {Q : Int → jT → Prop} (h : CA M A) (hrow : Row M (10 * k) p w l) (hk : 0 ≤ k ∧ k ≤ 8)
    (k1 : okC A w l → ∀ M', EF M M' → CA M' (nwC A w l) → Q 1 M') (k0 : ¬ okC A w l → ∀ M', EF M M' → CA M' A → Q 0 M') : wp_X10_carryOut M 0 k Q := by
  have hA := h.1
  have a1 := hA.1
  have a2 := hA.2.1
  obtain ⟨r0, r1, hw, hl, hit⟩ := hrow
  have hrow : Row M (10 * k) p w l := ⟨r0, r1, hw, hl, hit⟩
  obtain ⟨n1, n2, n3⟩ := kd_ok hw
  unfold wp_X10_carryOut pf_X6_item pf_X6_wordOf pg_X6_item pg_X6_wordOf
  simp only [Int.zero_add, Int.reduceAdd]
  rw [show k * 10 = 10 * k by omega, r0]
  unfold okC at k1 k0
  unfold nwC at k1
  refine ⟨⟨⟨by omega, by omega⟩, trivial⟩, fun x4 e4 => ⟨⟨⟨by omega, by omega⟩, trivial⟩, fun x8 e8 => ⟨⟨⟨by omega, by omega⟩, trivial⟩, ⟨by omega, by omega⟩, fun q => ?_, fun q => ?_, fun q => ?_, fun q => ?_, fun q => ?_⟩⟩⟩
  · rw [if_pos q] at k1 k0
    rw [if_pos q] at k1
    have m1 : 1 = l.length := by rw [hl]; unfold mny; rw [if_pos q]
    obtain ⟨v0, b0⟩ := hrow.it (j := 0) (by omega) (x := 10 * k + 2 + 0) (by omega)
    rw [v0] at e4
    subst e4
    obtain ⟨pf, pg⟩ := pf_zf (b := l.getD 0 0) h.2.1 hA ⟨by omega, by omega⟩
    have hv := zoneF_v A (l.getD 0 0)
    rw [pf]
    refine ⟨pg, fun x M' => (0 ≤ x ∧ x ≤ 1) ∧ Q x M', fun x M' z => z, fun M' => Q 0 M', fun M' z => ⟨by omega, z⟩, ⟨by omega, by omega⟩, fun hf => k0 hf M EF.rfl h, fun hf => cs_putZone h hf fun M' f hC => ⟨⟨by omega, by omega⟩, fun z => by omega, fun _ => ⟨by omega, k1 hf M' f.ef hC⟩⟩⟩
  · have q0 : ¬ w = 0 := by omega
    rw [if_neg q0, if_pos q] at k1 k0
    rw [if_neg q0, if_pos q] at k1
    have m1 : 3 = l.length := by rw [hl]; unfold mny; rw [if_neg q0, if_pos q]
    obtain ⟨v0, b0⟩ := hrow.it (j := 0) (by omega) (x := 10 * k + 2 + 0) (by omega)
    obtain ⟨v1, b1⟩ := hrow.it (j := 1) (by omega) (x := 10 * k + 2 + 1) (by omega)
    obtain ⟨v2, b2⟩ := hrow.it (j := 2) (by omega) (x := 10 * k + 2 + 2) (by omega)
    rw [v0] at e4
    rw [v1] at e8
    rw [v2]
    subst e4; subst e8
    refine ⟨⟨⟨by omega, by omega⟩, trivial⟩, ?_⟩
    obtain ⟨pf, pg⟩ := pf_bf (z := l.getD 0 0) (d := l.getD 1 0) (b := l.getD 2 0) h.2.1 hA ⟨by omega, by omega⟩ ⟨by omega, by omega⟩ ⟨by omega, by omega⟩
    have hv : 0 ≤ baseF A (l.getD 0 0) (l.getD 1 0) (l.getD 2 0) ∧ baseF A (l.getD 0 0) (l.getD 1 0) (l.getD 2 0) ≤ 3 := by unfold baseF; (repeat' split) <;> omega
    unfold wp_X10_carryOutBase
    rw [pf]
    refine ⟨pg, fun x M' => (0 ≤ x ∧ x ≤ 1) ∧ Q x M', fun x M' z => ⟨z.1, z⟩, fun M' => Q 0 M', fun M' z => ⟨by omega, z⟩, ⟨by omega, by omega⟩, fun hf => k0 hf M EF.rfl h, fun hf => cs_putBase h hf fun M' f hC => ?_⟩
    have hz := (baseF_0 hf)
    have hZ := (hA.2.2.1 _ hz.1.1 hz.1.2).2.2.1
    exact ⟨⟨by omega, by omega⟩, fun z => by omega, fun _ => ⟨by omega, k1 hf M' f.ef hC⟩⟩
  · have q0 : ¬ w = 0 := by omega
    have q1 : ¬ w = 1 := by omega
    rw [if_neg q0, if_neg q1, if_pos q] at k1 k0
    rw [if_neg q0, if_neg q1, if_pos q] at k1
    have m1 : 8 = l.length := by rw [hl]; unfold mny; rw [if_neg q0, if_neg q1, if_pos q]
    have hi : ∀ j : Nat, j < 8 → ∀ x : Int, x = 10 * k + 2 + j → M 603 x = l.getD j 0 ∧ Bdv (l.getD j 0) := fun j hj x hx => hrow.it (by omega) hx
    obtain ⟨v0, b0⟩ := hi 0 (by omega) (10 * k + 2 + 0) (by omega)
    obtain ⟨v1, b1⟩ := hi 1 (by omega) (10 * k + 2 + 1) (by omega)
    obtain ⟨v2, b2⟩ := hi 2 (by omega) (10 * k + 2 + 2) (by omega)
    obtain ⟨v3, b3⟩ := hi 3 (by omega) (10 * k + 2 + 3) (by omega)
    obtain ⟨v4, b4⟩ := hi 4 (by omega) (10 * k + 2 + 4) (by omega)
    obtain ⟨v5, b5⟩ := hi 5 (by omega) (10 * k + 2 + 5) (by omega)
    obtain ⟨v6, b6⟩ := hi 6 (by omega) (10 * k + 2 + 6) (by omega)
    obtain ⟨v7, b7⟩ := hi 7 (by omega) (10 * k + 2 + 7) (by omega)
    unfold wp_X10_carryOutRule pf_X6_item pg_X6_item pg_X10_isYear
    simp only [Int.zero_add, Int.reduceAdd]
    rw [show k * 10 = 10 * k by omega, v0, v1, v2, v3, v4, v5, v6, v7]
    refine ⟨⟨⟨by omega, by omega⟩, trivial⟩, fun y4 f4 => ⟨⟨⟨by omega, by omega⟩, trivial⟩, fun y8 f8 => ⟨⟨⟨by omega, by omega⟩, trivial⟩, fun y12 f12 => ?_⟩⟩⟩
    have no : ¬ ((2000 ≤ l.getD 1 0 ∧ l.getD 1 0 ≤ 2031) ∧ (2000 ≤ l.getD 2 0 ∧ l.getD 2 0 ≤ 2031)) → Q 0 M := fun z => k0 (fun z2 => z z2.1) M EF.rfl h
    refine ⟨⟨⟨by omega, by omega⟩, fun _ => trivial, fun _ => ⟨fun _ => trivial, fun _ => trivial⟩⟩, ¬ ((2000 ≤ l.getD 1 0 ∧ l.getD 1 0 ≤ 2031) ∧ (2000 ≤ l.getD 2 0 ∧ l.getD 2 0 ≤ 2031)), fun z => ⟨by omega, no z⟩, fun z z2 => z ⟨by omega, by omega⟩, fun z => ⟨⟨⟨by omega, by omega⟩, fun _ => trivial, fun _ => ⟨fun _ => trivial, fun _ => trivial⟩⟩, fun z2 => ?_, fun z2 z3 => z2 ⟨by omega, by omega⟩⟩⟩
    have hy : (2000 ≤ l.getD 1 0 ∧ l.getD 1 0 ≤ 2031) ∧ (2000 ≤ l.getD 2 0 ∧ l.getD 2 0 ≤ 2031) := by
      have z : 0 ≤ y8 ∧ y8 < 32 := z
      have z2 : 0 ≤ y12 ∧ y12 < 32 := z2
      omega
    intro x81 e81
    refine ⟨⟨⟨by omega, by omega⟩, trivial⟩, fun x85 e85 => ⟨⟨⟨by omega, by omega⟩, trivial⟩, fun x89 e89 => ⟨⟨⟨by omega, by omega⟩, trivial⟩, ⟨⟨by omega, by omega⟩, trivial⟩, fun x96 e96 => ⟨⟨⟨by omega, by omega⟩, trivial⟩, fun x100 e100 => ?_⟩⟩⟩⟩
    have eY : x81 = ruY l := by unfold ruY; omega
    have eT : x96 = ruT l := by unfold ruT; omega
    have rY : rg (ruY l) := by rw [← eY]; exact ⟨by omega, by omega⟩
    have rT : rg (ruT l) := by rw [← eT]; exact ⟨by omega, by omega⟩
    rw [f4, eY, e85, e89, eT, e100]
    have hv := ruleF_v A (l.getD 0 0) (ruY l) (l.getD 3 0) (l.getD 4 0) (ruT l) (l.getD 7 0)
    refine sp_ruleFault h.2.1 hA ⟨by omega, by omega⟩ rY ⟨by omega, by omega⟩ ⟨by omega, by omega⟩ rT ⟨by omega, by omega⟩ ⟨fun x M' => (0 ≤ x ∧ x ≤ 1) ∧ Q x M', fun x M' z => ⟨z.1, z⟩, fun M' => Q 0 M', fun M' z => ⟨by omega, z⟩, ⟨by omega, by omega⟩, fun hf => k0 (fun z => hf z.2) M EF.rfl h, fun hf => cs_putRule h hf rY rT fun M' f hC => ?_⟩
    have hz := (ruleF_0 hf)
    have hZ := (hA.2.2.1 _ hz.1.1 hz.1.2).2.1
    exact ⟨⟨by omega, by omega⟩, fun z => by omega, fun _ => ⟨by omega, k1 ⟨hy, hf⟩ M' f.ef hC⟩⟩
  · have q0 : ¬ w = 0 := by omega
    have q1 : ¬ w = 1 := by omega
    have q2 : ¬ w = 2 := by omega
    rw [if_neg q0, if_neg q1, if_neg q2, if_pos q] at k1 k0
    rw [if_neg q0, if_neg q1, if_neg q2, if_pos q] at k1
    have m1 : 2 = l.length := by rw [hl]; unfold mny; rw [if_neg q0, if_neg q1, if_neg q2]
    obtain ⟨v0, b0⟩ := hrow.it (j := 0) (by omega) (x := 10 * k + 2 + 0) (by omega)
    obtain ⟨v1, b1⟩ := hrow.it (j := 1) (by omega) (x := 10 * k + 2 + 1) (by omega)
    rw [v0] at e4
    rw [v1] at e8
    subst e4; subst e8
    obtain ⟨pf, pg⟩ := pf_df (z := l.getD 0 0) (r := l.getD 1 0) h.2.1 hA ⟨by omega, by omega⟩ ⟨by omega, by omega⟩
    have hv : 0 ≤ dropF A (l.getD 0 0) (l.getD 1 0) ∧ dropF A (l.getD 0 0) (l.getD 1 0) ≤ 1 := by unfold dropF; split <;> omega
    rw [pf]
    refine ⟨pg, fun x M' => (0 ≤ x ∧ x ≤ 1) ∧ Q x M', fun x M' z => z, fun M' => Q 0 M', fun M' z => ⟨by omega, z⟩, ⟨by omega, by omega⟩, fun hf => k0 hf M EF.rfl h, fun hf => cs_takeRule h hf fun M' f hC => ?_⟩
    have hz := dropF_0 hf
    have hZ := (hA.2.2.1 _ hz.1.1 hz.1.2).2.1
    exact ⟨⟨by omega, by omega⟩, fun z => by omega, fun _ => ⟨by omega, k1 hf M' f.ef hC⟩⟩
  · obtain ⟨q0, q1, q2, q3⟩ := q
    rw [if_neg q0, if_neg q1, if_neg q2, if_neg q3] at k1 k0
    rw [if_neg q0, if_neg q1, if_neg q2, if_neg q3] at k1
    have m1 : 2 = l.length := by rw [hl]; unfold mny; rw [if_neg q0, if_neg q1, if_neg q2]
    obtain ⟨v0, b0⟩ := hrow.it (j := 0) (by omega) (x := 10 * k + 2 + 0) (by omega)
    obtain ⟨v1, b1⟩ := hrow.it (j := 1) (by omega) (x := 10 * k + 2 + 1) (by omega)
    rw [v0] at e4
    rw [v1] at e8
    subst e4; subst e8
    refine ca_occ h ⟨by omega, by omega⟩ ⟨by omega, by omega⟩ (fun hk2 M1 f1 hC1 => ?_) (fun hk2 M1 f1 hC1 => ?_)
    · refine ⟨fun x M' => (0 ≤ x ∧ x ≤ 1) ∧ Q x M', fun x M' z => z, fun M' => Q 0 M', fun M' z => ⟨by omega, z⟩, ⟨by omega, by omega⟩, fun hf => absurd rfl hf, fun _ => cs_turn hC1 hk2 fun M' f hC => ?_⟩
      obtain ⟨hm, ho⟩ := hk2
      obtain ⟨hgo, z0, z1⟩ := hA.2.2.2 _ hm.1 hm.2
      have hn := nD_rng hgo
      have b := hgo.2.2.2.2.2.2.2.2.2 (l.getD 1 0) ho.1 (by omega)
      exact ⟨⟨by omega, by omega⟩, fun z => by omega, fun _ => ⟨by omega, k1 ⟨hm, ho⟩ M' (f1.ef.trans f.ef) hC⟩⟩
    · exact ⟨fun x M' => (0 ≤ x ∧ x ≤ 1) ∧ Q x M', fun x M' z => z, fun M' => Q 0 M', fun M' z => ⟨by omega, z⟩, ⟨by omega, by omega⟩, fun _ => k0 hk2 M1 f1.ef hC1, fun hf => by omega⟩
