/-! the class looks at its line -/
def CL (M : jT) (L m : Int) (s f : Int → Int) : Prop := M L 2 = m ∧ (∀ j, 0 ≤ j → j < m → M (L + 1) j = s j) ∧ (∀ j, 0 ≤ j → j ≤ m → M (L + 7) j = f j) ∧ (∀ j, 0 ≤ j → j ≤ m → f j ≤ M L 4) ∧ (∀ j, 0 ≤ j → j ≤ m → M L 5 ≤ f j) ∧ (-2000 ≤ M L 4 ∧ M L 4 ≤ 2000) ∧ (-2000 ≤ M L 5 ∧ M L 5 ≤ 2000)
theorem CL.of {M : jT} {L : Int} {Z : Int → Int} (ho : ZOk Z) (h : Tl M L Z) : CL M L (lm Z) (lS Z) (lF Z) := by
  obtain ⟨h1, h2, t1, t2, t3, t4, t5, t6, ⟨j, j0, j1, j2⟩, t8, ⟨i, i0, i1, i2⟩⟩ := h
  have hl := (LOk.of ho h2).1
  have a : -720 ≤ tF Z (kE Z) (nE Z).toNat j ∧ tF Z (kE Z) (nE Z).toNat j ≤ 960 := hl.2.2.2 j j0 j1
  have b : -720 ≤ tF Z (kE Z) (nE Z).toNat i ∧ tF Z (kE Z) (nE Z).toNat i ≤ 960 := hl.2.2.2 i i0 i1
  exact ⟨t1, fun j a b => (t3 j a b).1, t4, t6, t8, by omega, by omega⟩
theorem CL.mv {M M' : jT} {L m : Int} {s f : Int → Int} (h : CL M L m s f) (h0 : ∀ b, b ≤ 5 → M' L b = M L b) (h1 : M' (L + 1) = M (L + 1)) (h7 : M' (L + 7) = M (L + 7)) : CL M' L m s f := by
  unfold CL; rw [h0 2 (by omega), h0 4 (by omega), h0 5 (by omega), h1, h7]; exact h
theorem sp_spanAt {M : jT} {L x m : Int} {s f : Int → Int} {Q : Int → Prop} (hC : CL M L m s f) (hL : LOk m s f) (hx : rg x) (k : Q (SP m s x)) : wp_X7_spanAt M L x Q := by
  obtain ⟨p0, p1, p2, p3⟩ := SP_is hL x
  have hm := hL.1
  unfold wp_X7_spanAt
  rw [hC.1]
  intro x1 e1
  refine ⟨fun n lo hi => 0 ≤ lo ∧ lo ≤ SP m s x ∧ SP m s x ≤ hi ∧ hi ≤ m ∧ (hi - lo).toNat ≤ n, ⟨m.toNat, by omega, by omega, by omega, by omega, by omega⟩, ?_⟩
  rintro n5 x2 x3 ⟨i1, i2, i3, i4, i5⟩
  refine ⟨⟨by omega, by omega⟩, ⟨by omega, by omega⟩, fun c => ?_, fun c => ⟨by omega, ?_⟩⟩
  · rw [show x2 = SP m s x by omega]; exact k
  · intro x10 e10
    have hr := hL.2.2.1 x10 (by omega) (by omega)
    rw [hC.2.1 x10 (by omega) (by omega)]
    refine ⟨by omega, ⟨⟨by omega, by omega⟩, hx, fun _ => trivial, fun _ => trivial⟩, ?_⟩
    intro x15 a1 a2 x16 b1 b2
    by_cases q : x < s x10
    · have e3 := a1 q
      have e4 := b1 q
      have : SP m s x ≤ x10 := by
        by_cases q2 : SP m s x ≤ x10
        · exact q2
        · have := p2 x10 (by omega) (by omega); omega
      exact ⟨(x16 - x15).toNat, by omega, by omega, by omega, by omega, by omega, by omega⟩
    · have e3 := a2 (by omega)
      have e4 := b2 (by omega)
      have : x10 < SP m s x := by
        by_cases q2 : x10 < SP m s x
        · exact q2
        · have := p3 x10 (by omega) (by omega); omega
      exact ⟨(x16 - x15).toNat, by omega, by omega, by omega, by omega, by omega, by omega⟩
theorem sp_X7_offsetAt {M : jT} {L x m : Int} {s f : Int → Int} {Q : Int → Prop} (hC : CL M L m s f) (hL : LOk m s f) (hx : rg x) (k : Q (f (SP m s x))) : wp_X7_offsetAt M L x Q := by
  obtain ⟨p0, p1, p2, p3⟩ := SP_is hL x
  have hm := hL.1
  unfold wp_X7_offsetAt
  refine sp_spanAt hC hL hx ⟨by omega, ?_⟩
  rw [hC.2.2.1 _ p0 p1]; exact k
/-- what a place k < SP(l - g) can't do, where g is no less than any offset -/
theorem low_no {m l g : Int} {s f : Int → Int} (hL : LOk m s f) (hg : ∀ j, 0 ≤ j → j ≤ m → f j ≤ g) {k : Int} (k0 : 0 ≤ k) (k1 : k < SP m s (l - g)) : ¬ Hh m s f l k ∧ ¬ Gp s f l k := by
  obtain ⟨p0, p1, p2, p3⟩ := SP_is hL (l - g)
  have a := p2 k k0 k1
  have b := hg k k0 (by omega)
  have c := hg (k + 1) (by omega) (by omega)
  unfold Hh Gp; omega
theorem high_no {m l g : Int} {s f : Int → Int} (hL : LOk m s f) (hg : ∀ j, 0 ≤ j → j ≤ m → g ≤ f j) {k j : Int} (k0 : 0 < k) (k1 : k ≤ j) (j1 : j ≤ m) (h : l - g < s (k - 1)) : ¬ Hh m s f l j := by
  have b := hg j (by omega) j1
  have : s (k - 1) ≤ s (j - 1) := by
    by_cases q : k = j
    · rw [q]; exact Int.le_refl _
    · exact Int.le_of_lt (hL.2.1 (k - 1) (j - 1) (by omega) (by omega) (by omega))
  unfold Hh; omega
theorem pg_holds {M : jT} {L m k x : Int} {s f : Int → Int} (hC : CL M L m s f) (hL : LOk m s f) (h : 0 ≤ k ∧ k ≤ m) (hx : rg x) : pg_X7_spanHolds M L k x := by
  have hm := hL.1
  unfold pg_X7_spanHolds
  rw [hC.1]
  refine ⟨⟨by omega, by omega⟩, fun c => ⟨⟨by omega, by omega⟩, fun _ => trivial, fun c2 => ⟨by omega, hx, ?_, fun _ => trivial, fun _ => trivial⟩⟩, fun c => ⟨by omega, ?_, hx, fun _ => trivial, fun _ => ⟨⟨by omega, by omega⟩, fun _ => trivial, fun c2 => ⟨by omega, ?_, fun _ => trivial, fun _ => trivial⟩⟩⟩⟩
  · have := hL.2.2.1 k (by omega) (by omega); rw [hC.2.1 k (by omega) (by omega)]; exact ⟨by omega, by omega⟩
  · have := hL.2.2.1 (k - 1) (by omega) (by omega); rw [hC.2.1 (k - 1) (by omega) (by omega)]; exact ⟨by omega, by omega⟩
  · have := hL.2.2.1 k (by omega) (by omega); rw [hC.2.1 k (by omega) (by omega)]; exact ⟨by omega, by omega⟩
theorem holds_iff {M : jT} {L m k l : Int} {s f : Int → Int} (hC : CL M L m s f) (h : 0 ≤ k ∧ k ≤ m) : pb_X7_spanHolds M L k (l - f k) ↔ Hh m s f l k := by
  unfold pb_X7_spanHolds Hh
  rw [hC.1]
  have a := hC.2.1 k h.1
  have b := hC.2.1 (k - 1)
  by_cases c1 : k = 0 <;> by_cases c2 : k = m
  · simp [c1]; omega
  · have := a (by omega); omega
  · have := b (by omega) (by omega); omega
  · have := a (by omega); have := b (by omega) (by omega); omega
theorem sp_look {M : jT} {L l m : Int} {s f : Int → Int} {Q : jT → Prop} (hC : CL M L m s f) (hL : LOk m s f) (hl : 0 ≤ l ∧ l ≤ 16832160)
    (kk : ∀ M', (∀ a, a ≠ L → M' a = M a) → (∀ b, b ≠ 13 → b ≠ 14 → b ≠ 15 → M' L b = M L b) → M' L 13 = cN m s f l → M' L 14 = cF m s f l → M' L 15 = cL m s f l → Q M') : wp_X7_look M L l Q := by
  have hm := hL.1
  unfold wp_X7_look
  refine up_in fun M1 h1 => up_in fun M2 h2 => up_in fun M3 h3 => ?_
  have F3 : ∀ a, a ≠ L → M3 a = M a := (fun a ha => funext fun b => by rw [h3 a b, if_neg (by omega), h2 a b, if_neg (by omega), h1 a b, if_neg (by omega)])
  have G3 : ∀ b, b ≠ 13 → b ≠ 14 → b ≠ 15 → M3 L b = M L b := fun b b1 b2 b3 => by rw [h3, if_neg (by omega), h2, if_neg (by omega), h1, if_neg (by omega)]
  have hC3 : CL M3 L m s f := hC.mv (fun b hb => G3 b (by omega) (by omega) (by omega)) (F3 _ (by omega)) (F3 _ (by omega))
  have g13 : M3 L 13 = 0 := by rw [h3, if_neg (by omega), h2, if_neg (by omega), h1, if_pos ⟨rfl, rfl⟩]
  have g14 : M3 L 14 = -1000000000 := by rw [h3, if_neg (by omega), h2, if_pos ⟨rfl, rfl⟩]
  have g15 : M3 L 15 = -1000000000 := by rw [h3, if_pos ⟨rfl, rfl⟩]
  intro x4 e4
  obtain ⟨c1, c2, c3, c4, c5, c6, c7⟩ := hC3
  have hC3 : CL M3 L m s f := ⟨c1, c2, c3, c4, c5, c6, c7⟩
  refine sp_spanAt hC3 hL ⟨by omega, by omega⟩ ?_
  obtain ⟨p0, p1, p2, p3⟩ := SP_is hL (l - M3 L 4)
  refine ⟨fun n x M8 => ∃ k : Nat, x = k ∧ (k : Int) ≤ m + 1 ∧ (m + 1 - k).toNat ≤ n ∧ (∀ a, a ≠ L → M8 a = M3 a) ∧ (∀ b, b ≠ 13 → b ≠ 14 → b ≠ 15 → M8 L b = M3 L b) ∧ M8 L 13 = fc m s f l k ∧ M8 L 14 = ff m s f l k ∧ M8 L 15 = fl' m s f l k, ⟨(m + 1).toNat, (SP m s (l - M3 L 4)).toNat, by omega, by omega, by omega, fun _ _ => rfl, fun _ _ _ _ => rfl, ?_⟩, ?_⟩
  · have := fc_skip (m := m) (s := s) (f := f) (l := l) (a := 0) (SP m s (l - M3 L 4)).toNat (fun j _ hj => (low_no hL c4 (by omega) (by omega)).1)
    rw [Nat.zero_add] at this
    rw [g13, g14, g15, this.1, this.2.1, this.2.2]
    exact ⟨rfl, rfl, rfl⟩
  · rintro n10 x7 M8 ⟨k, rfl, k1, k2, F8, G8, e13, e14, e15⟩
    have hC8 : CL M8 L m s f := hC3.mv (fun b hb => G8 b (by omega) (by omega) (by omega)) (F8 _ (by omega)) (F8 _ (by omega))
    refine ⟨(∀ j : Nat, k ≤ j → (j : Int) ≤ m → ¬ Hh m s f l j), fun hno => ?_, ⟨by omega, by omega⟩, ?_⟩
    · have := fc_skip (m := m) (s := s) (f := f) (l := l) (a := k) (m.toNat + 1 - k) (fun j a b => hno j a (by omega))
      rw [show k + (m.toNat + 1 - k) = m.toNat + 1 by omega] at this
      refine kk M8 (fun a ha => (F8 a ha).trans (F3 a ha)) (fun b b1 b2 b3 => (G8 b b1 b2 b3).trans (G3 b b1 b2 b3)) ?_ ?_ ?_
      · rw [e13]; exact this.1.symm
      · rw [e14]; exact this.2.1.symm
      · rw [e15]; exact this.2.2.symm
    · rw [hC8.1]
      refine ⟨⟨by omega, by omega⟩, fun c => fun j a b => by omega, fun c => ?_⟩
      have hfr := hL.2.2.2 k (by omega) (by omega)
      refine ⟨True, fun _ => ⟨by omega, ?_⟩, fun _ => trivial, fun c8 => ⟨by omega, ?_, ⟨by omega, by omega⟩, fun _ => trivial, fun c9 => fun j a b => ?_⟩⟩
      · rw [hC8.2.2.1 k (by omega) (by omega)]
        intro x65 e65
        refine ⟨pg_holds hC8 hL ⟨by omega, by omega⟩ ⟨by omega, by omega⟩, ?_⟩
        rw [e65]
        have hn := fc_nn (m := m) (s := s) (f := f) (l := l) k
        refine ⟨fun M' => (∀ a, a ≠ L → M' a = M3 a) ∧ (∀ b, b ≠ 13 → b ≠ 14 → b ≠ 15 → M' L b = M3 L b) ∧ M' L 13 = fc m s f l (k + 1) ∧ M' L 14 = ff m s f l (k + 1) ∧ M' L 15 = fl' m s f l (k + 1), ?_, fun q => ?_, fun q => ?_⟩
        · rintro M' ⟨k1', k2', k3', k4', k5'⟩
          intro x81 e81
          exact ⟨(m + 1 - (k + 1)).toNat, by omega, k + 1, by omega, by omega, by omega, k1', k2', k3', k4', k5'⟩
        · rw [holds_iff hC8 ⟨by omega, by omega⟩] at q
          have := fc_skip (m := m) (s := s) (f := f) (l := l) (a := k) 1 (fun j a b => by rw [show j = k by omega]; exact q)
          exact ⟨F8, G8, by rw [e13, this.1], by rw [e14, this.2.1], by rw [e15, this.2.2]⟩
        · rw [holds_iff hC8 ⟨by omega, by omega⟩] at q
          rw [e13, e14]
          refine ⟨⟨⟨by omega, by omega⟩, fun _ => trivial, fun _ => trivial⟩, ?_⟩
          intro x86 a1 a2
          refine up_in fun M90 h90 => up_in fun M91 h91 => up_in fun M92 h92 => ?_
          refine ⟨(fun a ha => by rw [← F8 a ha]; funext b; rw [h92, if_neg (by omega), h91, if_neg (by omega), h90, if_neg (by omega)]), fun b b1 b2 b3 => by rw [h92, if_neg (by omega), h91, if_neg (by omega), h90, if_neg (by omega)]; exact G8 b b1 b2 b3, ?_, ?_, ?_⟩
          · rw [h92, if_pos ⟨rfl, rfl⟩, h91, if_neg (by omega), h90, if_neg (by omega), e13]
            simp only [fc]; rw [if_pos q]
          · rw [h92, if_neg (by omega), h91, if_neg (by omega), h90, if_pos ⟨rfl, rfl⟩]
            simp only [ff]
            by_cases c7 : fc m s f l k = 0
            · rw [if_pos ⟨q, c7⟩]; exact a2 c7
            · rw [if_neg (fun z => c7 z.2)]; exact a1 c7
          · rw [h92, if_neg (by omega), h91, if_pos ⟨rfl, rfl⟩]
            simp only [fl']; rw [if_pos q]
      · have := hL.2.2.1 ((k : Int) - 1) (by omega) (by omega); rw [hC8.2.1 _ (by omega) (by omega)]; exact ⟨by omega, by omega⟩
      · rw [hC8.2.1 _ (by omega) (by omega)] at c9
        exact high_no hL c5 (k := k) c8 (by omega) b (by omega)
theorem sp_gapOf {M : jT} {L l m : Int} {s f : Int → Int} {Q : Int → Prop} (hC : CL M L m s f) (hL : LOk m s f) (hl : 0 ≤ l ∧ l ≤ 16832160) (kk : Q (cG m s f l)) : wp_X7_gapOf M L l Q := by
  have hm := hL.1
  obtain ⟨c1, c2, c3, c4, c5, c6, c7⟩ := hC
  have hC : CL M L m s f := ⟨c1, c2, c3, c4, c5, c6, c7⟩
  unfold wp_X7_gapOf
  refine sp_spanAt hC hL ⟨by omega, by omega⟩ ?_
  obtain ⟨p0, p1, p2, p3⟩ := SP_is hL (l - M L 4)
  have hg := gp_sp (s := s) (f := f) (l := l) m.toNat
  refine ⟨fun n x => ∃ k : Nat, x = k ∧ (k : Int) ≤ m ∧ (m - k).toNat ≤ n ∧ ∀ j : Nat, j < k → ¬ Gp s f l j, ⟨m.toNat, (SP m s (l - M L 4)).toNat, by omega, by omega, by omega, fun j hj => (low_no hL c4 (by omega) (by omega)).2⟩, ?_⟩
  rintro n5 x3 ⟨k, rfl, k1, k2, hno⟩
  rw [c1]
  refine ⟨⟨by omega, by omega⟩, ⟨by omega, by omega⟩, fun c => ?_, fun c => ⟨by omega, by omega, ?_⟩⟩
  · have : cG m s f l = -1 := by
      rcases hg with ⟨h1, h2⟩ | ⟨i, h1, h2, h3, h4⟩
      · exact h1
      · exact absurd h3 (hno i (by omega))
    rw [this] at kk; exact kk
  · rw [c2 k (by omega) c, c3 k (by omega) (by omega), c3 ((k : Int) + 1) (by omega) (by omega)]
    have a := hL.2.2.1 k (by omega) c
    have b := hL.2.2.2 k (by omega) (by omega)
    have d := hL.2.2.2 ((k : Int) + 1) (by omega) (by omega)
    refine ⟨¬ Gp s f l k, fun q => ?_, ⟨by omega, by omega⟩, ⟨by omega, by omega⟩, fun q => by unfold Gp; omega, fun q => ⟨by omega, ⟨by omega, by omega⟩, fun q2 => by unfold Gp; omega, fun q2 => ?_⟩⟩
    · intro x18 e18
      refine ⟨(m - (k + 1)).toNat, by omega, k + 1, by omega, by omega, by omega, fun j hj => ?_⟩
      by_cases q3 : j = k
      · rw [q3]; exact q
      · exact hno j (by omega)
    · have : cG m s f l = k := by
        have hGp : Gp s f l k := ⟨q, q2⟩
        rcases hg with ⟨h1, h2⟩ | ⟨i, h1, h2, h3, h4⟩
        · exact absurd hGp (h2 k (by omega))
        · rw [show cG m s f l = i from h1]
          rcases Nat.lt_trichotomy i k with q3 | q3 | q3
          · exact absurd h3 (hno i q3)
          · rw [q3]
          · exact absurd hGp (h4 k q3)
      rw [this] at kk; exact kk
theorem sp_X7_causeOf {M : jT} {L l m : Int} {s f : Int → Int} {Q : Int → jT → Prop} (hC : CL M L m s f) (hL : LOk m s f) (hl : 0 ≤ l ∧ l ≤ 16832160)
    (kk : ∀ M', (∀ a, a ≠ L → M' a = M a) → (∀ b, b ≠ 13 → b ≠ 14 → b ≠ 15 → M' L b = M L b) → Q (cS m s f l) M') : wp_X7_causeOf M L l Q := by
  unfold wp_X7_causeOf
  refine sp_look hC hL hl (fun M' F G e13 e14 e15 => ?_)
  have hC' : CL M' L m s f := hC.mv (fun b hb => G b (by omega) (by omega) (by omega)) (F _ (by omega)) (F _ (by omega))
  have k := kk M' F G
  have hc := cN_rng (l := l) hL
  unfold cS at k
  rw [e13, e14]
  refine ⟨⟨by omega, by omega⟩, fun c => ?_, fun c => ?_⟩
  · rw [if_neg c] at k
    refine ⟨fun x => Q x M', fun _ q => q, fun c2 => ?_, fun c2 => ?_⟩
    · rw [if_neg c2] at k
      have := cF_rng hL hl (by omega)
      exact sp_spanAt hC' hL ⟨by omega, by omega⟩ k
    · rw [if_pos c2] at k; exact k
  · rw [if_pos c] at k
    exact sp_gapOf hC' hL hl k
theorem sp_instantOf {M : jT} {L l mode m : Int} {s f : Int → Int} {Q : Int → jT → Prop} (hC : CL M L m s f) (hL : LOk m s f) (hl : 0 ≤ l ∧ l ≤ 16832160) (hmo : 0 ≤ mode ∧ mode ≤ 3)
    (kk : ∀ M', (∀ a, a ≠ L → M' a = M a) → (∀ b, b ≠ 13 → b ≠ 14 → b ≠ 15 → M' L b = M L b) → Q (iO m s f l mode) M') : wp_X7_instantOf M L l mode Q := by
  unfold wp_X7_instantOf
  refine sp_look hC hL hl (fun M' F G e13 e14 e15 => ?_)
  have hC' : CL M' L m s f := hC.mv (fun b hb => G b (by omega) (by omega) (by omega)) (F _ (by omega)) (F _ (by omega))
  have k := kk M' F G
  have hc := cN_rng (l := l) hL
  have hm := hL.1
  unfold iO at k
  rw [e13, e14, e15]
  refine ⟨⟨by omega, by omega⟩, fun c => ?_, fun c => by rw [if_pos c] at k; exact k⟩
  rw [if_neg c] at k
  refine ⟨⟨by omega, by omega⟩, fun c2 => ?_, fun c2 => by rw [if_pos c2] at k; exact k⟩
  rw [if_neg c2] at k
  refine ⟨fun c3 => ?_, fun c3 => ?_⟩
  · rw [if_neg (by omega)] at k
    refine sp_gapOf hC' hL hl ?_
    obtain ⟨i, i1, i2, i3, i4⟩ := gap_ex (l := l) hL (show fc m s f l (m.toNat + 1) = 0 by unfold cN at *; omega)
    have e : cG m s f l = i := i1
    rw [e] at k ⊢
    refine ⟨⟨by omega, by omega⟩, fun c4 => ⟨⟨fun c5 => ⟨by omega, trivial⟩, fun c5 => ⟨by omega, trivial⟩⟩, ?_⟩, fun c4 => by omega⟩
    intro x15 a1 a2
    by_cases c5 : mode = 2
    · rw [if_pos c5] at k
      rw [a2 c5, hC'.2.1 i (by omega) i2]; exact k
    · rw [if_neg c5] at k
      rw [a1 c5, hC'.2.2.1 _ (by omega) (by omega)]; exact k
  · rw [if_pos c3] at k
    intro x21 a1 a2
    by_cases c5 : mode = 1
    · rw [if_pos c5] at k; rw [a2 c5]; exact k
    · rw [if_neg c5] at k; rw [a1 c5]; exact k
theorem sp_beginningOf {M : jT} {L d m : Int} {s f : Int → Int} {Q : Int → jT → Prop} (hC : CL M L m s f) (hL : LOk m s f) (hd : 0 ≤ d ∧ d ≤ 11688)
    (kk : ∀ M', (∀ a, a ≠ L → M' a = M a) → (∀ b, b ≠ 13 → b ≠ 14 → b ≠ 15 → M' L b = M L b) → Q (iO m s f (1440 * d) 2) M') : wp_X7_beginningOf M L d Q := by
  unfold wp_X7_beginningOf
  exact sp_instantOf hC hL (by omega) (by omega) kk
