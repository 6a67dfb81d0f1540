/-! the reference's reader: a word -/
def off (w : Nat) : Int := [0, 5, 10, 15, 20, 27].getD w 0
theorem off_ok {w : Nat} (h : w < 5) : off (w + 1) = off w + sLn (6 + w) + 1 ∧ 0 ≤ off w ∧ off w + sLn (6 + w) < 27 ∧ sLn 15 = 27 ∧ sCh 15 (off w + sLn (6 + w)) = 58 := by
  have h5 : w = 0 ∨ w = 1 ∨ w = 2 ∨ w = 3 ∨ w = 4 := by omega
  rcases h5 with rfl | rfl | rfl | rfl | rfl <;> decide
theorem off_ch {w : Nat} {j : Int} (h : w < 5) (hj : 0 ≤ j ∧ j < sLn (6 + w)) : sCh 15 (off w + j) = sCh (6 + w) j := by
  have h5 : w = 0 ∨ w = 1 ∨ w = 2 ∨ w = 3 ∨ w = 4 := by omega
  have h6 := (sLn_w h).2
  have hi8 : j = 0 ∨ j = 1 ∨ j = 2 ∨ j = 3 ∨ j = 4 ∨ j = 5 := by omega
  rcases h5 with rfl | rfl | rfl | rfl | rfl <;> rcases hi8 with rfl | rfl | rfl | rfl | rfl | rfl <;> revert hj <;> decide
theorem r_word {c : Int → Int} {N : jT} {p : Int} {Q : Int → jT → Prop} (h : RdR c N) (hp : 0 ≤ p ∧ p ≤ N 608 8) (hat : N 608 9 = p)
    (k1 : ∀ e N', isE c p e → e ≤ N 608 8 → 0 ≤ wdF c p e → wdF c p e < 5 → c e = 58 → FrR N N' → N' 608 9 = e + 1 → Q (wdF c p e) N')
    (kc : ∀ e N', isE c p e → 0 ≤ wdF c p e → c e ≠ 58 → FrR N N' → N' 608 9 = e → Q (-1) N')
    (k0 : ∀ e N', isE c p e → wdF c p e = -1 → FrR N N' → N' 608 9 = p → Q (-1) N') : wp_X11_word N 608 Q := by
  have hL := h.1.1
  unfold wp_X11_word
  simp only [Int.reduceAdd]
  rw [hat]
  intro x1 ex1
  subst x1
  refine ⟨fun n M2 => ∃ e, FrR N M2 ∧ M2 608 9 = e ∧ p ≤ e ∧ e ≤ N 608 8 ∧ (N 608 8 - e).toNat ≤ n ∧ ∀ i, p ≤ i → i < e → 97 ≤ c i ∧ c i ≤ 122, ⟨(N 608 8 - p).toNat, p, FrR.rfl, hat, by omega, by omega, by omega, fun i a b => by omega⟩, ?_⟩
  rintro n M2 ⟨e, f2, a2, i0, i1, i2, i3⟩
  have hR2 := h.fr f2
  obtain ⟨l1, l2, l3⟩ := hR2.here (p := e) (by omega) a2
  rw [l1, a2]
  have hin : pg_X11_in (c e) 97 122 := by
    unfold pg_X11_in
    exact ⟨l3, ⟨by omega, by omega⟩, fun _ => trivial, fun _ => ⟨⟨by omega, by omega⟩, fun _ => trivial, fun _ => trivial⟩⟩
  refine ⟨l2, hin, fun q => ?_, fun q => ?_⟩
  · have hE : isE c p e := ⟨i0, i3, q⟩
    refine ⟨fun n k w => 0 ≤ w ∧ w ≤ 5 ∧ (5 - w).toNat ≤ n ∧ k = off w.toNat ∧ ∀ u : Nat, u < w → ¬ isW c p e u, ⟨5, by omega, by omega, by omega, by decide, fun u a => by omega⟩, ?_⟩
    rintro n2 k w ⟨w0, w1, w2, w3, w4⟩
    refine ⟨⟨by omega, by omega⟩, fun q1 => up_in fun M18 k18 => k0 e M18 hE (wdF_no fun u a => w4 u (by omega)) (f2.up k18) (by rw [k18, if_pos ⟨rfl, rfl⟩]), fun q1 => ?_⟩
    have w5 : w.toNat < 5 := by omega
    obtain ⟨o1, o2, o3, o4, o5⟩ := off_ok w5
    have hs := sLn_w w5
    rw [o4]
    have nxt : ¬ isW c p e w.toNat → ∀ x62 : Int, x62 = off (w.toNat + 1) → ∀ x63 : Int, x63 = w + 1 → ∃ n64, n64 < n2 ∧ (0 ≤ x63 ∧ x63 ≤ 5 ∧ (5 - x63).toNat ≤ n64 ∧ x62 = off x63.toNat ∧ ∀ u : Nat, u < x63 → ¬ isW c p e u) := by
      intro hW x62 e62 x63 e63
      refine ⟨(5 - x63).toNat, by omega, by omega, by omega, by omega, by rw [e62]; congr 1; omega, fun u hu => ?_⟩
      by_cases q3 : u = w.toNat
      · rw [q3]; exact hW
      · exact w4 u (by omega)
    refine ⟨fun n x19 x20 => ∃ j, x19 = off w.toNat + j ∧ x20 = p + j ∧ 0 ≤ j ∧ j ≤ sLn (6 + w.toNat) ∧ p + j ≤ e ∧ (sLn (6 + w.toNat) - j).toNat ≤ n ∧ ∀ t, 0 ≤ t → t < j → c (p + t) = sCh (6 + w.toNat) t, ⟨(sLn (6 + w.toNat)).toNat, 0, by omega, by omega, by omega, by omega, by omega, by omega, fun t a b => by omega⟩, ?_⟩
    rintro n3 x19 x20 ⟨j, j1, j2, j3, j4, j5, j6, j7⟩
    subst j1 j2
    have hch : (j = sLn (6 + w.toNat) ∧ sCh 15 (off w.toNat + j) = 58) ∨ (j < sLn (6 + w.toNat) ∧ sCh 15 (off w.toNat + j) = sCh (6 + w.toNat) j ∧ 97 ≤ sCh 15 (off w.toNat + j) ∧ sCh 15 (off w.toNat + j) ≤ 122) := by
      by_cases q2 : j = sLn (6 + w.toNat)
      · exact Or.inl ⟨q2, by rw [q2]; exact o5⟩
      · have e1 := off_ch w5 (j := j) ⟨j3, by omega⟩
        have e2 := sCh_w w5 (i := j) ⟨j3, by omega⟩
        exact Or.inr ⟨by omega, e1, by omega, by omega⟩
    have rch : rg (sCh 15 (off w.toNat + j)) := by rcases hch with q2 | q2 <;> exact ⟨by omega, by omega⟩
    refine ⟨⟨by omega, by omega⟩, (sCh 15 (off w.toNat + j) = 58) ∨ ¬ isW c p e w.toNat, fun hK => ?_, rch, fun q2 => Or.inl q2, fun q2 => ⟨⟨by omega, by omega⟩, ⟨by omega, by omega⟩, fun q3 => Or.inr (fun z => ?_), fun q3 => ?_⟩⟩
    · refine ⟨¬ isW c p e w.toNat, fun hW => ⟨rch, fun q2 => ?_, fun q2 => ?_⟩, rch, fun q2 => hK.resolve_left q2, fun q2 => ⟨⟨by omega, by omega⟩, ⟨by omega, by omega⟩, fun q3 z => ?_, fun q3 => ⟨⟨by omega, by omega⟩, fun q4 => ?_, fun q4 => ?_⟩⟩⟩
      · intro x62 e62
        have hj : j = sLn (6 + w.toNat) := by rcases hch with z | z; exact z.1; omega
        exact nxt hW x62 (by rw [o1]; omega)
      · -- on to the colon
        intro x65 e65
        have hj : j < sLn (6 + w.toNat) := by rcases hch with z | z; exact absurd z.2 q2; exact z.1
        refine ⟨fun n x66 => off w.toNat + j < x66 ∧ x66 ≤ off w.toNat + sLn (6 + w.toNat) ∧ (off w.toNat + sLn (6 + w.toNat) - x66).toNat ≤ n, ⟨(sLn (6 + w.toNat)).toNat, by omega, by omega, by omega⟩, ?_⟩
        rintro n4 x66 ⟨y1, y2, y3⟩
        by_cases q3 : x66 = off w.toNat + sLn (6 + w.toNat)
        · rw [q3, o5]
          refine ⟨⟨by omega, by omega⟩, ⟨by omega, by omega⟩, fun _ x74 e74 => nxt hW x74 (by rw [o1]; omega), fun z => absurd rfl z⟩
        · have e1 := off_ch w5 (j := x66 - off w.toNat) ⟨by omega, by omega⟩
          have e2 := sCh_w w5 (i := x66 - off w.toNat) ⟨by omega, by omega⟩
          rw [show off w.toNat + (x66 - off w.toNat) = x66 by omega] at e1
          refine ⟨⟨by omega, by omega⟩, ⟨by omega, by omega⟩, fun z => by omega, fun _ x77 e77 => ⟨(off w.toNat + sLn (6 + w.toNat) - x77).toNat, by omega, by omega, by omega, by omega⟩⟩
      · have hj : j = sLn (6 + w.toNat) := by rcases hch with z2 | z2; exact z2.1; omega
        have := z.1; omega
      · have hj : j = sLn (6 + w.toNat) := by rcases hch with z2 | z2; exact z2.1; omega
        omega
      · have hj : j = sLn (6 + w.toNat) := by rcases hch with z2 | z2; exact z2.1; omega
        have hW : isW c p e w.toNat := ⟨by omega, fun t t0 t1 => j7 t t0 (by omega)⟩
        have ew := wdF_of (c := c) (p := p) (e := e) (w := w.toNat) w5 hW (fun u hu => w4 u (by omega))
        have hv : (w.toNat : Int) = w := by omega
        rw [hv] at ew
        refine r_takes hR2 (p := e) (by omega) a2 ⟨by omega, by omega⟩ (fun hc N' f' a' => ⟨⟨⟨by omega, by omega⟩, fun _ => trivial, fun _ => trivial⟩, fun x90 g0 g1 => ?_⟩) (fun hc => ⟨⟨⟨by omega, by omega⟩, fun _ => trivial, fun _ => trivial⟩, fun x90 g0 g1 => ?_⟩)
        · have e90 := g1 (by omega)
          have := k1 e N' hE i1 (by omega) (by omega) hc (f2.trans f') a'
          rw [ew] at this; rw [e90]; exact this
        · have e90 := g0 rfl
          rw [e90]
          exact kc e M2 hE (by omega) hc f2 a2
    · have hj : j < sLn (6 + w.toNat) := by rcases hch with z2 | z2; exact absurd z2.2 q2; exact z2.1
      have := z.1; omega
    · have hj : j < sLn (6 + w.toNat) := by rcases hch with z2 | z2; exact absurd z2.2 q2; exact z2.1
      have e1 := off_ch w5 (j := j) ⟨j3, hj⟩
      have ev : M2 613 (p + j) = c (p + j) := hR2.2 _ (by omega) (by rw [f2.2 8 (by omega)]; omega)
      have hcr := h.1.rg (i := p + j) (by omega)
      rw [ev]
      refine ⟨⟨by omega, by omega⟩, ⟨by omega, by omega⟩, fun q4 => Or.inr (fun z => q4 (by rw [e1]; exact z.2 j j3 hj)), fun q4 x104 e104 x105 e105 => ⟨(sLn (6 + w.toNat) - (j + 1)).toNat, by omega, j + 1, by omega, by omega, by omega, by omega, by omega, by omega, fun t t0 t1 => ?_⟩⟩
      by_cases q5 : t = j
      · rw [q5, q4, e1]
      · exact j7 t t0 (by omega)
  · have q : 97 ≤ c e ∧ c e ≤ 122 := q
    have hlt := h.1.nz (i := e) (by omega)
    refine up_in fun M107 k107 => ⟨(N 608 8 - (e + 1)).toNat, by omega, e + 1, f2.up k107, by rw [k107, if_pos ⟨rfl, rfl⟩], by omega, by omega, by omega, fun i a b => ?_⟩
    by_cases q3 : i = e
    · rw [q3]; exact q
    · exact i3 i a (by omega)
