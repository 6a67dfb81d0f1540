/-! the items' values are small -/
theorem numT_bd {c : Int → Int} : (∀ v p : Int, 0 ≤ v → v < 10 → 0 ≤ (numT c 4 v p).1 ∧ (numT c 4 v p).1 < 100000) ∧ (∀ v p : Int, 0 ≤ v → v < 10 → 0 ≤ (numT c 1 v p).1 ∧ (numT c 1 v p).1 < 100000) := by
  have b0 : ∀ v p : Int, 0 ≤ v → v < 100000 → 0 ≤ (numT c 0 v p).1 ∧ (numT c 0 v p).1 < 100000 := fun v p h0 h1 => ⟨h0, h1⟩
  have step : ∀ (n : Nat) (B : Int), B ≤ 10000 → (∀ v p : Int, 0 ≤ v → v < 10 * B → 0 ≤ (numT c n v p).1 ∧ (numT c n v p).1 < 100000) → ∀ v p : Int, 0 ≤ v → v < B → 0 ≤ (numT c (n + 1) v p).1 ∧ (numT c (n + 1) v p).1 < 100000 := by
    intro n B hB ih v p h0 h1
    unfold numT
    by_cases q : 0 < v ∧ 48 ≤ c p ∧ c p ≤ 57
    · rw [if_pos q]; exact ih _ _ (by omega) (by omega)
    · rw [if_neg q]; exact ⟨h0, by show v < 100000; omega⟩
  have b1 := step 0 10000 (by omega) (fun v p h0 h1 => b0 v p h0 (by omega))
  have b2 := step 1 1000 (by omega) (fun v p h0 h1 => b1 v p h0 (by omega))
  have b3 := step 2 100 (by omega) (fun v p h0 h1 => b2 v p h0 (by omega))
  have b4 := step 3 10 (by omega) (fun v p h0 h1 => b3 v p h0 (by omega))
  exact ⟨b4, fun v p h0 h1 => b1 v p h0 (by omega)⟩
theorem numP_bd {c : Int → Int} {p v : Int} {n : Nat} (hn : n = 5 ∨ n = 2) (h : (numP c n p).1 = some v) : 0 ≤ v ∧ v < 100000 := by
  unfold numP at h
  by_cases q : 48 ≤ c p ∧ c p ≤ 57
  · rw [if_pos q] at h
    cases h
    rcases hn with rfl | rfl
    · exact numT_bd.1 _ _ (by omega) (by omega)
    · exact numT_bd.2 _ _ (by omega) (by omega)
  · rw [if_neg q] at h; cases h
theorem mapP_bd {r : Option Int × Int} {f : Int → Int} {v : Int} (h : (mapP r f).1 = some v) : ∃ u, r.1 = some u ∧ v = f u := by
  unfold mapP at h
  cases hr : r.1 with
  | none => rw [hr] at h; cases h
  | some u => rw [hr] at h; cases h; exact ⟨u, rfl, rfl⟩
theorem wkP_bd {c : Int → Int} {p b v : Int} (h : (wkP c p b).1 = some v) : b ≤ v ∧ v ≤ b + 6 := by
  unfold wkP at h
  by_cases q : 48 ≤ c p ∧ c p ≤ 54
  · rw [if_pos q] at h; cases h; omega
  · rw [if_neg q] at h; cases h
theorem itP_bd {c : Int → Int} {w i p v : Int} (h : (itP c w i p).1 = some v) : Bdv v := by
  unfold itP at h
  by_cases q1 : w = 2 ∧ i = 4
  · rw [if_pos q1] at h
    unfold dateP at h
    by_cases c1 : c p = 108
    · rw [if_pos c1] at h; have := wkP_bd h; exact ⟨by omega, by omega⟩
    · rw [if_neg c1] at h
      by_cases c2 : c (p + 1) = 120 ∧ 49 ≤ c p ∧ c p ≤ 52
      · rw [if_pos c2] at h; have := wkP_bd h; exact ⟨by omega, by omega⟩
      · rw [if_neg c2] at h
        by_cases c3 : c (p + 1) = 62 ∧ 48 ≤ c p ∧ c p ≤ 54
        · rw [if_pos c3] at h
          obtain ⟨u, u1, u2⟩ := mapP_bd h
          have := numP_bd (Or.inr rfl) u1
          exact ⟨by omega, by omega⟩
        · rw [if_neg c3] at h
          obtain ⟨u, u1, u2⟩ := mapP_bd h
          have := numP_bd (Or.inl rfl) u1
          have u2 : v = if u ≤ 31 then u else 0 := u2
          split at u2 <;> exact ⟨by omega, by omega⟩
  · rw [if_neg q1] at h
    by_cases q2 : w = 2 ∧ i = 6
    · rw [if_pos q2] at h
      unfold clockP at h
      by_cases c1 : c p = 119
      · rw [if_pos c1] at h; cases h; exact ⟨by omega, by omega⟩
      · rw [if_neg c1] at h
        by_cases c2 : c p = 98
        · rw [if_pos c2] at h; cases h; exact ⟨by omega, by omega⟩
        · rw [if_neg c2] at h
          by_cases c3 : c p = 105
          · rw [if_pos c3] at h; cases h; exact ⟨by omega, by omega⟩
          · rw [if_neg c3] at h; cases h
    · rw [if_neg q2] at h
      by_cases q3 : w = 0 ∨ (w = 1 ∧ i = 2)
      · rw [if_pos q3] at h
        unfold baseP at h
        by_cases c1 : c p = 45
        · rw [if_pos c1] at h
          obtain ⟨u, u1, u2⟩ := mapP_bd h
          have := numP_bd (Or.inl rfl) u1
          exact ⟨by omega, by omega⟩
        · rw [if_neg c1] at h; have := numP_bd (Or.inl rfl) h; exact ⟨by omega, by omega⟩
      · rw [if_neg q3] at h; have := numP_bd (Or.inl rfl) h; exact ⟨by omega, by omega⟩
theorem itsP_bd {c : Int → Int} {w : Int} : ∀ (n : Nat) (i p : Int) (l : List Int), (itsP c w n i p).1 = some l → ∀ j : Nat, j < l.length → Bdv (l.getD j 0)
  | 0, i, p, l, h, j, hj => by
    unfold itsP at h; cases h; exact absurd hj (by simp)
  | n + 1, i, p, l, h, j, hj => by
    cases h1 : (itP c w i p).1 with
    | none =>
      have e := itsP_none (c := c) (w := w) (i := i) (p := p) (q := (itP c w i p).2) (n := n) (by rw [← h1])
      rw [e] at h; cases h
    | some v =>
      have hit : itP c w i p = (some v, (itP c w i p).2) := by rw [← h1]
      by_cases hc : c (itP c w i p).2 = (if n = 0 then 59 else 44)
      · have e := itsP_step (n := n) (pre := []) hit hc
        have e0 : ∀ r : Option (List Int) × Int, addL [] r = r := fun r => by unfold addL; simp
        rw [e0] at e
        rw [e] at h
        unfold addL at h
        simp only [] at h
        cases h2 : (itsP c w n (i + 1) ((itP c w i p).2 + 1)).1 with
        | none => rw [h2] at h; cases h
        | some l' =>
          rw [h2] at h
          cases h
          cases j with
          | zero => exact itP_bd h1
          | succ j =>
            have hj' : j < l'.length := by simp at hj; omega
            have := itsP_bd n (i + 1) ((itP c w i p).2 + 1) l' h2 j hj'
            simpa using this
      · have e := itsP_bad (n := n) hit hc
        rw [e] at h; cases h
theorem isE_le {c : Int → Int} {L p e : Int} (h : LT c L) (hE : isE c p e) (hp : p ≤ L) : e ≤ L := by
  by_cases q : e ≤ L
  · exact q
  · have := hE.2.1 (e - 1) (by omega) (by omega)
    have := h.nz (i := e - 1) (by omega)
    omega
theorem itsP_rng {c : Int → Int} {L w : Int} (h : LT c L) : ∀ (n : Nat) (i p : Int), p ≤ L → p ≤ (itsP c w n i p).2 ∧ (itsP c w n i p).2 ≤ L
  | 0, i, p, hp => ⟨Int.le_refl _, hp⟩
  | n + 1, i, p, hp => by
    have hpo := itP_pos (c := c) (L := L) (w := w) (i := i) (p := p) h hp
    cases h1 : (itP c w i p).1 with
    | none =>
      rw [itsP_none (c := c) (w := w) (i := i) (p := p) (q := (itP c w i p).2) (n := n) (by rw [← h1])]
      exact ⟨hpo.1, hpo.2.1⟩
    | some v =>
      have hit : itP c w i p = (some v, (itP c w i p).2) := by rw [← h1]
      by_cases hc : c (itP c w i p).2 = (if n = 0 then 59 else 44)
      · have e := itsP_step (n := n) (pre := []) hit hc
        have e0 : ∀ r : Option (List Int) × Int, addL [] r = r := fun r => by unfold addL; simp
        rw [e0] at e
        rw [e]
        have hlt := h.nz (i := (itP c w i p).2) (by rw [hc]; split <;> omega)
        have := itsP_rng (w := w) h n (i + 1) ((itP c w i p).2 + 1) (by omega)
        exact ⟨by show p ≤ (itsP c w n (i + 1) ((itP c w i p).2 + 1)).2; have := hpo.1; omega, this.2⟩
      · rw [itsP_bad (n := n) hit hc]; exact ⟨hpo.1, hpo.2.1⟩
/-! the reference runs -/
def FRr (N M7 : jT) : Prop := (∀ a, a ≠ 608 → a ≠ 609 → a ≠ 612 → a ≠ 615 → a ≠ 627 → M7 a = N a) ∧ ∀ b, b ≠ 0 → b ≠ 8 → b ≠ 9 → b ≠ 10 → b ≠ 14 → b ≠ 33 → M7 608 b = N 608 b
def RNn (N N' : jT) : Prop := FRr N N' ∧ N' 608 0 = 0 ∧ eqA (N' 612) (N 609) ∧ N' 608 8 = 0 ∧ N' 608 14 = -1
theorem r_run {c : Int → Int} {N : jT} {Q : Int → jT → Prop} (h : RdR c N) (hA : AOk (N 609)) (hR : RC N)
    (kn : ∀ q N', txP c (N 608 8) 9 0 = (none, q) → 0 ≤ q ∧ q ≤ 60 → RNn N N' → N' 608 10 = q → wp_X11_ends N' 608 (-1) Q)
    (kf : ∀ t q e N', txP c (N 608 8) 9 0 = (some t, q) → FailAt (N 609) t e → 0 ≤ e ∧ e ≤ 60 → RNn N N' → N' 608 10 = e → wp_X11_ends N' 608 (-2) Q)
    (ko : ∀ t q N', txP c (N 608 8) 9 0 = (some t, q) → t.length ≤ 9 → okAll (N 609) t → RNn N N' → N' 609 = endA (N 609) t → N' 608 10 = -1 → wp_X11_ends N' 608 (t.length : Int) Q) : wp_X11_run N 608 Q := by
  have hL := h.1.1
  unfold wp_X11_run
  refine sp_tries fun M2 f2 g2 z2 e2 => up_in fun M3 k3 => ?_
  have F3 : ∀ a, a ≠ 608 → a ≠ 612 → M3 a = N a := fun a a1 a2 => by rw [← f2 a a1 a2]; funext b; rw [k3, if_neg (by omega)]
  have G3 : ∀ b, b ≠ 0 → b ≠ 9 → M3 608 b = N 608 b := fun b b1 b2 => by rw [k3, if_neg (by omega)]; exact g2 b b1
  have r3 : RC M3 := hR.mv (F3 609 (by omega) (by omega)) (fun b hb => G3 b (by omega) (by omega)) (fun a a1 a2 => F3 a (by omega) (by omega))
  generalize hLL : N 608 8 = L at *
  refine ⟨fun n k x5 x6 M7 => FRr N M7 ∧ M7 608 8 = L ∧ M7 608 0 = 0 ∧ eqA (M7 612) (N 609) ∧ RC M7 ∧ AOk (M7 609) ∧ ∃ (pre : List TCm) (p : Int), (pre.length : Int) = k ∧ M7 608 9 = p ∧ 7 * (pre.length : Int) ≤ p ∧ p ≤ L ∧ ((x6 = 1 ∧ pre.length ≤ 8 ∧ 9 - pre.length ≤ n ∧ txP c L 9 0 = addT pre (txP c L (9 - pre.length) p)) ∨ (x6 = 0 ∧ pre.length ≤ 9 ∧ txP c L 9 0 = (some pre, p) ∧ M7 608 14 = -1)) ∧ ((x5 = -1 ∧ okAll (N 609) pre ∧ M7 609 = endA (N 609) pre) ∨ ((0 ≤ x5 ∧ x5 ≤ 60) ∧ FailAt (N 609) pre x5)), ⟨9, ⟨fun a a1 a2 a3 a4 a5 => F3 a a1 a3, fun b b1 b2 b3 b4 b5 b6 => G3 b b1 b3⟩, by rw [G3 8 (by omega) (by omega)]; exact hLL, by rw [k3, if_neg (by omega)]; exact z2, by rw [show M3 612 = M2 612 from funext fun b => by rw [k3, if_neg (by omega)]]; exact e2, r3, by rw [F3 609 (by omega) (by omega)]; exact hA, [], 0, rfl, by rw [k3, if_pos ⟨rfl, rfl⟩], by simp, by omega, Or.inl ⟨rfl, by simp, by simp, by unfold addT; simp⟩, Or.inl ⟨rfl, trivial, F3 609 (by omega) (by omega)⟩⟩, ?_⟩
  rintro n k x5 x6 M7 ⟨fr, e8, e0, e12, rc, ao, pre, p, a1, a2, a3, a4, a5, a6⟩
  have rx5 : rg x5 := by rcases a6 with ⟨q, _⟩ | ⟨q, _⟩ <;> exact ⟨by omega, by omega⟩
  have rx6 : rg x6 := by rcases a5 with ⟨q, _⟩ | ⟨q, _⟩ <;> exact ⟨by omega, by omega⟩
  have hlen : pre.length ≤ 9 := by rcases a5 with ⟨_, q, _⟩ | ⟨_, q, _⟩ <;> omega
  refine ⟨rx6, fun q => ?_, fun q => ?_⟩
  · rcases a5 with ⟨c0, _⟩ | ⟨_, c1, c2, c3⟩
    · omega
    · refine up_in fun M12 k12 => up_in fun M13 k13 => ⟨⟨rx5, fun _ => trivial, fun _ => trivial⟩, fun x16 g0 g1 => ?_⟩
      have hN : RNn N M13 := by
        refine ⟨⟨fun a b1 b2 b3 b4 b5 => ?_, fun b b1 b2 b3 b4 b5 b6 => ?_⟩, ?_, ?_, ?_, ?_⟩
        · rw [← fr.1 a b1 b2 b3 b4 b5]; funext b; rw [k13, if_neg (by omega), k12, if_neg (by omega)]
        · rw [k13, if_neg (by omega), k12, if_neg (by omega)]; exact fr.2 b b1 b2 b3 b4 b5 b6
        · rw [k13, if_neg (by omega), k12, if_neg (by omega)]; exact e0
        · intro i i0 i1; rw [k13, if_neg (by omega), k12, if_neg (by omega)]; exact e12 i i0 i1
        · rw [k13, if_pos ⟨rfl, rfl⟩]
        · rw [k13, if_neg (by omega), k12, if_neg (by omega)]; exact c3
      have e10 : M13 608 10 = x5 := by rw [k13, if_neg (by omega), k12, if_pos ⟨rfl, rfl⟩]
      have e609 : M13 609 = M7 609 := funext fun b => by rw [k13, if_neg (by omega), k12, if_neg (by omega)]
      rcases a6 with ⟨b1, b2, b3⟩ | ⟨b1, b2⟩
      · rw [g1 (by omega), ← a1]
        exact ko pre p M13 c2 c1 b2 hN (by rw [e609]; exact b3) (by rw [e10]; exact b1)
      · rw [g0 b1.1]
        exact kf pre p x5 M13 c2 b2 b1 hN e10
  · rcases a5 with ⟨_, c1, c2, c3⟩ | ⟨c0, _⟩
    rotate_left
    · omega
    intro x22 e22
    rw [a2] at e22
    subst e22
    have hR7 : RdR c M7 := by
      unfold RdR; rw [e8, fr.1 613 (by omega) (by omega) (by omega) (by omega) (by omega), ← hLL]; exact h
    obtain ⟨m, hm⟩ : ∃ m, 9 - pre.length = m + 1 := ⟨8 - pre.length, by omega⟩
    rw [hm] at c3
    have K : ∀ (q' : Int) (M57 : jT), cmdP c x22 = (none, q') → 0 ≤ q' ∧ q' ≤ 60 → FRr N M57 → M57 608 0 = 0 → eqA (M57 612) (N 609) → M57 608 9 = q' → ∀ M59 : jT, M59 = up M57 608 10 (M57 608 9) → ∀ M60 : jT, M60 = up M59 608 8 0 → ∀ M61 : jT, M61 = up M60 608 14 (-1) → wp_X11_ends M61 608 (-1) (fun z62 M63 => Q z62 M63) := by
      intro q' M57 hc hq f57 z57 t57 a57
      refine up_in fun M59 k59 => up_in fun M60 k60 => up_in fun M61 k61 => ?_
      refine kn q' M61 ?_ hq ⟨⟨fun a b1 b2 b3 b4 b5 => ?_, fun b b1 b2 b3 b4 b5 b6 => ?_⟩, ?_, ?_, ?_, ?_⟩ ?_
      · rw [c3, txP_none (by rw [hc]), hc]; rfl
      · rw [← f57.1 a b1 b2 b3 b4 b5]; funext b; rw [k61, if_neg (by omega), k60, if_neg (by omega), k59, if_neg (by omega)]
      · rw [k61, if_neg (by omega), k60, if_neg (by omega), k59, if_neg (by omega)]; exact f57.2 b b1 b2 b3 b4 b5 b6
      · rw [k61, if_neg (by omega), k60, if_neg (by omega), k59, if_neg (by omega)]; exact z57
      · intro i i0 i1; rw [k61, if_neg (by omega), k60, if_neg (by omega), k59, if_neg (by omega)]; exact t57 i i0 i1
      · rw [k61, if_neg (by omega), k60, if_pos ⟨rfl, rfl⟩]
      · rw [k61, if_pos ⟨rfl, rfl⟩]
      · rw [k61, if_neg (by omega), k60, if_neg (by omega), k59, if_pos ⟨rfl, rfl⟩]; exact a57
    have frR : ∀ M24, FrR M7 M24 → FRr N M24 ∧ M24 608 0 = 0 ∧ eqA (M24 612) (N 609) := fun M24 f => ⟨⟨fun a b1 b2 b3 b4 b5 => (f.1 a b1).trans (fr.1 a b1 b2 b3 b4 b5), fun b b1 b2 b3 b4 b5 b6 => (f.2 b b3).trans (fr.2 b b1 b2 b3 b4 b5 b6)⟩, by rw [f.2 0 (by omega)]; exact e0, by rw [f.1 612 (by omega)]; exact e12⟩
    refine r_word hR7 (p := x22) (by rw [e8]; omega) a2 (fun e M24 hE he w0 w5 hc f24 a24 => ?_) (fun e M24 hE hw hc f24 a24 => ?_) (fun e M24 hE hw f24 a24 => ?_)
    · rw [e8] at he
      have e0' := hE.1
      have hlt := h.1.nz (i := e) (by omega)
      generalize hww : wdF c x22 e = w at *
      have hR24 := hR7.fr f24
      have e824 : M24 608 8 = L := by rw [f24.2 8 (by omega)]; exact e8
      refine ⟨fun M57 => ∃ q', cmdP c x22 = (none, q') ∧ (0 ≤ q' ∧ q' ≤ 60) ∧ FRr N M57 ∧ M57 608 0 = 0 ∧ eqA (M57 612) (N 609) ∧ M57 608 9 = q', fun M57 ⟨q', y1, y2, y3, y4, y5, y6⟩ => K q' M57 y1 y2 y3 y4 y5 y6, ⟨by omega, by omega⟩, fun z => by omega, fun _ => ?_⟩
      have ec := cmdP_i hE (by rw [hww]; exact w0) hc
      rw [hww] at ec
      refine r_items hR24 ⟨w0, w5⟩ (p := e + 1) (by rw [e824]; omega) a24 (fun l q2 M67 hits f67 g67 a67 hl hit => ?_) (fun q2 M67 hits f67 g67 a67 => ?_)
      · have hcmd : cmdP c x22 = (some (w, l), q2) := by rw [ec, hits]; rfl
        have hpos := cmdP_pos h.1 (by rw [hcmd])
        rw [hcmd, hLL] at hpos
        have hpos : x22 + 7 ≤ q2 ∧ q2 ≤ L := hpos
        have bd := itsP_bd (c := c) (w := w) (mny w) 0 (e + 1) l (by rw [hits])
        refine ⟨⟨by omega, by omega⟩, fun _ => ?_, fun z => absurd z (by omega)⟩
        have F67 : ∀ a, a ≠ 608 → a ≠ 615 → M67 a = M7 a := fun a b1 b2 => (f67 a b1 b2).trans (f24.1 a b1)
        have G67 : ∀ b, b ≠ 9 → M67 608 b = M7 608 b := fun b b1 => (g67 b b1).trans (f24.2 b b1)
        have nxt : ∀ (x76 : Int) (M77 : jT), (∀ a, a ≠ 608 → a ≠ 609 → a ≠ 615 → a ≠ 627 → M77 a = M7 a) → (∀ b, b ≠ 9 → b ≠ 33 → M77 608 b = M7 608 b) → M77 608 9 = q2 → AOk (M77 609) → ((x76 = -1 ∧ okAll (N 609) (pre ++ [(x22, w, l)]) ∧ M77 609 = endA (N 609) (pre ++ [(x22, w, l)])) ∨ ((0 ≤ x76 ∧ x76 ≤ 60) ∧ FailAt (N 609) (pre ++ [(x22, w, l)]) x76)) → ∀ M79 : jT, M79 = up M77 608 14 (-1) → ∀ x80 : Int, x80 = k + 1 → (rg (M79 608 9) ∧ rg (M79 608 8) ∧ ((M79 608 8 ≤ M79 608 9 → True) ∧ (M79 608 9 < M79 608 8 → True))) ∧ ∃ n89, n89 < n ∧ (FRr N M79 ∧ M79 608 8 = L ∧ M79 608 0 = 0 ∧ eqA (M79 612) (N 609) ∧ RC M79 ∧ AOk (M79 609) ∧ ∃ (pre : List TCm) (p : Int), (pre.length : Int) = x80 ∧ M79 608 9 = p ∧ 7 * (pre.length : Int) ≤ p ∧ p ≤ L ∧ ((b2i (M79 608 9 < M79 608 8) = 1 ∧ pre.length ≤ 8 ∧ 9 - pre.length ≤ n89 ∧ txP c L 9 0 = addT pre (txP c L (9 - pre.length) p)) ∨ (b2i (M79 608 9 < M79 608 8) = 0 ∧ pre.length ≤ 9 ∧ txP c L 9 0 = (some pre, p) ∧ M79 608 14 = -1)) ∧ ((x76 = -1 ∧ okAll (N 609) pre ∧ M79 609 = endA (N 609) pre) ∨ ((0 ≤ x76 ∧ x76 ≤ 60) ∧ FailAt (N 609) pre x76))) := by
          intro x76 M77 f77 g77 a77 ao77 hst
          refine up_in fun M79 k79 => ?_
          intro x80 e80
          have F79 : ∀ a, a ≠ 608 → M79 a = M77 a := (fun a ha => funext fun b => by rw [k79 a b, if_neg (by omega)])
          have t9 : M79 608 9 = q2 := by rw [k79, if_neg (by omega)]; exact a77
          have t8 : M79 608 8 = L := by rw [k79, if_neg (by omega), g77 8 (by omega) (by omega)]; exact e8
          have t14 : M79 608 14 = -1 := by rw [k79, if_pos ⟨rfl, rfl⟩]
          refine ⟨⟨by rw [t9]; exact ⟨by omega, by omega⟩, by rw [t8]; exact ⟨by omega, by omega⟩, fun _ => trivial, fun _ => trivial⟩, n - 1, by omega, ⟨fun a b1 b2 b3 b4 b5 => by rw [F79 a b1, f77 a b1 b2 b4 b5]; exact fr.1 a b1 b2 b3 b4 b5, fun b b1 b2 b3 b4 b5 b6 => by rw [k79, if_neg (by omega), g77 b b3 b6]; exact fr.2 b b1 b2 b3 b4 b5 b6⟩, t8, by rw [k79, if_neg (by omega), g77 0 (by omega) (by omega)]; exact e0, by rw [F79 612 (by omega), f77 612 (by omega) (by omega) (by omega) (by omega)]; exact e12, ⟨by rw [t14]; exact ⟨by omega, by omega⟩, fun z z0 z1 z2 => by omega⟩, by rw [F79 609 (by omega)]; exact ao77, pre ++ [(x22, w, l)], q2, by simp; omega, t9, by simp; omega, hpos.2, ?_, ?_⟩
          · rw [t9, t8]
            by_cases c5 : q2 < L
            · left
              rw [b2i_t c5]
              refine ⟨rfl, by simp; omega, by simp; omega, ?_⟩
              rw [c3, txP_step (wl := (w, l)) (by rw [hcmd]) (by rw [hcmd]; exact c5), hcmd, show 9 - (pre ++ [(x22, w, l)]).length = m by simp; omega]
            · right
              rw [b2i_f c5]
              refine ⟨rfl, by simp; omega, ?_, t14⟩
              rw [c3, txP_end (wl := (w, l)) (by rw [hcmd]) (by rw [hcmd]; exact c5), hcmd]; rfl
          · rw [F79 609 (by omega)]; exact hst
        refine ⟨fun x76 M77 => (∀ a, a ≠ 608 → a ≠ 609 → a ≠ 615 → a ≠ 627 → M77 a = M7 a) ∧ (∀ b, b ≠ 9 → b ≠ 33 → M77 608 b = M7 608 b) ∧ M77 608 9 = q2 ∧ AOk (M77 609) ∧ ((x76 = -1 ∧ okAll (N 609) (pre ++ [(x22, w, l)]) ∧ M77 609 = endA (N 609) (pre ++ [(x22, w, l)])) ∨ ((0 ≤ x76 ∧ x76 ≤ 60) ∧ FailAt (N 609) (pre ++ [(x22, w, l)]) x76)), fun x76 M77 ⟨y1, y2, y3, y4, y5⟩ => nxt x76 M77 y1 y2 y3 y4 y5, rx5, fun q3 => ⟨fun a b1 b2 b3 b4 => F67 a b1 b3, fun b b1 b2 => G67 b b1, a67, by rw [F67 609 (by omega) (by omega)]; exact ao, ?_⟩, fun q3 => ?_⟩
        · rcases a6 with ⟨b1, _⟩ | ⟨b1, b2⟩
          · omega
          · exact Or.inr ⟨b1, b2.app⟩
        · rcases a6 with ⟨b1, b2, b3⟩ | ⟨b1, _⟩
          rotate_left
          · omega
          have e609 : M67 609 = M7 609 := F67 609 (by omega) (by omega)
          have rc67 : RC M67 := rc.mv e609 (fun b hb => G67 b (by omega)) (fun a _ _ => F67 a (by omega) (by omega))
          have hok : ∀ j : Nat, j < l.length → M67 615 j = vx w j (l.getD j 0) ∧ Bdv (l.getD j 0) := fun j hj => ⟨hit j hj, bd j hj⟩
          refine r_does (l := l) (by rw [e609]; exact ao) rc67 ⟨w0, w5⟩ hl hok (fun hk v M93 hv f93 e93 => ⟨hv.2, fun _ => ?_, fun z => by omega⟩) (fun hk v M93 hv f93 e93 => ⟨hv.2, fun z => by omega, fun _ => ?_⟩)
          · rw [e609, b3] at hk e93
            obtain ⟨u1, u2⟩ := okAll_app (p := x22) b2 hk
            exact ⟨fun a c1 c2 c3 c4 => (f93.1 a c1 c2 c4).trans (F67 a c1 c3), fun b c1 c2 => (f93.2 b c2).trans (G67 b c1), by rw [f93.2 9 (by omega)]; exact a67, by rw [e93]; exact nwC_ok (endA_ok hA b2) hk, Or.inl ⟨b1, u1, by rw [e93, u2]⟩⟩
          · rw [e609, b3] at hk
            exact ⟨fun a c1 c2 c3 c4 => (f93.1 a c1 c2 c4).trans (F67 a c1 c3), fun b c1 c2 => (f93.2 b c2).trans (G67 b c1), by rw [f93.2 9 (by omega)]; exact a67, by rw [e93, e609]; exact ao, Or.inr ⟨⟨by omega, by omega⟩, pre, [], w, l, rfl, b2, hk⟩⟩
      · have hcmd : cmdP c x22 = (none, q2) := by rw [ec, hits]; rfl
        refine ⟨⟨by omega, by omega⟩, fun z => absurd rfl z, fun _ => ⟨q2, hcmd, ?_, ⟨fun a b1 b2 b3 b4 b5 => by rw [f67 a b1 b4, f24.1 a b1]; exact fr.1 a b1 b2 b3 b4 b5, fun b b1 b2 b3 b4 b5 b6 => by rw [g67 b b3, f24.2 b b3]; exact fr.2 b b1 b2 b3 b4 b5 b6⟩, by rw [g67 0 (by omega), f24.2 0 (by omega)]; exact e0, by rw [f67 612 (by omega) (by omega), f24.1 612 (by omega)]; exact e12, a67⟩⟩
        have := itsP_rng h.1 (mny w) 0 (e + 1) (w := w) (by omega)
        rw [hits] at this
        exact ⟨by have := this.1; omega, by have := this.2; omega⟩
    · obtain ⟨y3, y4, y5⟩ := frR M24 f24
      have he := isE_le hR7.1 hE (by rw [e8]; exact a4)
      rw [e8] at he
      exact ⟨fun M57 => ∃ q', cmdP c x22 = (none, q') ∧ (0 ≤ q' ∧ q' ≤ 60) ∧ FRr N M57 ∧ M57 608 0 = 0 ∧ eqA (M57 612) (N 609) ∧ M57 608 9 = q', fun M57 ⟨q', y1, y2, y3, y4, y5, y6⟩ => K q' M57 y1 y2 y3 y4 y5 y6, ⟨by omega, by omega⟩, fun _ => ⟨e, cmdP_c hE hw hc, ⟨by have := hE.1; omega, by omega⟩, y3, y4, y5, a24⟩, fun z => by omega⟩
    · obtain ⟨y3, y4, y5⟩ := frR M24 f24
      exact ⟨fun M57 => ∃ q', cmdP c x22 = (none, q') ∧ (0 ≤ q' ∧ q' ≤ 60) ∧ FRr N M57 ∧ M57 608 0 = 0 ∧ eqA (M57 612) (N 609) ∧ M57 608 9 = q', fun M57 ⟨q', y1, y2, y3, y4, y5, y6⟩ => K q' M57 y1 y2 y3 y4 y5 y6, ⟨by omega, by omega⟩, fun _ => ⟨x22, cmdP_w hE hw, ⟨by omega, by omega⟩, y3, y4, y5, a24⟩, fun z => by omega⟩
