/-! write: the text of a rule -/
def d1 (n : Int) : List Int := if 1000 ≤ n then [48 + n / 1000 % 10] else []
def d2 (n : Int) : List Int := if 100 ≤ n then [48 + n / 100 % 10] else []
def d3 (n : Int) : List Int := if 10 ≤ n then [48 + n / 10 % 10] else []
def dg (n : Int) : List Int := ((d1 n ++ d2 n) ++ d3 n) ++ [48 + n % 10]
def dtx (d : Int) : List Int := if d ≤ 31 then dg d else if d < 500 then (dg (d / 100) ++ [120]) ++ dg (d % 100) else if d < 1000 then [108] ++ dg (d % 100) else (dg (d % 10) ++ [62]) ++ dg ((d - 1000) / 10)
def ckx (c : Int) : Int := if c = 0 then 119 else if c = 1 then 98 else 105
def pcx (R : Int → Int) (i : Nat) : List Int := if i = 5 then [ckx (R 5)] else if i < 2 then dg (2000 + R i) else if i = 3 then dtx (R 3) else dg (R i)
def tx (R : Int → Int) : Nat → List Int
  | 0 => []
  | i + 1 => (tx R i ++ (if i = 0 then [] else [44])) ++ pcx R i
theorem d1_le (n : Int) : (d1 n).length ≤ 1 := by unfold d1; split <;> simp
theorem d2_le (n : Int) : (d2 n).length ≤ 1 := by unfold d2; split <;> simp
theorem d3_le (n : Int) : (d3 n).length ≤ 1 := by unfold d3; split <;> simp
theorem dg_le (n : Int) : (dg n).length ≤ 4 := by
  have := d1_le n; have := d2_le n; have := d3_le n
  unfold dg; simp only [List.length_append, List.length_cons, List.length_nil]; omega
theorem dtx_le (d : Int) : (dtx d).length ≤ 9 := by
  have h1 := dg_le d; have h2 := dg_le (d / 100); have h3 := dg_le (d % 100); have h4 := dg_le (d % 10); have h5 := dg_le ((d - 1000) / 10)
  unfold dtx; split
  · omega
  · split
    · simp only [List.length_append, List.length_cons, List.length_nil]; omega
    · split <;> simp only [List.length_append, List.length_cons, List.length_nil] <;> omega
theorem pcx_le (R : Int → Int) (i : Nat) : (pcx R i).length ≤ (if i = 3 then 9 else 4) := by
  have h1 := dg_le (2000 + R i); have h2 := dg_le (R i); have h3 := dtx_le (R 3)
  unfold pcx
  by_cases c : i = 5
  · rw [if_pos c]; rw [if_neg (by omega)]; simp
  · rw [if_neg c]
    by_cases c2 : i < 2
    · rw [if_pos c2, if_neg (by omega)]; exact h1
    · rw [if_neg c2]
      by_cases c3 : i = 3
      · rw [if_pos c3, if_pos c3]; exact h3
      · rw [if_neg c3, if_neg c3]; exact h2
theorem pcx_5 {R : Int → Int} {i : Nat} (h : i = 5) : pcx R i = [ckx (R 5)] := by unfold pcx; rw [if_pos h]
theorem pcx_lt {R : Int → Int} {i : Nat} (h : i < 2) : pcx R i = dg (2000 + R i) := by unfold pcx; rw [if_neg (by omega), if_pos h]
theorem pcx_3 {R : Int → Int} {i : Nat} (h : i = 3) : pcx R i = dtx (R 3) := by unfold pcx; rw [if_neg (by omega), if_neg (by omega), if_pos h]
theorem pcx_o {R : Int → Int} {i : Nat} (h : i ≠ 5 ∧ 2 ≤ i ∧ i ≠ 3) : pcx R i = dg (R i) := by unfold pcx; rw [if_neg h.1, if_neg (by omega), if_neg h.2.2]
theorem tx_le (R : Int → Int) (i : Nat) (h : i ≤ 7) : (tx R i).length ≤ 5 * i + 5 := by
  have key : ∀ i : Nat, (tx R i).length ≤ 5 * i + (if 3 < i then 5 else 0) := by
    intro i
    induction i with
    | zero => simp [tx]
    | succ i ih =>
      have hp := pcx_le R i
      have hs : (if i = 0 then ([] : List Int) else [44]).length ≤ 1 := by split <;> simp
      simp only [tx, List.length_append]
      generalize (if i = 0 then ([] : List Int) else [44]) = ss at hs ⊢
      by_cases c : i = 3
      · rw [if_pos c] at hp
        rw [if_neg (by omega)] at ih
        rw [if_pos (by omega)]; omega
      · rw [if_neg c] at hp
        by_cases c2 : 3 < i
        · rw [if_pos c2] at ih; rw [if_pos (by omega)]; omega
        · rw [if_neg c2] at ih; rw [if_neg (by omega)]; omega
  have := key i
  split at this <;> omega
theorem dg_step {n : Int} (h0 : 10 ≤ n) (h1 : n < 10000) : dg n = dg (n / 10) ++ [48 + n % 10] := by
  have e1 : d1 (n / 10) = [] := by unfold d1; rw [if_neg (by omega)]
  have e2 : d2 (n / 10) = d1 n := by
    unfold d1 d2
    by_cases c : 1000 ≤ n
    · rw [if_pos c, if_pos (by omega), show n / 10 / 100 % 10 = n / 1000 % 10 by omega]
    · rw [if_neg c, if_neg (by omega)]
  have e3 : d3 (n / 10) = d2 n := by
    unfold d2 d3
    by_cases c : 100 ≤ n
    · rw [if_pos c, if_pos (by omega), show n / 10 / 10 % 10 = n / 100 % 10 by omega]
    · rw [if_neg c, if_neg (by omega)]
  have e4 : d3 n = [48 + n / 10 % 10] := by unfold d3; rw [if_pos h0]
  unfold dg
  rw [e1, e2, e3, e4, List.nil_append]
theorem dg_1 {n : Int} (h1 : n ≤ 9) : dg n = [48 + n % 10] := by
  unfold dg d1 d2 d3
  rw [if_neg (by omega), if_neg (by omega), if_neg (by omega)]; rfl
/-- the letters of the class's writer -/
def CT (N : jT) (w : List Int) : Prop := N 604 0 = w.length ∧ ∀ (i : Nat) (v : Int), w[i]? = some v → N 605 i = v
def RT (N : jT) (w : List Int) : Prop := N 608 12 = w.length ∧ ∀ (i : Nat) (v : Int), w[i]? = some v → N 614 i = v
def F8 (N N' : jT) : Prop := ∀ a, a ≠ 604 → a ≠ 605 → N' a = N a
def R8 (N N' : jT) : Prop := (∀ a, a ≠ 608 → a ≠ 614 → N' a = N a) ∧ ∀ b, b ≠ 12 → N' 608 b = N 608 b
theorem F8.trans {M M1 M2 : jT} (a : F8 M M1) (b : F8 M1 M2) : F8 M M2 := fun x h1 h2 => (b x h1 h2).trans (a x h1 h2)
theorem R8.trans {M M1 M2 : jT} (a : R8 M M1) (b : R8 M1 M2) : R8 M M2 := ⟨fun x h1 h2 => (b.1 x h1 h2).trans (a.1 x h1 h2), fun x h => (b.2 x h).trans (a.2 x h)⟩
theorem R8.rfl {M : jT} : R8 M M := ⟨fun _ _ _ => Eq.refl _, fun _ _ => Eq.refl _⟩
theorem snoc_get {w : List Int} {c : Int} {i : Nat} {v : Int} (h : (w ++ [c])[i]? = some v) : (i < w.length ∧ w[i]? = some v) ∨ (i = w.length ∧ c = v) := by
  by_cases q : i < w.length
  · rw [List.getElem?_append_left q] at h; exact Or.inl ⟨q, h⟩
  · rw [List.getElem?_append_right (by omega)] at h
    by_cases q2 : i = w.length
    · rw [q2, Nat.sub_self] at h; exact Or.inr ⟨q2, by simpa using h⟩
    · have hlt := (List.getElem?_eq_some_iff.mp h).1
      simp at hlt; omega
theorem sp_wput {N : jT} {w : List Int} {c : Int} {Q : jT → Prop} (h : CT N w) (hl : w.length < 60) (hc : 0 ≤ c ∧ c < 65536) (k : ∀ N', F8 N N' → CT N' (w ++ [c]) → Q N') : wp_X8_put N 604 c Q := by
  obtain ⟨h1, h2⟩ := h
  unfold wp_X8_put
  simp only [Int.reduceAdd]
  rw [h1]
  refine ⟨Q, fun _ q => q, ⟨by omega, by omega⟩, fun q => by omega, fun q => ⟨⟨by omega, by omega⟩, hc, up_in fun N1 n1 => up_in fun N2 n2 => k N2 (fun a a1 a2 => by funext b; rw [n2, if_neg (by omega), n1, if_neg (by omega)]) ⟨?_, fun i v hv => ?_⟩⟩⟩
  · rw [n2, if_pos ⟨rfl, rfl⟩, n1, if_neg (by omega), h1]; simp
  · rw [n2, if_neg (by omega), n1]
    rcases snoc_get hv with ⟨q1, q2⟩ | ⟨q1, q2⟩
    · rw [if_neg (by omega)]; exact h2 i v q2
    · rw [if_pos ⟨rfl, by omega⟩]; exact q2
theorem rt_put {N N1 N2 : jT} {w : List Int} {c : Int} (h : RT N w) (n1 : ∀ a b, N1 a b = if a = 608 ∧ b = 12 then N 608 12 + 1 else N a b) (n2 : ∀ a b, N2 a b = if a = 614 ∧ b = N 608 12 then c else N1 a b) : RT N2 (w ++ [c]) ∧ R8 N N2 := by
  obtain ⟨h1, h2⟩ := h
  refine ⟨⟨?_, fun i v hv => ?_⟩, fun a a1 a2 => ?_, fun b hb => ?_⟩
  · rw [n2, if_neg (by omega), n1, if_pos ⟨rfl, rfl⟩, h1]; simp
  · rw [n2, h1]
    rcases snoc_get hv with ⟨q1, q2⟩ | ⟨q1, q2⟩
    · rw [if_neg (by omega), n1, if_neg (by omega)]; exact h2 i v q2
    · rw [if_pos ⟨rfl, by omega⟩]; exact q2
  · funext b; rw [n2, if_neg (by omega), n1, if_neg (by omega)]
  · rw [n2, if_neg (by omega), n1, if_neg (by omega)]
theorem sp_wnum {N : jT} {w : List Int} {n : Int} {Q : jT → Prop} (h : CT N w) (hl : w.length ≤ 50) (hn : 0 ≤ n ∧ n < 10000) (k : ∀ N', F8 N N' → CT N' (w ++ dg n) → Q N') : wp_X8_putNumber N 604 n Q := by
  have l1 := d1_le n; have l2 := d2_le n; have l3 := d3_le n
  unfold wp_X8_putNumber
  refine ⟨fun m x N' => F8 N N' ∧ x.toNat ≤ m ∧ ((x = 1000 ∧ CT N' w) ∨ (x = 100 ∧ CT N' (w ++ d1 n)) ∨ (x = 10 ∧ CT N' (w ++ (d1 n ++ d2 n))) ∨ (x = 1 ∧ CT N' (w ++ ((d1 n ++ d2 n) ++ d3 n)))), ⟨1000, fun _ _ _ => rfl, by omega, Or.inl ⟨rfl, h⟩⟩, ?_⟩
  rintro m x N' ⟨F, i1, i2⟩
  have rx : rg x := by rcases i2 with ⟨q, _⟩ | ⟨q, _⟩ | ⟨q, _⟩ | ⟨q, _⟩ <;> rw [q] <;> exact ⟨by omega, by omega⟩
  refine ⟨rx, fun q => ?_, fun q => ?_⟩
  · rcases i2 with ⟨e, _⟩ | ⟨e, _⟩ | ⟨e, _⟩ | ⟨e, hc⟩
    · omega
    · omega
    · omega
    · refine ⟨⟨by omega, by omega⟩, ⟨by omega, by omega⟩, sp_wput hc (by simp only [List.length_append]; omega) ⟨by omega, by omega⟩ fun N2 F2 h2 => k N2 (F.trans F2) ?_⟩
      have : (w ++ ((d1 n ++ d2 n) ++ d3 n)) ++ [48 + n % 10] = w ++ dg n := by unfold dg; rw [List.append_assoc]
      rw [this] at h2; exact h2
  · have step : ∀ (u : Int) (pre d : List Int), x = u → 1 < u → u ≤ 1000 → CT N' (w ++ pre) → pre.length ≤ 3 → d = (if u ≤ n then [48 + n / u % 10] else []) → (∀ N2, F8 N N2 → CT N2 (w ++ (pre ++ d)) → (u / 10 = 1000 ∧ CT N2 w) ∨ (u / 10 = 100 ∧ CT N2 (w ++ d1 n)) ∨ (u / 10 = 10 ∧ CT N2 (w ++ (d1 n ++ d2 n))) ∨ (u / 10 = 1 ∧ CT N2 (w ++ ((d1 n ++ d2 n) ++ d3 n)))) → (∃ K20 : jT → Prop, (∀ (M19 : jT), K20 M19 → ((0 ≤ x ∧ x < 2147483648) ∧ ∀ x22 : Int, x22 = x / 10 → ∃ n23, n23 < m ∧ (F8 N M19 ∧ x22.toNat ≤ n23 ∧ ((x22 = 1000 ∧ CT M19 w) ∨ (x22 = 100 ∧ CT M19 (w ++ d1 n)) ∨ (x22 = 10 ∧ CT M19 (w ++ (d1 n ++ d2 n))) ∨ (x22 = 1 ∧ CT M19 (w ++ ((d1 n ++ d2 n) ++ d3 n))))))) ∧ rg n ∧ ((n < x → K20 N') ∧ (x ≤ n → ((0 < x ∧ x < 2147483648) ∧ (0 ≤ n ∧ n < 2147483648) ∧ (0 ≤ (n / x) ∧ (n / x) < 2147483648) ∧ (0 ≤ (48 + ((n / x) % 10)) ∧ (48 + ((n / x) % 10)) < 65536) ∧ wp_X8_put N' 604 (48 + ((n / x) % 10)) (fun M31 => K20 M31))))) := by
      intro u pre d ex u1 u2 hC hp hd hk
      subst ex
      have hdiv : 0 ≤ n / x ∧ n / x ≤ n := ⟨Int.ediv_nonneg (by omega) (by omega), Int.ediv_le_self _ (by omega)⟩
      refine ⟨fun N2 => F8 N N2 ∧ CT N2 (w ++ (pre ++ d)), fun N2 ⟨g1, g2⟩ => ⟨⟨by omega, by omega⟩, fun y ey => ⟨y.toNat, by omega, g1, Nat.le_refl _, by rw [ey]; exact hk N2 g1 g2⟩⟩, ⟨by omega, by omega⟩, fun c => ⟨F, ?_⟩, fun c => ⟨⟨by omega, by omega⟩, ⟨by omega, by omega⟩, ⟨by omega, by omega⟩, ⟨by omega, by omega⟩, ?_⟩⟩
      · rw [hd, if_neg (by omega), List.append_nil]; exact hC
      · refine sp_wput hC (by simp only [List.length_append]; omega) ⟨by omega, by omega⟩ fun N2 F2 h2 => ⟨F.trans F2, ?_⟩
        rw [hd, if_pos c]
        rw [List.append_assoc] at h2; exact h2
    rcases i2 with ⟨e, hc⟩ | ⟨e, hc⟩ | ⟨e, hc⟩ | ⟨e, hc⟩
    · exact step 1000 [] (d1 n) e (by omega) (by omega) (by rw [List.append_nil]; exact hc) (by simp) rfl (fun N2 _ g => Or.inr (Or.inl ⟨by decide, by rw [List.nil_append] at g; exact g⟩))
    · exact step 100 (d1 n) (d2 n) e (by omega) (by omega) hc (by omega) rfl (fun N2 _ g => Or.inr (Or.inr (Or.inl ⟨by decide, g⟩)))
    · exact step 10 (d1 n ++ d2 n) (d3 n) e (by omega) (by omega) hc (by simp only [List.length_append]; omega) rfl (fun N2 _ g => Or.inr (Or.inr (Or.inr ⟨by decide, g⟩)))
    · omega
theorem sp_wdate {N : jT} {w : List Int} {d : Int} {Q : jT → Prop} (h : CT N w) (hl : w.length ≤ 40) (hd : 0 ≤ d ∧ d < 10000) (k : ∀ N', F8 N N' → CT N' (w ++ dtx d) → Q N') : wp_X8_putDate N 604 d Q := by
  unfold wp_X8_putDate
  refine ⟨fun N' => F8 N N' ∧ CT N' (w ++ dtx d), fun N' g => k N' g.1 g.2, ⟨by omega, by omega⟩, fun q => ⟨fun q2 => ⟨fun q3 => ⟨⟨by omega, by omega⟩, ?_⟩, fun q3 => ?_⟩, fun q2 => ⟨⟨by omega, by omega⟩, ?_⟩⟩, fun q => ?_⟩
  · have e : dtx d = (dg (d % 10) ++ [62]) ++ dg ((d - 1000) / 10) := by unfold dtx; rw [if_neg (by omega), if_neg (by omega), if_neg (by omega)]
    have l1 := dg_le (d % 10)
    refine sp_wnum h (by omega) ⟨by omega, by omega⟩ fun N1 F1 h1 => sp_wput h1 (by simp only [List.length_append]; omega) ⟨by omega, by omega⟩ fun N2 F2 h2 => ⟨⟨by omega, by omega⟩, sp_wnum h2 (by simp only [List.length_append, List.length_cons, List.length_nil]; omega) ⟨by omega, by omega⟩ fun N3 F3 h3 => ⟨(F1.trans F2).trans F3, ?_⟩⟩
    rw [e]; simp only [List.append_assoc] at h3 ⊢; exact h3
  · have e : dtx d = [108] ++ dg (d % 100) := by unfold dtx; rw [if_neg (by omega), if_neg (by omega), if_pos (by omega)]
    refine sp_wput h (by omega) ⟨by omega, by omega⟩ fun N1 F1 h1 => ⟨⟨by omega, by omega⟩, sp_wnum h1 (by simp only [List.length_append, List.length_cons, List.length_nil]; omega) ⟨by omega, by omega⟩ fun N2 F2 h2 => ⟨F1.trans F2, ?_⟩⟩
    rw [e]; simp only [List.append_assoc] at h2 ⊢; exact h2
  · have e : dtx d = (dg (d / 100) ++ [120]) ++ dg (d % 100) := by unfold dtx; rw [if_neg (by omega), if_pos (by omega)]
    have l1 := dg_le (d / 100)
    refine sp_wnum h (by omega) ⟨by omega, by omega⟩ fun N1 F1 h1 => sp_wput h1 (by simp only [List.length_append]; omega) ⟨by omega, by omega⟩ fun N2 F2 h2 => sp_wnum h2 (by simp only [List.length_append, List.length_cons, List.length_nil]; omega) ⟨by omega, by omega⟩ fun N3 F3 h3 => ⟨(F1.trans F2).trans F3, ?_⟩
    rw [e]; simp only [List.append_assoc] at h3 ⊢; exact h3
  · have e : dtx d = dg d := by unfold dtx; rw [if_pos q]
    rw [e]
    exact sp_wnum h (by omega) hd fun N1 F1 h1 => ⟨F1, h1⟩
theorem sp_wclock {N : jT} {w : List Int} {c : Int} {Q : jT → Prop} (h : CT N w) (hl : w.length ≤ 40) (hc : 0 ≤ c ∧ c ≤ 2) (k : ∀ N', F8 N N' → CT N' (w ++ [ckx c]) → Q N') : wp_X8_putClock N 604 c Q := by
  unfold wp_X8_putClock
  refine ⟨fun N' => F8 N N' ∧ CT N' (w ++ [ckx c]), fun N' g => k N' g.1 g.2, ⟨by omega, by omega⟩, fun q => ?_, fun q => ?_, fun q => ?_⟩
  · have e : ckx c = 119 := by unfold ckx; rw [if_pos q]
    rw [e]; exact sp_wput h (by omega) ⟨by omega, by omega⟩ fun N1 F1 h1 => ⟨F1, h1⟩
  · have e : ckx c = 98 := by unfold ckx; rw [if_neg (by omega), if_pos q]
    rw [e]; exact sp_wput h (by omega) ⟨by omega, by omega⟩ fun N1 F1 h1 => ⟨F1, h1⟩
  · have e : ckx c = 105 := by unfold ckx; rw [if_neg q.1, if_neg q.2]
    rw [e]; exact sp_wput h (by omega) ⟨by omega, by omega⟩ fun N1 F1 h1 => ⟨F1, h1⟩
theorem rf_writes_a {N : jT} {w : List Int} {n : Int} {Q : jT → Prop} (h : RT N w) (hl : w.length ≤ 50) (hn : 0 ≤ n ∧ n < 10) (k : ∀ N', R8 N N' → RT N' (w ++ dg n) → Q N') : wp_X11_writes_a N 608 n Q := by
  unfold wp_X11_writes_a
  simp only [Int.reduceAdd]
  have h1 := h.1
  refine ⟨⟨by omega, by omega⟩, fun q => up_in fun N1 n1 => ⟨⟨by omega, by omega⟩, ⟨by omega, by omega⟩, up_in fun N2 n2 => ?_⟩, fun q => by omega⟩
  obtain ⟨g1, g2⟩ := rt_put h n1 n2
  rw [← dg_1 q] at g1
  exact k N2 g2 g1
theorem rf_writes_b {N : jT} {w : List Int} {n : Int} {Q : jT → Prop} (h : RT N w) (hl : w.length ≤ 50) (hn : 0 ≤ n ∧ n < 100) (k : ∀ N', R8 N N' → RT N' (w ++ dg n) → Q N') : wp_X11_writes_b N 608 n Q := by
  unfold wp_X11_writes_b
  simp only [Int.reduceAdd]
  refine ⟨fun N' => R8 N N' ∧ ((n ≤ 9 ∧ RT N' w) ∨ (9 < n ∧ RT N' (w ++ dg (n / 10)))), fun N' ⟨g1, g2⟩ => up_in fun N1 n1 => ⟨⟨by omega, by omega⟩, ?_, up_in fun N2 n2 => ?_⟩, ⟨by omega, by omega⟩, fun q => ⟨R8.rfl, Or.inl ⟨q, h⟩⟩, fun q => ⟨⟨by omega, by omega⟩, rf_writes_a h (by omega) (by omega) fun N' g1 g2 => ⟨g1, Or.inr ⟨q, g2⟩⟩⟩⟩
  · have := dg_le (n / 10)
    rcases g2 with ⟨_, g2⟩ | ⟨_, g2⟩
    · have := g2.1; omega
    · have := g2.1; simp only [List.length_append] at this; omega
  · rcases g2 with ⟨q, g2⟩ | ⟨q, g2⟩
    · obtain ⟨r1, r2⟩ := rt_put g2 n1 n2
      rw [← dg_1 q] at r1
      exact k N2 (g1.trans r2) r1
    · obtain ⟨r1, r2⟩ := rt_put g2 n1 n2
      rw [List.append_assoc, ← dg_step (by omega) (by omega)] at r1
      exact k N2 (g1.trans r2) r1
theorem rf_writes_c {N : jT} {w : List Int} {n : Int} {Q : jT → Prop} (h : RT N w) (hl : w.length ≤ 50) (hn : 0 ≤ n ∧ n < 1000) (k : ∀ N', R8 N N' → RT N' (w ++ dg n) → Q N') : wp_X11_writes_c N 608 n Q := by
  unfold wp_X11_writes_c
  simp only [Int.reduceAdd]
  refine ⟨fun N' => R8 N N' ∧ ((n ≤ 9 ∧ RT N' w) ∨ (9 < n ∧ RT N' (w ++ dg (n / 10)))), fun N' ⟨g1, g2⟩ => up_in fun N1 n1 => ⟨⟨by omega, by omega⟩, ?_, up_in fun N2 n2 => ?_⟩, ⟨by omega, by omega⟩, fun q => ⟨R8.rfl, Or.inl ⟨q, h⟩⟩, fun q => ⟨⟨by omega, by omega⟩, rf_writes_b h (by omega) (by omega) fun N' g1 g2 => ⟨g1, Or.inr ⟨q, g2⟩⟩⟩⟩
  · have := dg_le (n / 10)
    rcases g2 with ⟨_, g2⟩ | ⟨_, g2⟩
    · have := g2.1; omega
    · have := g2.1; simp only [List.length_append] at this; omega
  · rcases g2 with ⟨q, g2⟩ | ⟨q, g2⟩
    · obtain ⟨r1, r2⟩ := rt_put g2 n1 n2
      rw [← dg_1 q] at r1
      exact k N2 (g1.trans r2) r1
    · obtain ⟨r1, r2⟩ := rt_put g2 n1 n2
      rw [List.append_assoc, ← dg_step (by omega) (by omega)] at r1
      exact k N2 (g1.trans r2) r1
theorem rf_writes {N : jT} {w : List Int} {n : Int} {Q : jT → Prop} (h : RT N w) (hl : w.length ≤ 50) (hn : 0 ≤ n ∧ n < 10000) (k : ∀ N', R8 N N' → RT N' (w ++ dg n) → Q N') : wp_X11_writes N 608 n Q := by
  unfold wp_X11_writes
  simp only [Int.reduceAdd]
  refine ⟨fun N' => R8 N N' ∧ ((n ≤ 9 ∧ RT N' w) ∨ (9 < n ∧ RT N' (w ++ dg (n / 10)))), fun N' ⟨g1, g2⟩ => up_in fun N1 n1 => ⟨⟨by omega, by omega⟩, ?_, up_in fun N2 n2 => ?_⟩, ⟨by omega, by omega⟩, fun q => ⟨R8.rfl, Or.inl ⟨q, h⟩⟩, fun q => ⟨⟨by omega, by omega⟩, rf_writes_c h (by omega) (by omega) fun N' g1 g2 => ⟨g1, Or.inr ⟨q, g2⟩⟩⟩⟩
  · have := dg_le (n / 10)
    rcases g2 with ⟨_, g2⟩ | ⟨_, g2⟩
    · have := g2.1; omega
    · have := g2.1; simp only [List.length_append] at this; omega
  · rcases g2 with ⟨q, g2⟩ | ⟨q, g2⟩
    · obtain ⟨r1, r2⟩ := rt_put g2 n1 n2
      rw [← dg_1 q] at r1
      exact k N2 (g1.trans r2) r1
    · obtain ⟨r1, r2⟩ := rt_put g2 n1 n2
      rw [List.append_assoc, ← dg_step (by omega) (by omega)] at r1
      exact k N2 (g1.trans r2) r1
theorem rule_okA {M : jT} {z r : Int} (hA : AOk (M 609)) (hz : rg z) (hr : rg r) : pg_X11_isRule M 608 z r ∧ (pb_X11_isRule M 608 z r ↔ (0 ≤ z ∧ z < M 609 0) ∧ 0 ≤ r ∧ r < zsl (M 609) z 1) := by
  have a1 := hA.1
  have key : 0 ≤ z ∧ z < M 609 0 → M 609 (2 + 67 * z + 1) = zsl (M 609) z 1 ∧ 0 ≤ zsl (M 609) z 1 ∧ zsl (M 609) z 1 ≤ 8 := fun c => ⟨(zsl_at (by omega)).symm, (hA.2.2.1 z c.1 c.2).2.1⟩
  have pz : pg_X11_isZone M 608 z := by
    unfold pg_X11_isZone; simp only [Int.reduceAdd]
    exact ⟨pg_in hz ⟨by omega, by omega⟩ ⟨by omega, by omega⟩, trivial⟩
  constructor
  · unfold pg_X11_isRule
    simp only [Int.reduceAdd]
    refine ⟨pz, fun _ => trivial, fun c => ?_⟩
    obtain ⟨k1, k2, k3⟩ := key (zi.mp c)
    have := zi.mp c
    rw [zAt, k1]
    exact ⟨by omega, pg_in hr ⟨by omega, by omega⟩ ⟨by omega, by omega⟩, fun _ => trivial, fun _ => trivial⟩
  · constructor
    · rintro ⟨q1, q2⟩
      have c := zi.mp q1
      have q2 : 0 ≤ r ∧ r ≤ M 609 (2 + 67 * z + 1) - 1 := q2
      rw [(key c).1] at q2
      exact ⟨c, q2.1, by omega⟩
    · rintro ⟨c, q1, q2⟩
      refine ⟨zi.mpr c, ?_⟩
      show 0 ≤ r ∧ r ≤ M 609 (2 + 67 * z + 1) - 1
      rw [(key c).1]
      exact ⟨q1, by omega⟩
theorem rf_write {M : jT} {z r : Int} {R : Int → Int} {Q : Int → jT → Prop} (hA : AOk (M 609)) (rz : rg z) (rr : rg r)
    (k1 : ¬ ((0 ≤ z ∧ z < M 609 0) ∧ 0 ≤ r ∧ r < zsl (M 609) z 1) → ∀ M4 : jT, (∀ a b, M4 a b = if a = 608 ∧ b = 0 then 1 else M a b) → Q 0 M4)
    (hR : (0 ≤ z ∧ z < M 609 0) ∧ 0 ≤ r ∧ r < zsl (M 609) z 1 → ∀ i : Nat, i < 7 → R i = zsl (M 609) z (3 + 7 * r + i) ∧ 0 ≤ R i ∧ R i < 2000 ∧ (i = 5 → R i ≤ 2))
    (k2 : (0 ≤ z ∧ z < M 609 0) ∧ 0 ≤ r ∧ r < zsl (M 609) z 1 → ∀ M4, M4 608 0 = 0 → (∀ a, a ≠ 608 → a ≠ 614 → M4 a = M a) → (∀ b, b ≠ 0 → b ≠ 12 → M4 608 b = M 608 b) → RT M4 (tx R 7) → Q (M4 608 12) M4) : wp_X11_write M 608 z r Q := by
  unfold wp_X11_write
  simp only [Int.reduceAdd]
  refine up_in fun M1 n1 => ?_
  have i2 : M1 609 = M 609 := by funext b; rw [n1, if_neg (by omega)]
  have i3 : M1 608 0 = 0 := by rw [n1, if_pos ⟨rfl, rfl⟩]
  obtain ⟨p1, p2⟩ := rule_okA (M := M1) (by rw [i2]; exact hA) rz rr
  rw [i2] at p2
  refine ⟨p1, fun q => ?_, fun q => ?_⟩
  rotate_left
  · unfold wp_X11_raises
    refine up_in fun M3 h3 => k1 (fun w => q (p2.mpr w)) M3 (fun a b => ?_)
    rw [h3, n1]
    by_cases q2 : a = 608 ∧ b = 0
    · rw [if_pos q2, if_pos q2]
    · rw [if_neg q2, if_neg q2, if_neg q2]
  have c := p2.mp q
  have hR := hR c
  have a1 := hA.1
  have hz1 := (hA.2.2.1 z c.1.1 c.1.2).2.1
  refine up_in fun M2 n2 x9 e9 => ?_
  have e9' : x9 = 2 + 67 * z + 3 + 7 * r := by rw [e9, rAt]
  have F2 : ∀ a, a ≠ 608 → M2 a = M a := (fun a ha => funext fun b => by rw [n2 a b, if_neg (by omega), n1 a b, if_neg (by omega)])
  have C2 : ∀ b, b ≠ 0 → b ≠ 12 → M2 608 b = M 608 b := fun b b1 b2 => by rw [n2, if_neg (by omega), n1, if_neg (by omega)]
  have z2 : M2 608 0 = 0 := by rw [n2, if_neg (by omega), i3]
  refine ⟨fun n x N => ∃ i : Nat, x = i ∧ i ≤ 7 ∧ 7 - i ≤ n ∧ R8 M2 N ∧ RT N (tx R i), ⟨7, 0, rfl, by omega, by omega, R8.rfl, by rw [n2, if_pos ⟨rfl, rfl⟩]; rfl, fun i v hv => by simp [tx] at hv⟩, ?_⟩
  rintro n13 x N ⟨i, rfl, j1, j2, j3, j4⟩
  refine ⟨⟨by omega, by omega⟩, fun q1 => ?_, fun q1 => ?_⟩
  · have ei : i = 7 := by omega
    subst ei
    exact k2 c N (by rw [j3.2 0 (by omega), z2]) (fun a b1 b2 => (j3.1 a b1 b2).trans (F2 a b1)) (fun b b1 b2 => (j3.2 b b2).trans (C2 b b1 b2)) j4
  · have hi : i < 7 := by omega
    have hlen := tx_le R i (by omega)
    obtain ⟨r1, r2, r3, r4⟩ := hR i hi
    have fin : ∀ N', R8 M2 N' → RT N' (tx R (i + 1)) → ∀ x114 : Int, x114 = (i : Int) + 1 → ∃ n115, n115 < n13 ∧ ∃ i : Nat, x114 = i ∧ i ≤ 7 ∧ 7 - i ≤ n115 ∧ R8 M2 N' ∧ RT N' (tx R i) := fun N' g1 g2 y ey => ⟨7 - (i + 1), by omega, i + 1, by omega, by omega, Nat.le_refl _, g1, g2⟩
    refine ⟨fun N' => R8 M2 N' ∧ RT N' (tx R i ++ (if i = 0 then [] else [44])), fun N' ⟨g1, g2⟩ => ⟨⟨by omega, by omega⟩, fun v ev => ?_⟩, fun q2 => ⟨j3, by rw [if_pos (by omega), List.append_nil]; exact j4⟩, fun q2 => up_in fun N1 m1 => ⟨by have := j4.1; omega, up_in fun N2 m2 => ?_⟩⟩
    · have hv : v = R i := by
        rw [ev, g1.1 609 (by omega) (by omega), F2 609 (by omega), r1, zsl_at (by omega), e9']
        congr 1; omega
      have hl2 : (tx R i ++ (if i = 0 then [] else [44])).length ≤ 36 := by
        simp only [List.length_append]
        have hs : (if i = 0 then ([] : List Int) else [44]).length ≤ 1 := by split <;> simp
        by_cases c6 : i = 6
        · have := tx_le R 6 (by omega); subst c6; omega
        · omega
      rw [hv]
      refine ⟨fun N'' => R8 M2 N'' ∧ RT N'' (tx R (i + 1)), fun N'' ⟨w1, w2⟩ => fin N'' w1 w2, fun q3 => ⟨fun q4 => ?_, fun q4 => ?_⟩, fun q3 => ?_⟩
      · -- i from 2 on
        refine ⟨(i ≠ 3 ∨ R 3 ≤ 31) ∧ i ≠ 5, fun ⟨w1, w2⟩ => ?_, fun w1 => ⟨Or.inl (by omega), by omega⟩, fun w1 => ?_⟩
        · refine rf_writes g2 (by omega) (by omega) fun N2 f2 t2 => ⟨g1.trans f2, ?_⟩
          have e : tx R (i + 1) = (tx R i ++ (if i = 0 then [] else [44])) ++ dg (R i) := by
            show _ ++ pcx R i = _
            by_cases c3 : i = 3
            · rw [pcx_3 c3]
              have : R 3 ≤ 31 := by rcases w1 with w | w; exact absurd c3 w; exact w
              unfold dtx; rw [if_pos this, c3]; rfl
            · rw [pcx_o ⟨w2, by omega, c3⟩]
          rw [e]; exact t2
        · have i3 : i = 3 := by omega
          subst i3
          have e3 : ((3 : Nat) : Int) = 3 := rfl
          rw [e3] at r2 r3 ⊢
          rw [if_neg (by omega)] at g2 hl2
          refine ⟨⟨by omega, by omega⟩, fun w2 => ⟨fun w3 => up_in fun N1 m1 => ⟨⟨fun w4 => ⟨⟨by omega, by omega⟩, trivial⟩, fun _ => trivial⟩, fun y y1 y2 => ⟨?_, up_in fun N2 m2 => ?_⟩⟩, fun w3 => ⟨⟨by omega, by omega⟩, ?_⟩⟩, fun w2 => ⟨Or.inr w2, by omega⟩⟩
          · have := g2.1; omega
          · obtain ⟨s1, s2⟩ := rt_put g2 m1 m2
            refine ⟨fun N'' => R8 M2 N'' ∧ RT N'' ((tx R 3 ++ [44]) ++ (if 500 ≤ R 3 then [108] else [48 + R 3 / 100, 120])), fun N'' ⟨u1, u2⟩ => ⟨⟨by omega, by omega⟩, ?_⟩, fun w4 => ⟨g1.trans s2, ?_⟩, fun w4 => up_in fun N3 m3 => ⟨?_, up_in fun N4 m4 => ?_⟩⟩
            · have hs : (if 500 ≤ R 3 then ([108] : List Int) else [48 + R 3 / 100, 120]).length ≤ 2 := by split <;> simp
              refine rf_writes u2 (by simp only [List.length_append] at hl2 ⊢; omega) (by omega) fun N5 f5 t5 => ⟨u1.trans f5, ?_⟩
              have e : tx R (3 + 1) = ((tx R 3 ++ [44]) ++ (if 500 ≤ R 3 then [108] else [48 + R 3 / 100, 120])) ++ dg (R 3 % 100) := by
                show (tx R 3 ++ [44]) ++ dtx (R 3) = _
                rw [List.append_assoc (tx R 3 ++ [44])]
                congr 1
                unfold dtx
                rw [if_neg (by omega)]
                by_cases c5 : R 3 < 500
                · rw [if_pos c5, if_neg (by omega), dg_1 (by omega), show R 3 / 100 % 10 = R 3 / 100 by omega]; rfl
                · rw [if_neg c5, if_pos w3, if_pos (by omega)]
              rw [e]; exact t5
            · rw [if_pos w4]; rw [y2 w4] at s1; exact s1
            · have := s1.1; simp only [List.length_append, List.length_cons, List.length_nil] at this hl2; omega
            · obtain ⟨s3, s4⟩ := rt_put s1 m3 m4
              refine ⟨(g1.trans s2).trans s4, ?_⟩
              rw [if_neg (by omega)]
              rw [y1 w4, List.append_assoc] at s3; exact s3
          · refine rf_writes g2 (by omega) (by omega) fun N5 f5 t5 => up_in fun N6 m6 => ⟨?_, up_in fun N7 m7 => ⟨⟨by omega, by omega⟩, ?_⟩⟩
            · have := t5.1; have := dg_le (R 3 % 10); simp only [List.length_append, List.length_cons, List.length_nil] at *; omega
            · obtain ⟨s3, s4⟩ := rt_put t5 m6 m7
              have := dg_le (R 3 % 10)
              refine rf_writes s3 (by simp only [List.length_append, List.length_cons, List.length_nil] at hl2 ⊢; omega) (by omega) fun N8 f8 t8 => ⟨((g1.trans f5).trans s4).trans f8, ?_⟩
              have e : tx R (3 + 1) = (((tx R 3 ++ [44]) ++ dg (R 3 % 10)) ++ [62]) ++ dg ((R 3 - 1000) / 10) := by
                show (tx R 3 ++ [44]) ++ dtx (R 3) = _
                unfold dtx
                rw [if_neg (by omega), if_neg (by omega), if_neg (by omega)]
                simp only [List.append_assoc]
              rw [e]; exact t8
      · refine rf_writes g2 (by omega) (by omega) fun N2 f2 t2 => ⟨g1.trans f2, ?_⟩
        have e : tx R (i + 1) = (tx R i ++ (if i = 0 then [] else [44])) ++ dg (2000 + R i) := by
          show _ ++ pcx R i = _
          rw [pcx_lt (by omega)]
        rw [e]; exact t2
      · have i5 : i = 5 := by omega
        subst i5
        have e5 : ((5 : Nat) : Int) = 5 := rfl
        rw [e5] at r2 r3 r4 ⊢
        have r5 := r4 rfl
        refine up_in fun N1 m1 => ⟨⟨⟨by omega, by omega⟩, fun _ => ⟨fun _ => trivial, fun _ => trivial⟩, fun _ => trivial⟩, fun y y1 y2 y3 => ⟨by have := g2.1; omega, up_in fun N2 m2 => ?_⟩⟩
        obtain ⟨s1, s2⟩ := rt_put g2 m1 m2
        refine ⟨g1.trans s2, ?_⟩
        have e : tx R (5 + 1) = (tx R 5 ++ (if (5 : Nat) = 0 then [] else [44])) ++ [y] := by
          show (tx R 5 ++ (if (5 : Nat) = 0 then [] else [44])) ++ [ckx (R 5)] = _
          congr 2
          unfold ckx
          by_cases c0 : R 5 = 0
          · rw [if_pos c0, y3 c0]
          · rw [if_neg c0]
            by_cases c1 : R 5 = 1
            · rw [if_pos c1, y2 ⟨c0, c1⟩]
            · rw [if_neg c1, y1 ⟨c0, c1⟩]
        rw [e]; exact s1
    · obtain ⟨s1, s2⟩ := rt_put j4 m1 m2
      refine ⟨j3.trans s2, ?_⟩
      rw [if_neg (by omega)]; exact s1
theorem tx_rng {R : Int → Int} {v : Int} (hR : ∀ i : Nat, i < 7 → 0 ≤ R i ∧ R i < 2000 ∧ (i = 5 → R i ≤ 2)) : ∀ i : Nat, i ≤ 7 → v ∈ tx R i → 0 ≤ v ∧ v < 65536 := by
  have hd : ∀ n : Int, 0 ≤ n → v ∈ dg n → 0 ≤ v ∧ v < 65536 := by
    intro n hn hv
    unfold dg d1 d2 d3 at hv
    simp only [List.mem_append, List.mem_singleton] at hv
    rcases hv with ((h | h) | h) | h
    · split at h <;> simp at h; omega
    · split at h <;> simp at h; omega
    · split at h <;> simp at h; omega
    · omega
  intro i
  induction i with
  | zero => intro _ h; simp [tx] at h
  | succ i ih =>
    intro hi h
    simp only [tx, List.mem_append] at h
    rcases h with (h | h) | h
    · exact ih (by omega) h
    · split at h <;> simp at h; omega
    · obtain ⟨r1, r2, r3⟩ := hR i (by omega)
      unfold pcx at h
      split at h
      · simp only [List.mem_singleton] at h
        rw [h]; unfold ckx; split
        · omega
        · split <;> omega
      · split at h
        · exact hd _ (by omega) h
        · split at h
          · rename_i c3
            subst c3
            have r1 : 0 ≤ R 3 := r1
            unfold dtx at h
            split at h
            · exact hd _ r1 h
            · split at h
              · simp only [List.mem_append, List.mem_singleton] at h
                rcases h with (h | h) | h
                · exact hd _ (by omega) h
                · omega
                · exact hd _ (by omega) h
              · split at h
                · simp only [List.mem_append, List.mem_singleton] at h
                  rcases h with h | h
                  · omega
                  · exact hd _ (by omega) h
                · simp only [List.mem_append, List.mem_singleton] at h
                  rcases h with (h | h) | h
                  · exact hd _ (by omega) h
                  · omega
                  · exact hd _ (by omega) h
          · exact hd _ r1 h
theorem sim_write {M : jT} {z r : Int} (h : Inv M) (rz : rg z) (rr : rg r) : wp_X10_write M 0 z r (fun v M1 => OKq (wp_X11_write M1 608 z r) v) (fun e M1 => EXq (wp_X11_write M1 608 z r) [1] e) := by
  obtain ⟨p1, p2⟩ := idx_ok h.1 rz rr
  have hR : ∀ N : jT, N 609 = M 609 → (0 ≤ z ∧ z < N 609 0) ∧ 0 ≤ r ∧ r < zsl (N 609) z 1 → ∀ i : Nat, i < 7 → (fun j => zsl (M 609) z (3 + 7 * r + j)) (i : Int) = zsl (N 609) z (3 + 7 * r + i) ∧ 0 ≤ zsl (M 609) z (3 + 7 * r + i) ∧ zsl (M 609) z (3 + 7 * r + i) < 2000 ∧ (i = 5 → zsl (M 609) z (3 + 7 * r + i) ≤ 2) := by
    intro N eN c i hi
    rw [eN] at c ⊢
    have ho := (h.1.1.2.2.1 z c.1.1 c.1.2).2.2.2.1 r c.2.1 c.2.2
    obtain ⟨o0, o1, o2, o3, o4, o5, o6, o7, o8, o9, o10, o11⟩ := ho
    have o5' : 0 ≤ zsl (M 609) z (6 + 7 * r) ∧ zsl (M 609) z (6 + 7 * r) < 2000 := by unfold dtOk at o5; omega
    refine ⟨rfl, ?_⟩
    match i, hi with
    | 0, _ => rw [show 3 + 7 * r + ((0 : Nat) : Int) = 3 + 7 * r by omega]; exact ⟨by omega, by omega, fun q => by omega⟩
    | 1, _ => rw [show 3 + 7 * r + ((1 : Nat) : Int) = 4 + 7 * r by omega]; exact ⟨by omega, by omega, fun q => by omega⟩
    | 2, _ => rw [show 3 + 7 * r + ((2 : Nat) : Int) = 5 + 7 * r by omega]; exact ⟨by omega, by omega, fun q => by omega⟩
    | 3, _ => rw [show 3 + 7 * r + ((3 : Nat) : Int) = 6 + 7 * r by omega]; exact ⟨by omega, by omega, fun q => by omega⟩
    | 4, _ => rw [show 3 + 7 * r + ((4 : Nat) : Int) = 7 + 7 * r by omega]; exact ⟨by omega, by omega, fun q => by omega⟩
    | 5, _ => rw [show 3 + 7 * r + ((5 : Nat) : Int) = 8 + 7 * r by omega]; exact ⟨by omega, by omega, fun q => by omega⟩
    | 6, _ => rw [show 3 + 7 * r + ((6 : Nat) : Int) = 9 + 7 * r by omega]; exact ⟨by omega, by omega, fun q => by omega⟩
  unfold wp_X10_write
  refine ⟨p1, refuse (by rw [p2]; split <;> omega) (fun q => ?_) (fun q => ?_)⟩
  · rw [p2] at q
    have c : (0 ≤ z ∧ z < M 609 0) ∧ 0 ≤ r ∧ r < zsl (M 609) z 1 := by
      by_cases c : (0 ≤ z ∧ z < M 609 0) ∧ 0 ≤ r ∧ r < zsl (M 609) z 1
      · exact c
      · rw [if_neg c] at q; omega
    have a1 := h.1.1.1
    have hzo := (h.1.1.2.2.1 z c.1.1 c.1.2).2.1
    have hze := h.1.2.2.2.1 z c.1.1 c.1.2
    rw [show 1 + 3 + 4 * z = 4 * z + 4 by omega] at hze
    simp only [Int.zero_add]
    refine ⟨⟨by omega, by omega⟩, ?_⟩
    have hr8 : r < 8 := by omega
    have hRM := hR M rfl c
    generalize hRR : (fun j => zsl (M 609) z (3 + 7 * r + j)) = R at hRM
    have hRe : ∀ j : Int, R j = zsl (M 609) z (3 + 7 * r + j) := fun j => by rw [← hRR]
    have rnum : ∀ (N : jT), F8 M N → ∀ j : Int, 0 ≤ j → j < 7 → pg_X9_ruleNumber N (4 * z + 4) r j ∧ pf_X9_ruleNumber N (4 * z + 4) r j = R j := by
      intro N F j j0 j1
      refine ⟨pg_rn c.2.1 hr8 ⟨j0, j1⟩, ?_⟩
      have hzN : ZEq N (4 * z + 4) (zsl (M 609) z) := hze.mv (F _ (by omega) (by omega)) (F _ (by omega) (by omega)) (F _ (by omega) (by omega)) (F _ (by omega) (by omega))
      rw [hzN.rn j (3 + j) c.2.1 c.2.2 ⟨j0, j1, rfl⟩, hRe]
      congr 1; omega
    have rb : ∀ j : Int, 0 ≤ j → j < 7 → 0 ≤ R j ∧ R j < 2000 ∧ (j = 5 → R j ≤ 2) := by
      intro j j0 j1
      obtain ⟨n, rfl⟩ := Int.eq_ofNat_of_zero_le j0
      obtain ⟨b1, b2, b3, b4⟩ := hRM n (by omega)
      rw [hRe]
      exact ⟨b2, b3, fun q => b4 (by omega)⟩
    unfold wp_X8_writeRule
    refine up_in fun N0 n0 => ?_
    have f0 : F8 M N0 := fun a a1 a2 => by funext b; rw [n0, if_neg (by omega)]
    have t0 : CT N0 (tx R 0) := ⟨by rw [n0, if_pos ⟨rfl, rfl⟩]; rfl, fun i v hv => by simp [tx] at hv⟩
    have L := fun i (hi : i ≤ 7) => tx_le R i hi
    have L1 := L 1 (by omega); have L2 := L 2 (by omega); have L3 := L 3 (by omega); have L4 := L 4 (by omega); have L5 := L 5 (by omega); have L6 := L 6 (by omega)
    obtain ⟨g0, v0⟩ := rnum N0 f0 0 (by omega) (by omega)
    obtain ⟨b0, b0', _⟩ := rb 0 (by omega) (by omega)
    rw [v0]
    refine ⟨g0, sp_wnum t0 (by simp [tx]) ⟨by omega, by omega⟩ fun N1 f1 t1 => ?_⟩
    have t1 : CT N1 (tx R 1) := t1
    have f1 := f0.trans f1
    refine sp_wput t1 (by omega) ⟨by omega, by omega⟩ fun N2 f2 t2 => ?_
    have f2 := f1.trans f2
    obtain ⟨g1, v1⟩ := rnum N2 f2 1 (by omega) (by omega)
    obtain ⟨b1, b1', _⟩ := rb 1 (by omega) (by omega)
    rw [v1]
    refine ⟨g1, sp_wnum t2 (by simp only [List.length_append, List.length_cons, List.length_nil]; omega) ⟨by omega, by omega⟩ fun N3 f3 t3 => ?_⟩
    have t3 : CT N3 (tx R 2) := t3
    have f3 := f2.trans f3
    refine sp_wput t3 (by omega) ⟨by omega, by omega⟩ fun N4 f4 t4 => ?_
    have f4 := f3.trans f4
    obtain ⟨g2, v2⟩ := rnum N4 f4 2 (by omega) (by omega)
    obtain ⟨b2, b2', c2⟩ := rb 2 (by omega) (by omega)
    rw [v2]
    refine ⟨g2, sp_wnum t4 (by simp only [List.length_append, List.length_cons, List.length_nil]; omega) ⟨by omega, by omega⟩ fun N5 f5 t5 => ?_⟩
    have t5 : CT N5 (tx R 3) := t5
    have f5 := f4.trans f5
    refine sp_wput t5 (by omega) ⟨by omega, by omega⟩ fun N6 f6 t6 => ?_
    have f6 := f5.trans f6
    obtain ⟨g3, v3⟩ := rnum N6 f6 3 (by omega) (by omega)
    obtain ⟨b3, b3', c3⟩ := rb 3 (by omega) (by omega)
    rw [v3]
    refine ⟨g3, sp_wdate t6 (by simp only [List.length_append, List.length_cons, List.length_nil]; omega) ⟨by omega, by omega⟩ fun N7 f7 t7 => ?_⟩
    have t7 : CT N7 (tx R 4) := t7
    have f7 := f6.trans f7
    refine sp_wput t7 (by omega) ⟨by omega, by omega⟩ fun N8 f8 t8 => ?_
    have f8 := f7.trans f8
    obtain ⟨g4, v4⟩ := rnum N8 f8 4 (by omega) (by omega)
    obtain ⟨b4, b4', c4⟩ := rb 4 (by omega) (by omega)
    rw [v4]
    refine ⟨g4, sp_wnum t8 (by simp only [List.length_append, List.length_cons, List.length_nil]; omega) ⟨by omega, by omega⟩ fun N9 f9 t9 => ?_⟩
    have t9 : CT N9 (tx R 5) := t9
    have f9 := f8.trans f9
    refine sp_wput t9 (by omega) ⟨by omega, by omega⟩ fun N10 f10 t10 => ?_
    have f10 := f9.trans f10
    obtain ⟨g5, v5⟩ := rnum N10 f10 5 (by omega) (by omega)
    obtain ⟨b5, b5', c5⟩ := rb 5 (by omega) (by omega)
    rw [v5]
    refine ⟨g5, sp_wclock t10 (by simp only [List.length_append, List.length_cons, List.length_nil]; omega) ⟨by omega, c5 rfl⟩ fun N11 f11 t11 => ?_⟩
    have t11 : CT N11 (tx R 6) := t11
    have f11 := f10.trans f11
    refine sp_wput t11 (by omega) ⟨by omega, by omega⟩ fun N12 f12 t12 => ?_
    have f12 := f11.trans f12
    obtain ⟨g6, v6⟩ := rnum N12 f12 6 (by omega) (by omega)
    obtain ⟨b6, b6', c6⟩ := rb 6 (by omega) (by omega)
    rw [v6]
    refine ⟨g6, sp_wnum t12 (by simp only [List.length_append, List.length_cons, List.length_nil]; omega) ⟨by omega, by omega⟩ fun N13 f13 t13 => ?_⟩
    have t13 : CT N13 (tx R 7) := t13
    have f13 := f12.trans f13
    have e609 : N13 609 = M 609 := f13 609 (by omega) (by omega)
    have hTX := h.2.2.2.2
    obtain ⟨x1, x2, x3, x4⟩ := hTX
    unfold OKq
    refine rf_write (R := R) (by rw [e609]; exact h.1.1) rz rr (fun w => absurd (by rw [e609]; exact c) w) (fun w i hi => ?_) (fun _ M4 z0 F4 C4 t4 => ?_)
    · rw [e609]; obtain ⟨v1, v2, v3, v4⟩ := hRM i hi; exact ⟨v1, by rw [v1]; exact v2, by rw [v1]; exact v3, fun w => by rw [v1]; exact v4 w⟩
    · have G : ∀ a, a ≠ 604 → a ≠ 605 → a ≠ 608 → a ≠ 614 → M4 a = M a := fun a q1 q2 q3 q4 => (F4 a q3 q4).trans (f13 a q1 q2)
      have G8 : ∀ b, b ≠ 0 → b ≠ 12 → M4 608 b = M 608 b := fun b q1 q2 => by rw [C4 b q1 q2, f13 608 (by omega) (by omega)]
      have e9 : M4 609 = M 609 := G 609 (by omega) (by omega) (by omega) (by omega)
      have l4 : M4 604 0 = (tx R 7).length := by rw [F4 604 (by omega) (by omega)]; exact t13.1
      have L7 := tx_le R 7 (by omega)
      refine ⟨z0, by rw [t4.1, t13.1], ?_, h.2.1.mv h.1 e9 (fun a q1 q2 => G a (by omega) (by omega) (by omega) (by omega)), h.2.2.1.mv e9 (fun b hb => G8 b (by omega) (by omega)) (fun a q1 q2 => G a (by omega) (by omega) (by omega) (by omega)), h.2.2.2.1.mv (fun a q1 q2 => G a (by omega) (by omega) (by omega) (by omega)) (G8 3 (by omega) (by omega)) (G8 5 (by omega) (by omega)) (G 610 (by omega) (by omega) (by omega) (by omega)) (G 611 (by omega) (by omega) (by omega) (by omega)), ?_⟩
      · unfold D1; rw [e9]
        exact ⟨h.1.1, h.1.2.mv h.1.1 (fun a q1 q2 => G a (by omega) (by omega) (by omega) (by omega))⟩
      · unfold TX
        rw [G 601 (by omega) (by omega) (by omega) (by omega), G 602 (by omega) (by omega) (by omega) (by omega), G 613 (by omega) (by omega) (by omega) (by omega), G8 8 (by omega) (by omega), G8 10 (by omega) (by omega)]
        refine ⟨x1, x2, x3, ⟨by rw [l4, t4.1], by omega, by omega⟩, fun i i0 i1 => ?_⟩
        rw [l4] at i1
        have hi : i.toNat < (tx R 7).length := by omega
        have hg := List.getElem?_eq_getElem hi
        have w1 := t13.2 i.toNat _ hg
        have w2 := t4.2 i.toNat _ hg
        rw [Int.toNat_of_nonneg i0] at w1 w2
        have w3 : M4 605 = N13 605 := F4 605 (by omega) (by omega)
        rw [w3, w1, w2]
        refine ⟨rfl, tx_rng (R := R) (fun i hi => ?_) 7 (by omega) (List.getElem_mem hi)⟩
        obtain ⟨u1, u2, u3, u4⟩ := hRM i hi
        rw [hRe]; exact ⟨u2, u3, u4⟩
  · rw [p2] at q
    have c : ¬ ((0 ≤ z ∧ z < M 609 0) ∧ 0 ≤ r ∧ r < zsl (M 609) z 1) := fun c => by rw [if_pos c] at q; exact q rfl
    rw [p2, if_neg c]
    exact ⟨by decide, rf_write (R := fun j => zsl (M 609) z (3 + 7 * r + j)) h.1.1 rz rr (fun _ M4 n4 => by
      obtain ⟨u1, u2, u3⟩ := h.t n4
      exact ⟨by rw [u3]; rfl, u1⟩) (fun w => absurd w c) (fun w => absurd w c)⟩
