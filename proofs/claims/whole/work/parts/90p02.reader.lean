/-! the class's reader: dates, items, signs, words -/
theorem c_date {c : Int → Int} {M : jT} {p : Int} {Q : Int → jT → Prop} (h : RdL c M) (hp : 0 ≤ p ∧ p ≤ 80) (hat : M 601 3 = p) (kk : ∀ v M', Bdv v → RO M M' (dateP c p) v → Q v M') : wp_X6_readDate M 601 Q := by
  unfold wp_X6_readDate
  obtain ⟨l1, l2, l3⟩ := h.at (i := p) (by omega)
  obtain ⟨k1, k2, k3⟩ := h.at (i := p + 1) (by omega)
  have l4 := h.1.rg hp.1
  rw [hat, l1, k1]
  refine ⟨l2, fun x4 e4 => ⟨k2, fun x8 e8 => ⟨l3, fun q => ?_, fun q => ?_⟩⟩⟩
  · refine ⟨¬ (c (p + 1) = 120 ∧ 49 ≤ c p ∧ c p ≤ 52), fun n1 => ?_, by rw [e8]; exact k3, fun q1 => by omega, fun q1 => ⟨⟨by omega, by omega⟩, fun q2 => by omega, fun q2 => ⟨fun q3 => by omega, fun q3 => up_in fun M52 h52 => ?_⟩⟩⟩
    · refine ⟨¬ (c (p + 1) = 62 ∧ 48 ≤ c p ∧ c p ≤ 54), fun n2 => ?_, by rw [e8]; exact k3, fun q1 => by omega, fun q1 => ⟨⟨by omega, by omega⟩, fun q2 => by omega, fun q2 => ⟨fun q3 => by omega, fun q3 => up_in fun M44 h44 => ?_⟩⟩⟩
      · refine c_number (n := 5) h (by omega) hat rfl (by omega) fun v M' hv hr => ⟨⟨⟨by omega, by omega⟩, fun _ => trivial, fun _ => trivial⟩, fun x35 g1 g2 => kk x35 M' ?_ ?_⟩
        · by_cases c1 : v ≤ 31
          · have := g2 c1; exact ⟨by omega, by omega⟩
          · have := g1 (by omega); exact ⟨by omega, by omega⟩
        · unfold dateP; rw [if_neg q, if_neg n1, if_neg n2]
          have e : x35 = (fun v : Int => if v ≤ 31 then v else 0) v := by
            show x35 = if v ≤ 31 then v else 0
            by_cases c1 : v ≤ 31
            · rw [if_pos c1, g2 c1]
            · rw [if_neg c1, g1 (by omega)]
          rw [e]; exact hr.map
      · have f44 : FrC M M44 := FrC.rfl.up (Or.inr rfl) h44
        refine c_number (n := 2) (h.fr f44) (p := p + 2) (by omega) (by rw [h44, if_pos ⟨rfl, rfl⟩]) rfl (by omega) fun v M' hv hr => kk _ M' ⟨by omega, by omega⟩ ?_
        unfold dateP; rw [if_neg q, if_neg n1, if_pos ⟨by omega, by omega, by omega⟩]
        have e : 1000 + 10 * v + x4 = (fun m : Int => 1000 + 10 * m + (c p - 48)) v := by show _ = 1000 + 10 * v + (c p - 48); omega
        rw [e]; exact (RO.pre f44 (by rw [h44, if_neg (by omega)]) hr).map
    · have f52 : FrC M M52 := FrC.rfl.up (Or.inr rfl) h52
      refine c_weekday (b := 100 * (c p - 48)) (h.fr f52) (p := p + 2) (by omega) (by rw [h52, if_pos ⟨rfl, rfl⟩]) fun v M' hv hr => kk _ M' ⟨by omega, by omega⟩ ?_
      unfold dateP; rw [if_neg q, if_pos ⟨by omega, by omega, by omega⟩, show 100 * x4 + v = 100 * (c p - 48) + v by omega]
      exact RO.pre f52 (by rw [h52, if_neg (by omega)]) hr
  · refine up_in fun M55 h55 => ?_
    have f55 : FrC M M55 := FrC.rfl.up (Or.inr rfl) h55
    refine c_weekday (b := 500) (h.fr f55) (p := p + 1) (by omega) (by rw [h55, if_pos ⟨rfl, rfl⟩]) fun v M' hv hr => kk _ M' ⟨by omega, by omega⟩ ?_
    unfold dateP; rw [if_pos q]
    exact RO.pre f55 (by rw [h55, if_neg (by omega)]) hr
theorem c_sign {c : Int → Int} {M : jT} {p a : Int} {Q : jT → Prop} (h : RdL c M) (hp : 0 ≤ p ∧ p ≤ 90) (hat : M 601 3 = p) (h2 : M 601 2 = -1) (ra : rg a) (k1 : c p = a → ∀ M', FrC M M' → M' 601 3 = p + 1 → M' 601 2 = -1 → Q M') (k2 : c p ≠ a → ∀ M', FrC M M' → M' 601 2 = p → Q M') : wp_X6_readSign M 601 a Q := by
  unfold wp_X6_readSign
  obtain ⟨l1, l2, l3⟩ := h.at (i := p) (by omega)
  rw [h2, hat, l1]
  exact ⟨⟨by omega, by omega⟩, fun _ => ⟨l2, Q, fun _ z => z, l3, ra, fun q => up_in fun M16 h16 => k2 q M16 (FrC.rfl.up (Or.inl rfl) h16) (by rw [h16, if_pos ⟨rfl, rfl⟩]), fun q => up_in fun M17 h17 => k1 q M17 (FrC.rfl.up (Or.inr rfl) h17) (by rw [h17, if_pos ⟨rfl, rfl⟩]) (by rw [h17, if_neg (by omega)]; exact h2)⟩, fun q => by omega⟩
theorem c_sign_no {M : jT} {a : Int} {Q : jT → Prop} (h2 : 0 ≤ M 601 2 ∧ rg (M 601 2)) (k : Q M) : wp_X6_readSign M 601 a Q := by
  unfold wp_X6_readSign
  exact ⟨h2.2, fun q => by omega, fun _ => k⟩
/-- the items of a command, by its word -/
def mny (w : Int) : Nat := if w = 0 then 1 else if w = 1 then 3 else if w = 2 then 8 else 2
def kdS (w : Int) : Nat := if w = 0 then 11 else if w = 1 then 12 else if w = 2 then 13 else 14
def itP (c : Int → Int) (w i p : Int) : Option Int × Int := if w = 2 ∧ i = 4 then dateP c p else if w = 2 ∧ i = 6 then clockP c p else if w = 0 ∨ (w = 1 ∧ i = 2) then baseP c p else numP c 5 p
theorem itP_pos {c : Int → Int} {L w i p : Int} (h : LT c L) (hp : p ≤ L) : PO c L p (itP c w i p) := by
  unfold itP
  by_cases q1 : w = 2 ∧ i = 4
  · rw [if_pos q1]; exact dateP_pos h hp
  · rw [if_neg q1]
    by_cases q2 : w = 2 ∧ i = 6
    · rw [if_pos q2]; exact clockP_pos h hp
    · rw [if_neg q2]
      by_cases q3 : w = 0 ∨ (w = 1 ∧ i = 2)
      · rw [if_pos q3]; exact baseP_pos h hp
      · rw [if_neg q3]; exact numP_pos h hp
theorem kd_ok {w : Int} (hw : 0 ≤ w ∧ w < 5) : sLn (kdS w) = mny w ∧ 1 ≤ mny w ∧ mny w ≤ 8 := by
  have : w = 0 ∨ w = 1 ∨ w = 2 ∨ w = 3 ∨ w = 4 := by omega
  rcases this with rfl | rfl | rfl | rfl | rfl <;> decide
theorem kd_it {w i : Int} (hw : 0 ≤ w ∧ w < 5) (hi : 0 ≤ i ∧ i < mny w) : (w = 2 ∧ i = 4 ∧ sCh (kdS w) i = 100) ∨ (w = 2 ∧ i = 6 ∧ sCh (kdS w) i = 99) ∨ (¬ (w = 2 ∧ i = 4) ∧ ¬ (w = 2 ∧ i = 6) ∧ (w = 0 ∨ (w = 1 ∧ i = 2)) ∧ sCh (kdS w) i = 98) ∨ (¬ (w = 2 ∧ i = 4) ∧ ¬ (w = 2 ∧ i = 6) ∧ ¬ (w = 0 ∨ (w = 1 ∧ i = 2)) ∧ sCh (kdS w) i = 110) := by
  have h5 : w = 0 ∨ w = 1 ∨ w = 2 ∨ w = 3 ∨ w = 4 := by omega
  have h8 : i < 8 := by have := (kd_ok hw).2.2; omega
  have hi8 : i = 0 ∨ i = 1 ∨ i = 2 ∨ i = 3 ∨ i = 4 ∨ i = 5 ∨ i = 6 ∨ i = 7 := by omega
  rcases h5 with rfl | rfl | rfl | rfl | rfl <;> rcases hi8 with rfl | rfl | rfl | rfl | rfl | rfl | rfl | rfl <;> revert hi <;> decide
theorem c_item {c : Int → Int} {M : jT} {w i p : Int} {Q : Int → jT → Prop} (h : RdL c M) (hw : 0 ≤ w ∧ w < 5) (hi : 0 ≤ i ∧ i < mny w) (hp : 0 ≤ p ∧ p ≤ 80) (hat : M 601 3 = p) (h2 : M 601 2 = -1) (kk : ∀ v M', Bdv v → RO M M' (itP c w i p) v → Q v M') : wp_X6_readItem M 601 (sCh (kdS w) i) Q := by
  unfold wp_X6_readItem
  rw [h2]
  refine ⟨⟨by omega, by omega⟩, fun _ => ?_, fun q => by omega⟩
  rcases kd_it hw hi with ⟨q1, q2, q3⟩ | ⟨q1, q2, q3⟩ | ⟨q1, q2, q3, q4⟩ | ⟨q1, q2, q3, q4⟩
  · rw [q3]
    refine ⟨⟨by omega, by omega⟩, fun q => by omega, fun q => by omega, fun _ => c_date h (by omega) hat fun v M' hv hr => kk v M' hv ?_, fun q => by omega⟩
    unfold itP; rw [if_pos ⟨q1, q2⟩]; exact hr
  · rw [q3]
    refine ⟨⟨by omega, by omega⟩, fun q => by omega, fun _ => c_clock h (by omega) hat fun v M' hv hr => kk v M' hv ?_, fun q => by omega, fun q => by omega⟩
    unfold itP; rw [if_neg (by omega), if_pos ⟨q1, q2⟩]; exact hr
  · rw [q4]
    refine ⟨⟨by omega, by omega⟩, fun _ => c_base h (by omega) hat fun v M' hv hr => kk v M' hv ?_, fun q => by omega, fun q => by omega, fun q => by omega⟩
    unfold itP; rw [if_neg q1, if_neg q2, if_pos q3]; exact hr
  · rw [q4]
    refine ⟨⟨by omega, by omega⟩, fun q => by omega, fun q => by omega, fun q => by omega, fun _ => c_number (n := 5) h (by omega) hat rfl (by omega) fun v M' hv hr => kk v M' ⟨by omega, by omega⟩ ?_⟩
    unfold itP; rw [if_neg q1, if_neg q2, if_neg q3]; exact hr
/-! words -/
def isE (c : Int → Int) (p e : Int) : Prop := p ≤ e ∧ (∀ i, p ≤ i → i < e → 97 ≤ c i ∧ c i ≤ 122) ∧ ¬ (97 ≤ c e ∧ c e ≤ 122)
theorem isE.uniq {c : Int → Int} {p e e' : Int} (h : isE c p e) (g : isE c p e') : e = e' := by
  by_cases q : e < e'
  · exact absurd (g.2.1 e h.1 q) h.2.2
  · by_cases q2 : e' < e
    · exact absurd (h.2.1 e' g.1 q2) g.2.2
    · omega
noncomputable def eP (c : Int → Int) (p : Int) : Int := by
  classical exact if h : ∃ e, isE c p e then Classical.choose h else p
theorem eP_of {c : Int → Int} {p e : Int} (h : isE c p e) : eP c p = e := by
  unfold eP
  have hx : ∃ e, isE c p e := ⟨e, h⟩
  rw [dif_pos hx]
  exact (Classical.choose_spec hx).uniq h
def isW (c : Int → Int) (p e : Int) (w : Nat) : Prop := e - p = sLn (6 + w) ∧ ∀ i, 0 ≤ i → i < sLn (6 + w) → c (p + i) = sCh (6 + w) i
noncomputable def wdF (c : Int → Int) (p e : Int) : Int := by
  classical exact if isW c p e 0 then 0 else if isW c p e 1 then 1 else if isW c p e 2 then 2 else if isW c p e 3 then 3 else if isW c p e 4 then 4 else -1
theorem wdF_of {c : Int → Int} {p e : Int} {w : Nat} (hw : w < 5) (h : isW c p e w) (hn : ∀ v, v < w → ¬ isW c p e v) : wdF c p e = w := by
  unfold wdF
  have h5 : w = 0 ∨ w = 1 ∨ w = 2 ∨ w = 3 ∨ w = 4 := by omega
  rcases h5 with rfl | rfl | rfl | rfl | rfl
  · rw [if_pos h]; rfl
  · rw [if_neg (hn 0 (by omega)), if_pos h]; rfl
  · rw [if_neg (hn 0 (by omega)), if_neg (hn 1 (by omega)), if_pos h]; rfl
  · rw [if_neg (hn 0 (by omega)), if_neg (hn 1 (by omega)), if_neg (hn 2 (by omega)), if_pos h]; rfl
  · rw [if_neg (hn 0 (by omega)), if_neg (hn 1 (by omega)), if_neg (hn 2 (by omega)), if_neg (hn 3 (by omega)), if_pos h]; rfl
theorem wdF_no {c : Int → Int} {p e : Int} (hn : ∀ v, v < 5 → ¬ isW c p e v) : wdF c p e = -1 := by
  unfold wdF
  rw [if_neg (hn 0 (by omega)), if_neg (hn 1 (by omega)), if_neg (hn 2 (by omega)), if_neg (hn 3 (by omega)), if_neg (hn 4 (by omega))]
theorem wdF_cases (c : Int → Int) (p e : Int) : wdF c p e = -1 ∨ ∃ w : Nat, w < 5 ∧ isW c p e w ∧ wdF c p e = w := by
  by_cases h0 : ∃ w, w < 5 ∧ isW c p e w
  · obtain ⟨w, hw, hW⟩ := h0
    have key : ∀ n, ∀ w, w < n → w < 5 → isW c p e w → ∃ w', w' < 5 ∧ isW c p e w' ∧ ∀ v, v < w' → ¬ isW c p e v := by
      intro n
      induction n with
      | zero => intro w h; omega
      | succ n ih =>
        intro w _ h5 hW
        by_cases hv : ∃ v, v < w ∧ isW c p e v
        · obtain ⟨v, v1, v2⟩ := hv
          exact ih v (by omega) (by omega) v2
        · exact ⟨w, h5, hW, fun v v1 v2 => hv ⟨v, v1, v2⟩⟩
    obtain ⟨w', a, b, d⟩ := key (w + 1) w (by omega) hw hW
    exact Or.inr ⟨w', a, b, wdF_of a b d⟩
  · exact Or.inl (wdF_no fun v v1 v2 => h0 ⟨v, v1, v2⟩)
theorem sLn_w {w : Nat} (h : w < 5) : 4 ≤ sLn (6 + w) ∧ sLn (6 + w) ≤ 6 := by
  have h5 : w = 0 ∨ w = 1 ∨ w = 2 ∨ w = 3 ∨ w = 4 := by omega
  rcases h5 with rfl | rfl | rfl | rfl | rfl <;> decide
theorem sCh_w {w : Nat} {i : Int} (h : w < 5) (hi : 0 ≤ i ∧ i < sLn (6 + w)) : 97 ≤ sCh (6 + w) i ∧ sCh (6 + w) i ≤ 122 := by
  have h5 : w = 0 ∨ w = 1 ∨ w = 2 ∨ w = 3 ∨ w = 4 := by omega
  have h6 := (sLn_w h).2
  have hi8 : i = 0 ∨ i = 1 ∨ i = 2 ∨ i = 3 ∨ i = 4 ∨ i = 5 := by omega
  rcases h5 with rfl | rfl | rfl | rfl | rfl <;> rcases hi8 with rfl | rfl | rfl | rfl | rfl | rfl <;> revert hi <;> decide
theorem c_isWord {c : Int → Int} {M : jT} {p e : Int} {w : Nat} {Q : Int → Prop} (h : RdL c M) (hw : w < 5) (hp : 0 ≤ p ∧ p ≤ e ∧ e ≤ 90) (k1 : isW c p e w → Q 1) (k0 : ¬ isW c p e w → Q 0) : wp_X6_isWord M 601 p e (6 + w) Q := by
  unfold wp_X6_isWord
  have hs := sLn_w hw
  refine ⟨⟨by omega, by omega⟩, ⟨by omega, by omega⟩, fun q => ?_, fun q => k0 (fun z => q z.1)⟩
  refine ⟨fun n i => 0 ≤ i ∧ i ≤ sLn (6 + w) ∧ (sLn (6 + w) - i).toNat ≤ n ∧ ∀ j, 0 ≤ j → j < i → c (p + j) = sCh (6 + w) j, ⟨(sLn (6 + w)).toNat, by omega, by omega, by omega, fun j a b => by omega⟩, ?_⟩
  rintro n i ⟨i0, i1, i2, i3⟩
  refine ⟨⟨by omega, by omega⟩, fun q1 => k1 ⟨q, fun j j0 j1 => i3 j j0 (by omega)⟩, fun q1 => ?_⟩
  obtain ⟨l1, l2, l3⟩ := h.at (i := p + i) (by omega)
  have hc := sCh_w hw ⟨i0, q1⟩
  rw [l1]
  refine ⟨l2, ⟨i0, q1⟩, l3, ⟨by omega, by omega⟩, fun q2 x ex => ⟨(sLn (6 + w) - x).toNat, by omega, by omega, by omega, by omega, fun j j0 j1 => ?_⟩, fun q2 => k0 (fun z => q2 (z.2 i i0 q1))⟩
  by_cases q3 : j = i
  · rw [q3]; exact q2
  · exact i3 j j0 (by omega)
