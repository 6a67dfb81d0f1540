/-! the class's reader: the whole text -/
theorem itsP_pos {c : Int → Int} {L w : Int} (h : LT c L) : ∀ (n : Nat) (i p : Int) (l : List Int), p ≤ L → (itsP c w n i p).1 = some l → p + 2 * n ≤ (itsP c w n i p).2 ∧ (itsP c w n i p).2 ≤ L
  | 0, i, p, l, hp, _ => ⟨by show p + 2 * 0 ≤ p; omega, hp⟩
  | n + 1, i, p, l, hp, he => by
    have hpo := itP_pos (c := c) (L := L) (w := w) (i := i) (p := p) h hp
    cases h1 : (itP c w i p).1 with
    | none =>
      have e := itsP_none (c := c) (w := w) (i := i) (p := p) (q := (itP c w i p).2) (n := n) (by rw [← h1])
      rw [e] at he; cases he
    | some v =>
      have hit : itP c w i p = (some v, (itP c w i p).2) := by rw [← h1]
      by_cases hc : c (itP c w i p).2 = (if n = 0 then 59 else 44)
      · have e := itsP_step (n := n) (pre := []) hit hc
        have e0 : ∀ r : Option (List Int) × Int, addL [] r = r := fun r => by unfold addL; simp
        rw [e0] at e
        rw [e] at he ⊢
        have hlt := h.nz (i := (itP c w i p).2) (by rw [hc]; split <;> omega)
        have hq := hpo.2.2 (by rw [h1]; simp)
        unfold addL at he ⊢
        simp only [] at he ⊢
        cases h2 : (itsP c w n (i + 1) ((itP c w i p).2 + 1)).1 with
        | none => rw [h2] at he; cases he
        | some l' =>
          have := itsP_pos h n (i + 1) ((itP c w i p).2 + 1) l' (by omega) h2
          omega
      · have e := itsP_bad (n := n) hit hc
        rw [e] at he; cases he
theorem cmdP_pos {c : Int → Int} {L p w : Int} {l : List Int} (h : LT c L) (he : (cmdP c p).1 = some (w, l)) : p + 7 ≤ (cmdP c p).2 ∧ (cmdP c p).2 ≤ L := by
  unfold cmdP at he ⊢
  by_cases q1 : wdF c p (eP c p) < 0
  · rw [if_pos q1] at he; cases he
  · rw [if_neg q1] at he ⊢
    by_cases q2 : c (eP c p) = 58
    · rw [if_pos q2] at he ⊢
      have hlt := h.nz (i := eP c p) (by omega)
      rcases wdF_cases c p (eP c p) with q | ⟨w', w1, w2, w3⟩
      · omega
      · have hs := (sLn_w w1).1
        have hm := (kd_ok (w := wdF c p (eP c p)) (by omega)).2.1
        have h4 := w2.1
        simp only [] at he ⊢
        cases h2 : (itsP c (wdF c p (eP c p)) (mny (wdF c p (eP c p))) 0 (eP c p + 1)).1 with
        | none => rw [h2] at he; cases he
        | some l' =>
          have := itsP_pos h _ 0 (eP c p + 1) l' (by omega) h2
          omega
    · rw [if_neg q2] at he; cases he
abbrev TCm : Type := Int × Int × List Int
noncomputable def txP (c : Int → Int) (L : Int) : Nat → Int → Option (List TCm) × Int
  | 0, p => (none, p)
  | n + 1, p => match (cmdP c p).1 with
    | none => (none, (cmdP c p).2)
    | some wl => if (cmdP c p).2 < L then ((txP c L n (cmdP c p).2).1.map (fun t => (p, wl) :: t), (txP c L n (cmdP c p).2).2) else (some [(p, wl)], (cmdP c p).2)
def addT (pre : List TCm) (r : Option (List TCm) × Int) : Option (List TCm) × Int := (r.1.map (fun l => pre ++ l), r.2)
theorem txP_none {c : Int → Int} {L p : Int} {n : Nat} (h : (cmdP c p).1 = none) : txP c L (n + 1) p = (none, (cmdP c p).2) := by
  unfold txP; rw [h]
theorem txP_end {c : Int → Int} {L p : Int} {n : Nat} {wl : Int × List Int} (h : (cmdP c p).1 = some wl) (hq : ¬ (cmdP c p).2 < L) : txP c L (n + 1) p = (some [(p, wl)], (cmdP c p).2) := by
  unfold txP; rw [h]; simp only []; rw [if_neg hq]
theorem txP_step {c : Int → Int} {L p : Int} {n : Nat} {wl : Int × List Int} {pre : List TCm} (h : (cmdP c p).1 = some wl) (hq : (cmdP c p).2 < L) : addT pre (txP c L (n + 1) p) = addT (pre ++ [(p, wl)]) (txP c L n (cmdP c p).2) := by
  have e : txP c L (n + 1) p = ((txP c L n (cmdP c p).2).1.map (fun t => (p, wl) :: t), (txP c L n (cmdP c p).2).2) := by
    conv => lhs; unfold txP
    rw [h]; simp only []; rw [if_pos hq]
  rw [e]
  unfold addT
  simp only []
  cases (txP c L n (cmdP c p).2).1 with
  | none => rfl
  | some l => simp
/-- what was read: the rows of the commands -/
def Rows (M : jT) (t : List TCm) : Prop := ∀ (k : Nat) (p w : Int) (l : List Int), t[k]? = some (p, w, l) → Row M (10 * k) p w l
def FrT (M M' : jT) : Prop := (∀ a, a ≠ 601 → a ≠ 603 → M' a = M a) ∧ M' 601 0 = M 601 0
theorem Row.mv {M M' : jT} {r p w : Int} {l : List Int} (h : Row M r p w l) (f : ∀ b, r ≤ b → b < r + 10 → M' 603 b = M 603 b) : Row M' r p w l := by
  obtain ⟨h1, h2, h3, h4, h5⟩ := h
  have hm := (kd_ok h3).2.2
  refine ⟨by rw [f _ (by omega) (by omega)]; exact h1, by rw [f _ (by omega) (by omega)]; exact h2, h3, h4, fun j hj => ?_⟩
  rw [f _ (by omega) (by omega)]; exact h5 j hj
theorem c_text {c : Int → Int} {M : jT} {Q : Int → jT → Prop} (h : RdL c M)
    (k1 : ∀ t q M', txP c (M 601 0) 9 0 = (some t, q) → FrT M M' → M' 601 1 = t.length → t.length ≤ 9 → M' 601 2 = -1 → Rows M' t → Q 1 M')
    (k0 : ∀ q M', txP c (M 601 0) 9 0 = (none, q) → FrT M M' → M' 601 2 = q → rg q → Q 0 M') : wp_X6_readText M 601 Q := by
  have hL := h.1.1
  unfold wp_X6_readText
  refine up_in fun M1 n1 => up_in fun M2 n2 => up_in fun M3 n3 => ?_
  have f3 : FrT M M3 := ⟨fun a a1 a2 => funext fun b => by rw [n3, if_neg (by omega), n2, if_neg (by omega), n1, if_neg (by omega)], by rw [n3, if_neg (by omega), n2, if_neg (by omega), n1, if_neg (by omega)]⟩
  refine ⟨fun n M4 => FrT M M4 ∧ M4 601 2 = -1 ∧ ∃ (pre : List TCm) (p : Int), M4 601 1 = pre.length ∧ M4 601 3 = p ∧ pre.length ≤ 8 ∧ 9 - pre.length ≤ n ∧ 7 * (pre.length : Int) ≤ p ∧ p ≤ M 601 0 ∧ txP c (M 601 0) 9 0 = addT pre (txP c (M 601 0) (9 - pre.length) p) ∧ Rows M4 pre, ⟨9, f3, by rw [n3, if_neg (by omega), n2, if_pos ⟨rfl, rfl⟩], [], 0, by rw [n3, if_pos ⟨rfl, rfl⟩]; rfl, by rw [n3, if_neg (by omega), n2, if_neg (by omega), n1, if_pos ⟨rfl, rfl⟩], by simp, by simp, by simp, by omega, by unfold addT; simp, fun k p w l hk => by simp at hk⟩, ?_⟩
  rintro n M4 ⟨f4, g4, pre, p, a1, a2, a3, a4, a5, a6, a7, a8⟩
  have hR4 : RdL c M4 := by unfold RdL; rw [f4.2, f4.1 602 (by omega) (by omega)]; exact h
  rw [a1]
  have hp4 : 0 ≤ p ∧ p ≤ M4 601 0 := by rw [f4.2]; omega
  obtain ⟨m, hm⟩ : ∃ m, 9 - pre.length = m + 1 := ⟨8 - pre.length, by omega⟩
  rw [hm] at a7
  refine c_command hR4 (p := p) (r := (pre.length : Int) * 10) hp4 a2 g4 (by omega) fun M8 f8 hco => up_in fun M9 n9 => ?_
  have e81 : M8 601 1 = pre.length := by rw [f8.2.1 1 (by omega) (by omega), a1]
  rw [e81] at n9
  have F9 : ∀ a, a ≠ 601 → M9 a = M8 a := (fun a ha => funext fun b => by rw [n9 a b, if_neg (by omega)])
  have z9 : ∀ b, b ≠ 1 → M9 601 b = M8 601 b := fun b hb => by rw [n9, if_neg (by omega)]
  have t9 : M9 601 1 = pre.length + 1 := by rw [n9, if_pos ⟨rfl, rfl⟩]
  have f9 : FrT M M9 := ⟨fun a b1 b2 => by rw [F9 a b1, f8.1 a b1 b2, f4.1 a b1 b2], by rw [z9 0 (by omega), f8.2.1 0 (by omega) (by omega), f4.2]⟩
  have z90 := f9.2
  rw [z9 2 (by omega)]
  rcases hco with ⟨w, l, c1, c2, c3, c4⟩ | ⟨c1, c2, c3, c4⟩
  · rw [c2]
    obtain ⟨d1, d2⟩ := cmdP_pos h.1 c1
    have hrow : Rows M9 (pre ++ [(p, w, l)]) := by
      intro k p' w' l' hk
      by_cases q : k < pre.length
      · rw [List.getElem?_append_left q] at hk
        exact (a8 k p' w' l' hk).mv (fun b b1 b2 => by rw [F9 603 (by omega)]; exact f8.2.2 b (by omega))
      · rw [List.getElem?_append_right (by omega)] at hk
        have hlt : k - pre.length < 1 := (List.getElem?_eq_some_iff.mp hk).1
        have ek : k = pre.length := by omega
        rw [show k - pre.length = 0 by omega] at hk
        cases hk
        rw [ek, show (10 : Int) * (pre.length : Int) = (pre.length : Int) * 10 by omega]
        exact c4.mv (fun b b1 b2 => by rw [F9 603 (by omega)])
    refine ⟨¬ (M9 601 3 < M9 601 0), fun stop => ⟨⟨⟨by omega, by omega⟩, fun _ => trivial, fun _ => trivial⟩, ?_⟩, ⟨by omega, by omega⟩, fun q => by omega, fun _ => ⟨by rw [z9 3 (by omega), c3]; exact ⟨by omega, by omega⟩, by rw [z90]; exact ⟨by omega, by omega⟩, fun q => by omega, fun q => ⟨by rw [t9]; exact ⟨by omega, by omega⟩, fun q2 => ?_, fun q2 => ?_⟩⟩⟩
    · rw [z9 3 (by omega), c3, z90] at stop
      rw [b2i_t (by omega)]
      have e1 := txP_end (n := m) c1 stop
      refine k1 (pre ++ [(p, w, l)]) (cmdP c p).2 M9 ?_ f9 (by rw [t9]; simp) (by simp; omega) (by rw [z9 2 (by omega)]; exact c2) hrow
      rw [a7, e1]; rfl
    · rw [z9 3 (by omega), c3, z90] at q
      refine ⟨9 - (pre ++ [(p, w, l)]).length, by simp; omega, f9, by rw [z9 2 (by omega)]; exact c2, pre ++ [(p, w, l)], (cmdP c p).2, by rw [t9]; simp, by rw [z9 3 (by omega)]; exact c3, by simp; omega, by omega, by simp; omega, by omega, ?_, hrow⟩
      rw [a7, txP_step c1 q, show 9 - (pre ++ [(p, w, l)]).length = m by simp; omega]
    · rw [z9 3 (by omega), c3, z90] at q
      omega
  · have e1 := txP_none (L := M 601 0) (n := m) c1
    refine ⟨True, fun _ => ⟨⟨by rw [c2]; exact ⟨by omega, by omega⟩, fun _ => trivial, fun _ => trivial⟩, ?_⟩, by rw [c2]; exact ⟨by omega, by omega⟩, fun _ => trivial, fun q => by omega⟩
    rw [b2i_f (by omega)]
    refine k0 (cmdP c p).2 M9 ?_ f9 (by rw [z9 2 (by omega)]; exact c2) ⟨by omega, by omega⟩
    rw [a7, e1]; rfl
