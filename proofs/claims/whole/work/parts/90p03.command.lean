/-! the class's reader: a word, a command, the text -/
theorem c_nameOf {M : jT} {w : Nat} {x : Int} {Q : Nat → Prop} (hw : w < 5) (hx : x = w) (k : Q (6 + w)) : wp_X6_nameOf M x Q := by
  unfold wp_X6_nameOf
  subst hx
  have h5 : w = 0 ∨ w = 1 ∨ w = 2 ∨ w = 3 ∨ w = 4 := by omega
  refine ⟨⟨by omega, by omega⟩, fun q => ?_, fun q => ?_, fun q => ?_, fun q => ?_, fun q => ?_⟩
  · rw [show w = 0 by omega] at k; exact k
  · rw [show w = 1 by omega] at k; exact k
  · rw [show w = 2 by omega] at k; exact k
  · rw [show w = 3 by omega] at k; exact k
  · rw [show w = 4 by omega] at k; exact k
theorem c_word {c : Int → Int} {M : jT} {p : Int} {Q : Int → jT → Prop} (h : RdL c M) (hp : 0 ≤ p ∧ p ≤ M 601 0) (hat : M 601 3 = p) (h2 : M 601 2 = -1)
    (k1 : ∀ e M', isE c p e → e ≤ M 601 0 → 0 ≤ wdF c p e → wdF c p e < 5 → FrC M M' → M' 601 3 = e → M' 601 2 = -1 → Q (wdF c p e) M')
    (k0 : ∀ e M', isE c p e → wdF c p e = -1 → FrC M M' → M' 601 2 = p → Q (-1) M') : wp_X6_readWord M 601 Q := by
  have hL := h.1.1
  unfold wp_X6_readWord
  rw [hat]
  intro x1 e1 x2 e2
  subst x1 x2
  refine ⟨fun n e => p ≤ e ∧ e ≤ M 601 0 ∧ (M 601 0 - e).toNat ≤ n ∧ ∀ i, p ≤ i → i < e → 97 ≤ c i ∧ c i ≤ 122, ⟨(M 601 0 - p).toNat, by omega, by omega, by omega, fun i a b => by omega⟩, ?_⟩
  rintro n e ⟨i0, i1, i2, i3⟩
  refine ⟨isE c p e, fun hE => ?_, ⟨by omega, by omega⟩, ⟨by omega, by omega⟩, fun q => ⟨i0, i3, by rw [h.1.2.2 e q]; omega⟩, fun q => ?_⟩
  · refine ⟨fun n v => 0 ≤ v ∧ v ≤ 5 ∧ (5 - v).toNat ≤ n ∧ ∀ u : Nat, u < v → ¬ isW c p e u, ⟨5, by omega, by omega, by omega, fun u a => by omega⟩, ?_⟩
    rintro n2 v ⟨v0, v1, v2, v3⟩
    refine ⟨⟨by omega, by omega⟩, fun q => up_in fun M25 h25 => k0 e M25 hE (wdF_no fun u a => v3 u (by omega)) (FrC.rfl.up (Or.inl rfl) h25) (by rw [h25, if_pos ⟨rfl, rfl⟩]), fun q => ?_⟩
    refine c_nameOf (w := v.toNat) (by omega) (by omega) (c_isWord h (by omega) ⟨by omega, by omega, by omega⟩ (fun hW => ⟨⟨by omega, by omega⟩, fun z => by omega, fun _ => up_in fun M34 h34 => ?_⟩) (fun hW => ⟨⟨by omega, by omega⟩, fun _ x ex => ⟨(5 - x).toNat, by omega, by omega, by omega, by omega, fun u hu => ?_⟩, fun z => absurd rfl z⟩))
    · have ew := wdF_of (c := c) (p := p) (e := e) (w := v.toNat) (by omega) hW (fun u hu => v3 u (by omega))
      have hv : (v.toNat : Int) = v := by omega
      rw [hv] at ew
      have := k1 e M34 hE i1 (by omega) (by omega) (FrC.rfl.up (Or.inr rfl) h34) (by rw [h34, if_pos ⟨rfl, rfl⟩]) (by rw [h34, if_neg (by omega)]; exact h2)
      rw [ew] at this; exact this
    · by_cases q3 : u = v.toNat
      · rw [q3]; exact hW
      · exact v3 u (by omega)
  · obtain ⟨l1, l2, l3⟩ := h.at (i := e) (by omega)
    rw [l1]
    refine ⟨l2, l3, fun q1 => ⟨i0, i3, by omega⟩, fun q1 => ⟨fun q2 => ⟨i0, i3, by omega⟩, fun q2 x ex => ⟨(M 601 0 - x).toNat, by omega, by omega, by omega, by omega, fun i a b => ?_⟩⟩⟩
    by_cases q3 : i = e
    · rw [q3]; exact ⟨q1, q2⟩
    · exact i3 i a (by omega)
/-- items, one after the other -/
def itsP (c : Int → Int) (w : Int) : Nat → Int → Int → Option (List Int) × Int
  | 0, _, p => (some [], p)
  | n + 1, i, p => match (itP c w i p).1 with
    | none => (none, (itP c w i p).2)
    | some v => if c (itP c w i p).2 = (if n = 0 then 59 else 44) then ((itsP c w n (i + 1) ((itP c w i p).2 + 1)).1.map (fun l => v :: l), (itsP c w n (i + 1) ((itP c w i p).2 + 1)).2) else (none, (itP c w i p).2)
def addL (pre : List Int) (r : Option (List Int) × Int) : Option (List Int) × Int := (r.1.map (fun l => pre ++ l), r.2)
theorem addL_none {pre : List Int} {q : Int} : addL pre (none, q) = (none, q) := rfl
theorem itsP_none {c : Int → Int} {w i p q : Int} {n : Nat} (h : itP c w i p = (none, q)) : itsP c w (n + 1) i p = (none, q) := by
  unfold itsP; rw [h]
theorem itsP_bad {c : Int → Int} {w i p q v : Int} {n : Nat} (h : itP c w i p = (some v, q)) (hc : c q ≠ if n = 0 then 59 else 44) : itsP c w (n + 1) i p = (none, q) := by
  unfold itsP; rw [h]; simp only []; rw [if_neg hc]
theorem itsP_step {c : Int → Int} {w i p q v : Int} {n : Nat} {pre : List Int} (h : itP c w i p = (some v, q)) (hc : c q = if n = 0 then 59 else 44) : addL pre (itsP c w (n + 1) i p) = addL (pre ++ [v]) (itsP c w n (i + 1) (q + 1)) := by
  have e : itsP c w (n + 1) i p = ((itsP c w n (i + 1) (q + 1)).1.map (fun l => v :: l), (itsP c w n (i + 1) (q + 1)).2) := by
    conv => lhs; unfold itsP
    rw [h]; simp only []; rw [if_pos hc]
  rw [e]
  unfold addL
  simp only []
  cases (itsP c w n (i + 1) (q + 1)).1 with
  | none => rfl
  | some l => simp
noncomputable def cmdP (c : Int → Int) (p : Int) : Option (Int × List Int) × Int :=
  if wdF c p (eP c p) < 0 then (none, p) else if c (eP c p) = 58 then ((itsP c (wdF c p (eP c p)) (mny (wdF c p (eP c p))) 0 (eP c p + 1)).1.map (fun l => (wdF c p (eP c p), l)), (itsP c (wdF c p (eP c p)) (mny (wdF c p (eP c p))) 0 (eP c p + 1)).2) else (none, eP c p)
theorem cmdP_w {c : Int → Int} {p e : Int} (hE : isE c p e) (h : wdF c p e = -1) : cmdP c p = (none, p) := by
  unfold cmdP; rw [eP_of hE, if_pos (by omega)]
theorem cmdP_c {c : Int → Int} {p e : Int} (hE : isE c p e) (h : 0 ≤ wdF c p e) (hc : c e ≠ 58) : cmdP c p = (none, e) := by
  unfold cmdP; rw [eP_of hE, if_neg (by omega), if_neg hc]
theorem cmdP_i {c : Int → Int} {p e : Int} (hE : isE c p e) (h : 0 ≤ wdF c p e) (hc : c e = 58) : cmdP c p = ((itsP c (wdF c p e) (mny (wdF c p e)) 0 (e + 1)).1.map (fun l => (wdF c p e, l)), (itsP c (wdF c p e) (mny (wdF c p e)) 0 (e + 1)).2) := by
  unfold cmdP; rw [eP_of hE, if_neg (by omega), if_pos hc]
def FrK (M M' : jT) (r : Int) : Prop := (∀ a, a ≠ 601 → a ≠ 603 → M' a = M a) ∧ (∀ b, b ≠ 2 → b ≠ 3 → M' 601 b = M 601 b) ∧ ∀ b, b < r ∨ r + 10 ≤ b → M' 603 b = M 603 b
theorem FrK.c {M M1 M2 : jT} {r : Int} (h : FrK M M1 r) (f : FrC M1 M2) : FrK M M2 r := ⟨fun a a1 a2 => (f.1 a a1).trans (h.1 a a1 a2), fun b b1 b2 => (f.2 b b1 b2).trans (h.2.1 b b1 b2), fun b hb => by rw [f.1 603 (by omega)]; exact h.2.2 b hb⟩
theorem FrK.up {M M1 M2 : jT} {r j v : Int} (h : FrK M M1 r) (hj : r ≤ j ∧ j < r + 10) (e : ∀ a b, M2 a b = if a = 603 ∧ b = j then v else M1 a b) : FrK M M2 r :=
  ⟨fun a a1 a2 => by rw [← h.1 a a1 a2]; funext b; rw [e, if_neg (by omega)], fun b b1 b2 => by rw [e, if_neg (by omega)]; exact h.2.1 b b1 b2, fun b hb => by rw [e, if_neg (by omega)]; exact h.2.2 b hb⟩
theorem RdL.frk {c : Int → Int} {M M' : jT} {r : Int} (h : RdL c M) (f : FrK M M' r) : RdL c M' := by
  unfold RdL; rw [f.2.1 0 (by omega) (by omega), f.1 602 (by omega) (by omega)]; exact h
/-- the row of a command -/
def Row (M : jT) (r p w : Int) (l : List Int) : Prop := M 603 r = w ∧ M 603 (r + 1) = p ∧ (0 ≤ w ∧ w < 5) ∧ l.length = mny w ∧ ∀ j : Nat, j < l.length → M 603 (r + 2 + j) = l.getD j 0 ∧ Bdv (l.getD j 0)
def CO (c : Int → Int) (M' : jT) (p r : Int) : Prop := (∃ w l, (cmdP c p).1 = some (w, l) ∧ M' 601 2 = -1 ∧ M' 601 3 = (cmdP c p).2 ∧ Row M' r p w l) ∨ ((cmdP c p).1 = none ∧ M' 601 2 = (cmdP c p).2 ∧ 0 ≤ (cmdP c p).2 ∧ (cmdP c p).2 ≤ 60)
theorem c_command {c : Int → Int} {M : jT} {p r : Int} {Q : jT → Prop} (h : RdL c M) (hp : 0 ≤ p ∧ p ≤ M 601 0) (hat : M 601 3 = p) (h2 : M 601 2 = -1) (hr : 0 ≤ r ∧ r + 10 ≤ 90) (kk : ∀ M', FrK M M' r → CO c M' p r → Q M') : wp_X6_readCommand M 601 r Q := by
  have hL := h.1.1
  unfold wp_X6_readCommand
  simp only [Int.reduceAdd]
  rw [hat]
  refine ⟨⟨by omega, by omega⟩, up_in fun M2 k2 => ?_⟩
  have f2 : FrK M M2 r := FrK.up ⟨fun _ _ _ => rfl, fun _ _ _ => rfl, fun _ _ => rfl⟩ (j := r + 1) (by omega) k2
  have z2 : ∀ b, M2 601 b = M 601 b := fun b => by rw [k2, if_neg (by omega)]
  have hR2 := h.frk f2
  refine c_word hR2 (p := p) (by rw [z2]; exact hp) (by rw [z2]; exact hat) (by rw [z2]; exact h2) (fun e M4 hE he w0 w5 f4 a4 g4 => ?_) (fun e M4 hE hw f4 g4 => ?_)
  · rw [z2] at he
    have e0 := hE.1
    rw [g4]
    refine ⟨⟨by omega, by omega⟩, fun _ => ⟨⟨by omega, by omega⟩, up_in fun M8 k8 => ?_⟩, fun q => by omega⟩
    have f8 : FrK M M8 r := (f2.c f4).up (j := r) (by omega) k8
    have hR8 := h.frk f8
    have z8 : ∀ b, M8 601 b = M4 601 b := fun b => by rw [k8, if_neg (by omega)]
    have p8 : M8 603 r = wdF c p e ∧ M8 603 (r + 1) = p := ⟨by rw [k8, if_pos ⟨rfl, rfl⟩], by rw [k8, if_neg (by omega), f4.1 603 (by omega), k2, if_pos ⟨rfl, rfl⟩]⟩
    generalize hw : wdF c p e = w at *
    obtain ⟨n1, n2, n3⟩ := kd_ok (w := w) ⟨w0, w5⟩
    -- the loop, from a state that is right so far or wrong
    have loop : ∀ M10, FrK M M10 r → M10 603 r = w → M10 603 (r + 1) = p → ((c e = 58 ∧ M10 601 3 = e + 1 ∧ e + 1 ≤ M 601 0 ∧ M10 601 2 = -1) ∨ (cmdP c p = (none, e) ∧ M10 601 2 = e)) → wp_X6_kindsOf M10 w (fun z11 => ∀ x15 : Int, x15 = sLn z11 → ∃ I18 : Nat → Int → jT → Prop, (∃ n19, I18 n19 0 M10) ∧ ∀ (n19 : Nat) (x16 : Int) (M17 : jT), I18 n19 x16 M17 → ∃ K42 : Prop, (K42 → Q M17) ∧ rg x16 ∧ rg x15 ∧ ((x15 ≤ x16 → K42) ∧ (x16 < x15 → (rg (M17 601 2) ∧ ((0 ≤ M17 601 2 → K42) ∧ (M17 601 2 < 0 → ((0 ≤ x16 ∧ x16 < sLn z11) ∧ wp_X6_readItem M17 601 (sCh z11 x16) (fun z51 M52 => (0 ≤ (r + 2) + x16 ∧ (r + 2) + x16 < 90) ∧ ∀ M54 : jT, M54 = up M52 603 ((r + 2) + x16) z51 → (rg (x16 + 1) ∧ ((x15 ≤ x16 + 1 → True) ∧ (x16 + 1 < x15 → True))) ∧ (∀ x57 : Int, (x15 ≤ x16 + 1 → x57 = 59) → (x16 + 1 < x15 → x57 = 44) → wp_X6_readSign M54 601 x57 (fun M62 => ∀ x63 : Int, x63 = x16 + 1 → ∃ n64, n64 < n19 ∧ I18 n64 x63 M62)))))))))) := by
      intro M10 f10 r10 s10 hst
      have kds : ∀ Q' : Nat → Prop, Q' (kdS w) → wp_X6_kindsOf M10 w Q' := fun Q' k => by
        unfold wp_X6_kindsOf
        refine ⟨⟨by omega, by omega⟩, fun q => ?_, fun q => ?_, fun q => ?_, fun q => ?_⟩
        · rw [q] at k; exact k
        · rw [q] at k; exact k
        · rw [q] at k; exact k
        · unfold kdS at k; rw [if_neg q.1, if_neg q.2.1, if_neg q.2.2] at k; exact k
      refine kds _ ?_
      intro x15 e15
      rw [n1] at e15
      subst e15
      refine ⟨fun n i M17 => FrK M M17 r ∧ M17 603 r = w ∧ M17 603 (r + 1) = p ∧ 0 ≤ i ∧ i ≤ mny w ∧ (mny w - i).toNat ≤ n ∧ ((∃ (pre : List Int) (q : Int), (pre.length : Int) = i ∧ c e = 58 ∧ M17 601 2 = -1 ∧ M17 601 3 = q ∧ 0 ≤ q ∧ q ≤ M 601 0 ∧ itsP c w (mny w) 0 (e + 1) = addL pre (itsP c w (mny w - i.toNat) i q) ∧ ∀ j : Nat, j < pre.length → M17 603 (r + 2 + j) = pre.getD j 0 ∧ Bdv (pre.getD j 0)) ∨ ((cmdP c p).1 = none ∧ M17 601 2 = (cmdP c p).2 ∧ 0 ≤ (cmdP c p).2 ∧ (cmdP c p).2 ≤ 60)), ⟨mny w, f10, r10, s10, by omega, by omega, by omega, ?_⟩, ?_⟩
      · rcases hst with ⟨t1, t2, t3, t4⟩ | ⟨t1, t2⟩
        · refine Or.inl ⟨[], e + 1, rfl, t1, t4, t2, by omega, by omega, ?_, fun j hj => absurd hj (by simp)⟩
          unfold addL; simp
        · refine Or.inr ⟨by rw [t1], by rw [t1]; exact t2, by rw [t1]; show 0 ≤ e; omega, by rw [t1]; show e ≤ 60; omega⟩
      rintro n i M17 ⟨f17, r17, s17, i0, i1, i2, hst⟩
      refine ⟨((mny w : Int) ≤ i) ∨ 0 ≤ M17 601 2, fun stop => kk M17 f17 ?_, ⟨by omega, by omega⟩, ⟨by omega, by omega⟩, fun q => Or.inl q, fun q => ?_⟩
      · rcases hst with ⟨pre, q, t1, t2, t3, t4, t5, t6, t7, t8⟩ | hst
        · have hi : i = mny w := by omega
          have e1 : itsP c w (mny w) 0 (e + 1) = (some pre, q) := by
            rw [t7, show mny w - i.toNat = 0 by omega]
            unfold itsP addL; simp
          have e2 := cmdP_i hE (by rw [hw]; exact w0) t2
          rw [hw, e1] at e2
          refine Or.inl ⟨w, pre, by rw [e2]; rfl, t3, by rw [e2]; exact t4, r17, s17, ⟨w0, w5⟩, by omega, t8⟩
        · exact Or.inr hst
      · rcases hst with ⟨pre, q', t1, t2, t3, t4, t5, t6, t7, t8⟩ | hst
        · rw [t3]
          refine ⟨⟨by omega, by omega⟩, fun z => by omega, fun _ => ⟨by rw [n1]; omega, ?_⟩⟩
          have hR17 := h.frk f17
          refine c_item hR17 ⟨w0, w5⟩ ⟨i0, q⟩ (p := q') (by omega) t4 t3 fun v M52 hv ⟨f52, a52, g52⟩ => ⟨⟨by omega, by omega⟩, up_in fun M54 k54 => ⟨⟨⟨by omega, by omega⟩, fun _ => trivial, fun _ => trivial⟩, fun x57 g1 g2 => ?_⟩⟩
          have hpo := itP_pos (c := c) (L := M 601 0) (w := w) (i := i) (p := q') h.1 t6
          have f54 : FrK M M54 r := (f17.c f52).up (j := r + 2 + i) (by omega) k54
          have hR54 := h.frk f54
          have z54 : ∀ b, M54 601 b = M52 601 b := fun b => by rw [k54, if_neg (by omega)]
          have p54 : M54 603 r = w ∧ M54 603 (r + 1) = p := ⟨by rw [k54, if_neg (by omega), f52.1 603 (by omega)]; exact r17, by rw [k54, if_neg (by omega), f52.1 603 (by omega)]; exact s17⟩
          obtain ⟨m, hm⟩ : ∃ m, mny w - i.toNat = m + 1 := ⟨mny w - i.toNat - 1, by omega⟩
          rw [hm] at t7
          have e2 := cmdP_i hE (by rw [hw]; exact w0) t2
          rw [hw] at e2
          have bad : ∀ q2 : Int, itsP c w (m + 1) i q' = (none, q2) → cmdP c p = (none, q2) := fun q2 z => by rw [e2, t7, z]; rfl
          have hsg : x57 = (if m = 0 then 59 else 44) := by
            by_cases c1 : (mny w : Int) ≤ i + 1
            · rw [if_pos (by omega)]; exact g1 c1
            · rw [if_neg (by omega)]; exact g2 (by omega)
          rcases g52 with ⟨b1, b2⟩ | ⟨b1, b2⟩
          · have hit : itP c w i q' = (some v, (itP c w i q').2) := by rw [← b1]
            have hq := hpo.2.2 (by rw [b1]; simp)
            refine c_sign hR54 (p := (itP c w i q').2) (by have := hpo.2.1; omega) (by rw [z54]; exact a52) (by rw [z54, b2]; exact t3) (by rw [hsg]; split <;> exact ⟨by omega, by omega⟩) (fun hc M62 f62 a62 g62 x63 e63 => ?_) (fun hc M62 f62 g62 x63 e63 => ?_)
            · have hlt := h.1.nz (i := (itP c w i q').2) (by rw [hc, hsg]; split <;> omega)
              refine ⟨(mny w - x63).toNat, by omega, f54.c f62, by rw [f62.1 603 (by omega)]; exact p54.1, by rw [f62.1 603 (by omega)]; exact p54.2, by omega, by omega, by omega, Or.inl ⟨pre ++ [v], (itP c w i q').2 + 1, by simp; omega, t2, g62, a62, by omega, by omega, ?_, fun j hj => ?_⟩⟩
              · rw [t7, itsP_step hit (by rw [hc, hsg]), show mny w - x63.toNat = m by omega, e63]
              · rw [f62.1 603 (by omega)]
                simp only [List.length_append, List.length_cons, List.length_nil] at hj
                by_cases c1 : j < pre.length
                · rw [show (pre ++ [v]).getD j 0 = pre.getD j 0 by rw [List.getD_eq_getElem?_getD, List.getElem?_append_left c1, ← List.getD_eq_getElem?_getD], k54, if_neg (by omega), f52.1 603 (by omega)]
                  exact t8 j c1
                · have ej : j = pre.length := by omega
                  subst ej
                  have : (pre ++ [v]).getD pre.length 0 = v := by simp
                  rw [this, k54, if_pos ⟨rfl, by omega⟩]
                  exact ⟨rfl, hv⟩
            · have hb := bad _ (itsP_bad (n := m) hit (by rw [← hsg]; exact hc))
              refine ⟨(mny w - x63).toNat, by omega, f54.c f62, by rw [f62.1 603 (by omega)]; exact p54.1, by rw [f62.1 603 (by omega)]; exact p54.2, by omega, by omega, by omega, Or.inr ⟨by rw [hb], by rw [hb]; exact g62, by rw [hb]; show 0 ≤ (itP c w i q').2; omega, by rw [hb]; show (itP c w i q').2 ≤ 60; have := hpo.2.1; omega⟩⟩
          · have hit : itP c w i q' = (none, (itP c w i q').2) := by rw [← b1]
            have hb := bad _ (itsP_none (n := m) hit)
            have h0 : 0 ≤ (itP c w i q').2 ∧ (itP c w i q').2 ≤ 60 := by have := hpo.1; have := hpo.2.1; omega
            refine c_sign_no (by rw [z54, b2]; exact ⟨h0.1, by omega, by omega⟩) fun x63 e63 => ⟨(mny w - x63).toNat, by omega, f54, p54.1, p54.2, by omega, by omega, by omega, Or.inr ⟨by rw [hb], by rw [hb, z54]; exact b2, by rw [hb]; exact h0.1, by rw [hb]; exact h0.2⟩⟩
        · rw [hst.2.1]
          exact ⟨⟨by omega, by omega⟩, fun _ => Or.inr hst.2.2.1, fun z => by omega⟩
    refine c_sign hR8 (p := e) (by omega) (by rw [z8]; exact a4) (by rw [z8]; exact g4) ⟨by omega, by omega⟩ (fun hc M10 f10 a10 g10 => ?_) (fun hc M10 f10 g10 => ?_)
    · have hlt := h.1.nz (i := e) (by omega)
      exact loop M10 (f8.c f10) (by rw [f10.1 603 (by omega)]; exact p8.1) (by rw [f10.1 603 (by omega)]; exact p8.2) (Or.inl ⟨hc, a10, by omega, g10⟩)
    · exact loop M10 (f8.c f10) (by rw [f10.1 603 (by omega)]; exact p8.1) (by rw [f10.1 603 (by omega)]; exact p8.2) (Or.inr ⟨cmdP_c hE (by rw [hw]; exact w0) hc, g10⟩)
  · rw [g4]
    have hb := cmdP_w hE hw
    exact ⟨⟨by omega, by omega⟩, fun q => by omega, fun _ => kk M4 (f2.c f4) (Or.inr ⟨by rw [hb], by rw [hb]; exact g4, by rw [hb]; exact hp.1, by rw [hb]; show p ≤ 60; omega⟩)⟩
