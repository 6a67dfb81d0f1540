/-! the reference's reader: dates, items -/
theorem r_date {c : Int → Int} {N : jT} {p i : Int} {Q : Int → jT → Prop} (h : RdR c N) (hp : 0 ≤ p ∧ p ≤ 80) (hat : N 608 9 = p) (hi : 0 ≤ i ∧ i < 8) (kk : ∀ b N', IO N N' i (dateP c p) fixD b → Q b N') : wp_X11_date_ N 608 i Q := by
  have hL := h.1.1
  unfold wp_X11_date_
  simp only [Int.reduceAdd]
  -- one digit read into the item
  have dig : ∀ (M2 : jT) (p' : Int), FrR N M2 → M2 608 9 = p' → 0 ≤ p' ∧ p' ≤ 90 → 48 ≤ c p' ∧ c p' ≤ 54 → ∀ M115 : jT, M115 = up M2 608 9 (p' + 1) → FrR N M115 ∧ M115 608 9 = p' + 1 ∧ p' < 60 ∧ M115 613 p' = c p' := by
    intro M2 p' f2 a2 hp' hd
    refine up_in fun M115 k115 => ?_
    have f := f2.up k115
    have hlt := h.1.nz (i := p') (by omega)
    exact ⟨f, by rw [k115, if_pos ⟨rfl, rfl⟩], by omega, by rw [f.1 613 (by omega)]; exact h.2 p' hp'.1 hlt⟩
  refine r_takes h (by omega) hat ⟨by omega, by omega⟩ (fun hc M2 f2 a2 => ⟨⟨by omega, by omega⟩, fun z => by omega, fun _ => ?_⟩) (fun hc => ⟨⟨by omega, by omega⟩, fun _ => ?_, fun z => absurd rfl z⟩)
  · obtain ⟨g, e⟩ := r_dig (h.fr f2) (p := p + 1) (lo := 0) (hi := 6) (by omega) a2 (by omega) (by omega)
    have ed : dateP c p = wkP c (p + 1) 500 := by unfold dateP; rw [if_pos hc]
    rw [a2]
    refine ⟨g, fun q => ?_, fun q => kk 0 M2 ?_⟩
    · have q := e.mp q
      intro M115 e115
      obtain ⟨f, a, b1, b2⟩ := dig M2 (p + 1) f2 a2 (by omega) (by omega) M115 e115
      refine ⟨⟨by omega, b1⟩, hi, up_in fun M118 k118 => kk 1 M118 ?_⟩
      rw [ed]; unfold wkP; rw [if_pos (by omega)]
      refine ⟨f.i.up k118, by rw [k118, if_neg (by omega)]; exact a, Or.inl ⟨500 + (c (p + 1) - 48), rfl, rfl, ?_⟩⟩
      rw [k118, if_pos ⟨rfl, rfl⟩, b2]; unfold fixD; rw [if_neg (by omega)]; omega
    · rw [ed]; unfold wkP; rw [if_neg (fun z => q (e.mpr ⟨by omega, by omega⟩))]
      exact ⟨f2.i, a2, Or.inr ⟨rfl, rfl⟩⟩
  · obtain ⟨g, e⟩ := r_dig h (p := p) (lo := 0) (hi := 9) (by omega) hat (by omega) (by omega)
    obtain ⟨h1, h2, h3⟩ := h.here (p := p) (by omega) hat
    rw [h1, hat]
    refine ⟨g, fun q => ?_, fun q => kk 0 N ?_⟩
    · have q := e.mp q
      refine ⟨h2, fun x12 e12 => ⟨⟨⟨by omega, by omega⟩, ⟨by omega, by omega⟩, fun _ => trivial, fun q1 => ⟨⟨by omega, by omega⟩, trivial⟩⟩, fun x17 g0 g1 => ?_⟩⟩
      have e17 : x17 = c (p + 1) := by
        by_cases q1 : N 608 8 ≤ p + 1
        · rw [g0 q1, h.1.2.2 _ q1]
        · rw [g1 (by omega), h.2 _ (by omega) (by omega)]
      have r17 : rg x17 := by have := h.1.rg (i := p + 1) (by omega); exact ⟨by omega, by omega⟩
      refine ⟨¬ (c (p + 1) = 120 ∧ 49 ≤ c p ∧ c p ≤ 52), fun n1 => ?_, r17, fun q1 => by omega, fun q1 => ⟨?_, fun q2 => fun z => q2 ⟨by omega, by omega⟩, fun q2 => up_in fun M102 k102 => ?_⟩⟩
      · refine ⟨¬ (c (p + 1) = 62 ∧ 48 ≤ c p ∧ c p ≤ 54), fun n2 => ?_, r17, fun q1 => by omega, fun q1 => ⟨⟨by omega, by omega⟩, fun q2 => by omega, fun q2 => up_in fun M77 k77 => ?_⟩⟩
        · have ed : dateP c p = mapP (numP c 5 p) (fun v => if v ≤ 31 then v else 0) := by unfold dateP; rw [if_neg hc, if_neg n1, if_neg n2]
          refine r_number (n := 5) h (p := p) (by omega) hat rfl (by omega) fun v N' fN aN hv => ⟨⟨?_, fun _ => trivial, fun _ => trivial⟩, fun x67 t0 t1 => ⟨hi, up_in fun M72 k72 => kk 1 M72 ?_⟩⟩
          · rcases hv with ⟨_, v2, v3⟩ | ⟨_, v2⟩ <;> exact ⟨by omega, by omega⟩
          · rcases hv with ⟨v1, v2, v3⟩ | ⟨v1, v2⟩
            · rw [ed]
              refine ⟨(fN.i).up k72, by rw [k72, if_neg (by omega)]; exact aN, Or.inl ⟨if v ≤ 31 then v else 0, by unfold mapP; rw [v1]; rfl, rfl, ?_⟩⟩
              rw [k72, if_pos ⟨rfl, rfl⟩]
              by_cases c1 : v ≤ 31
              · rw [if_pos c1, t0 c1]; unfold fixD; rw [if_neg (by omega)]
              · rw [if_neg c1, t1 (by omega)]; rfl
            · exfalso
              unfold numP at v1
              rw [if_pos (by omega)] at v1
              cases v1
        · have f77 : FrR N M77 := FrR.rfl.up k77
          have ed : dateP c p = mapP (numP c 2 (p + 2)) (fun m => 1000 + 10 * m + (c p - 48)) := by unfold dateP; rw [if_neg hc, if_neg n1, if_pos ⟨by omega, by omega, by omega⟩]
          have hlt := h.1.nz (i := p + 1) (by omega)
          refine r_number (n := 2) (h.fr f77) (p := p + 2) (by omega) (by rw [k77, if_pos ⟨rfl, rfl⟩]) rfl (by omega) fun v N' fN aN hv => ?_
          rcases hv with ⟨v1, v2, v3⟩ | ⟨v1, v2⟩
          · refine ⟨⟨by omega, by omega⟩, fun _ => ⟨fun x => x = fixD (1000 + 10 * v + x12), fun x hx => ⟨hi, up_in fun M90 k90 => kk 1 M90 ?_⟩, v = 0 ∨ 31 < v, fun q3 => ?_, fun q3 => Or.inl q3, fun q3 => ⟨fun q4 => ?_, fun q4 => Or.inr q4⟩⟩, fun z => by omega⟩
            · rw [ed]
              refine ⟨((f77.trans fN).i).up k90, by rw [k90, if_neg (by omega)]; exact aN, Or.inl ⟨1000 + 10 * v + (c p - 48), by unfold mapP; rw [v1]; rfl, rfl, ?_⟩⟩
              rw [k90, if_pos ⟨rfl, rfl⟩, hx, e12]
            · show (0 : Int) = _
              unfold fixD; rw [if_pos (by omega)]
            · show 1000 + 10 * v + x12 = _
              unfold fixD; rw [if_neg (by omega)]
          · refine ⟨⟨by omega, by omega⟩, fun z => by omega, fun _ => kk 0 N' ?_⟩
            rw [ed]
            exact ⟨(f77.trans fN).i, aN, Or.inr ⟨by unfold mapP; rw [v1]; rfl, rfl⟩⟩
      · unfold pg_X11_in
        exact ⟨⟨by omega, by omega⟩, ⟨by omega, by omega⟩, fun _ => trivial, fun _ => ⟨⟨by omega, by omega⟩, fun _ => trivial, fun _ => trivial⟩⟩
      · have q2 : 1 ≤ x12 ∧ x12 ≤ 4 := q2
        have f102 : FrR N M102 := FrR.rfl.up k102
        have a102 : M102 608 9 = p + 2 := by rw [k102, if_pos ⟨rfl, rfl⟩]
        have ed : dateP c p = wkP c (p + 2) (100 * (c p - 48)) := by unfold dateP; rw [if_neg hc, if_pos ⟨by omega, by omega, by omega⟩]
        obtain ⟨g', e'⟩ := r_dig (h.fr f102) (p := p + 2) (lo := 0) (hi := 6) (by omega) a102 (by omega) (by omega)
        rw [a102]
        refine ⟨g', fun q3 => ?_, fun q3 => kk 0 M102 ?_⟩
        · have q3 := e'.mp q3
          intro M107 e107
          obtain ⟨f, a, b1, b2⟩ := dig M102 (p + 2) f102 a102 (by omega) (by omega) M107 e107
          refine ⟨⟨by omega, b1⟩, hi, up_in fun M110 k110 => kk 1 M110 ?_⟩
          rw [ed]; unfold wkP; rw [if_pos (by omega)]
          refine ⟨f.i.up k110, by rw [k110, if_neg (by omega)]; exact a, Or.inl ⟨100 * (c p - 48) + (c (p + 2) - 48), rfl, rfl, ?_⟩⟩
          rw [k110, if_pos ⟨rfl, rfl⟩, b2, e12]; unfold fixD; rw [if_neg (by omega)]; omega
        · rw [ed]; unfold wkP; rw [if_neg (fun z => q3 (e'.mpr ⟨by omega, by omega⟩))]
          exact ⟨f102.i, a102, Or.inr ⟨rfl, rfl⟩⟩
    · have n1 : ¬ (c (p + 1) = 120 ∧ 49 ≤ c p ∧ c p ≤ 52) := fun z => q (e.mpr ⟨by omega, by omega⟩)
      have n2 : ¬ (c (p + 1) = 62 ∧ 48 ≤ c p ∧ c p ≤ 54) := fun z => q (e.mpr ⟨by omega, by omega⟩)
      have ed : dateP c p = (none, p) := by
        unfold dateP numP; rw [if_neg hc, if_neg n1, if_neg n2, if_neg (fun z => q (e.mpr ⟨by omega, by omega⟩))]; rfl
      rw [ed]
      exact ⟨FrI.rfl, hat, Or.inr ⟨rfl, rfl⟩⟩
/-- the items' values, as the reference keeps them -/
def vx (w i v : Int) : Int := if w = 2 ∧ i = 4 then fixD v else v
theorem r_items {c : Int → Int} {N : jT} {p w : Int} {Q : Int → jT → Prop} (h : RdR c N) (hw : 0 ≤ w ∧ w < 5) (hp : 0 ≤ p ∧ p ≤ N 608 8) (hat : N 608 9 = p)
    (k1 : ∀ l q N', itsP c w (mny w) 0 p = (some l, q) → (∀ a, a ≠ 608 → a ≠ 615 → N' a = N a) → (∀ b, b ≠ 9 → N' 608 b = N 608 b) → N' 608 9 = q → l.length = mny w → (∀ j : Nat, j < l.length → N' 615 j = vx w j (l.getD j 0)) → Q 1 N')
    (k0 : ∀ q N', itsP c w (mny w) 0 p = (none, q) → (∀ a, a ≠ 608 → a ≠ 615 → N' a = N a) → (∀ b, b ≠ 9 → N' 608 b = N 608 b) → N' 608 9 = q → Q 0 N') : wp_X11_items N 608 w Q := by
  have hL := h.1.1
  obtain ⟨n1, n2, n3⟩ := kd_ok hw
  unfold wp_X11_items
  refine ⟨⟨⟨by omega, by omega⟩, fun _ => ⟨fun _ => ⟨fun _ => trivial, fun _ => trivial⟩, fun _ => trivial⟩, fun _ => trivial⟩, fun x5 g0 g1 g2 g3 => ?_⟩
  have e5 : x5 = mny w := by
    unfold mny
    by_cases q0 : w = 0
    · rw [if_pos q0]; exact g3 q0
    · rw [if_neg q0]
      by_cases q1 : w = 1
      · rw [if_pos q1]; exact g2 ⟨q0, q1⟩
      · rw [if_neg q1]
        by_cases q2 : w = 2
        · rw [if_pos q2]; exact g1 ⟨q0, q1, q2⟩
        · rw [if_neg q2]; exact g0 ⟨q0, q1, q2⟩
  subst e5
  have bad : ∀ (i m : Nat) (pre : List Int) (q' q2 : Int), itsP c w (mny w) 0 p = addL pre (itsP c w (m + 1) i q') → itsP c w (m + 1) i q' = (none, q2) → itsP c w (mny w) 0 p = (none, q2) := fun i m pre q' q2 z1 z2 => by rw [z1, z2]; rfl
  -- before an item i: the items so far, and, but for the first, the sign not yet taken
  refine ⟨fun n i M12 => 0 ≤ i ∧ i ≤ mny w ∧ (mny w - i).toNat ≤ n ∧ (∀ a, a ≠ 608 → a ≠ 615 → M12 a = N a) ∧ (∀ b, b ≠ 9 → M12 608 b = N 608 b) ∧ ∃ (pre : List Int) (q : Int), (pre.length : Int) = i ∧ M12 608 9 = q ∧ 0 ≤ q ∧ q ≤ N 608 8 ∧ (∀ j : Nat, j < pre.length → M12 615 j = vx w j (pre.getD j 0)) ∧ ((i = 0 ∧ q = p ∧ pre = []) ∨ (0 < i ∧ ∃ (pr : List Int) (v q0 : Int), pre = pr ++ [v] ∧ itP c w (i - 1) q0 = (some v, q) ∧ itsP c w (mny w) 0 p = addL pr (itsP c w (mny w - (i.toNat - 1)) (i - 1) q0))), ⟨mny w, by omega, by omega, by omega, fun _ _ _ => rfl, fun _ _ => rfl, [], p, rfl, hat, hp.1, hp.2, fun j hj => absurd hj (by simp), Or.inl ⟨rfl, rfl, rfl⟩⟩, ?_⟩
  rintro n i M12 ⟨i0, i1, i2, f1, f2, pre, q, t1, t2, t3, t4, t5, t6⟩
  have hR : RdR c M12 := by unfold RdR; rw [f2 8 (by omega), f1 613 (by omega) (by omega)]; exact h
  refine ⟨⟨by omega, by omega⟩, ⟨by omega, by omega⟩, fun q1 => ?_, fun q1 => ?_⟩
  · have hi : i = mny w := by omega
    rcases t6 with ⟨u1, u2, u3⟩ | ⟨u1, pr, v, q0, u2, u3, u4⟩
    · omega
    · rw [show mny w - (i.toNat - 1) = 0 + 1 by omega] at u4
      refine r_takes hR (by omega) t2 ⟨by omega, by omega⟩ (fun hc N' f' a' => ⟨⟨by omega, by omega⟩, k1 pre (q + 1) N' ?_ (fun a a1 a2 => by rw [f'.1 a a1, f1 a a1 a2]) (fun b hb => by rw [f'.2 b hb, f2 b hb]) a' (by omega) (fun j hj => by rw [f'.1 615 (by omega)]; exact t5 j hj)⟩) (fun hc => ⟨⟨by omega, by omega⟩, k0 q M12 ?_ f1 f2 t2⟩)
      · rw [u4, itsP_step u3 (by rw [if_pos rfl]; exact hc), u2]; unfold itsP addL; simp
      · rw [u4, itsP_bad u3 (by rw [if_pos rfl]; exact hc)]; rfl
  · -- the place of the item, past the sign
    refine ⟨fun M26 => (∀ a, a ≠ 608 → a ≠ 615 → M26 a = N a) ∧ (∀ b, b ≠ 9 → M26 608 b = N 608 b) ∧ ∃ q' : Int, M26 608 9 = q' ∧ 0 ≤ q' ∧ q' ≤ N 608 8 ∧ (∀ j : Nat, j < pre.length → M26 615 j = vx w j (pre.getD j 0)) ∧ itsP c w (mny w) 0 p = addL pre (itsP c w (mny w - i.toNat) i q'), fun M26 ⟨v1, v2, q', v3, v4, v5, v6, v7⟩ => ?_, fun q2 => ?_, fun q2 => ?_⟩
    · have hR26 : RdR c M26 := by unfold RdR; rw [v2 8 (by omega), v1 613 (by omega) (by omega)]; exact h
      obtain ⟨m, hm⟩ : ∃ m, mny w - i.toNat = m + 1 := ⟨mny w - i.toNat - 1, by omega⟩
      rw [hm] at v7
      have hii : (i.toNat : Int) = i := by omega
      have hpo := itP_pos (c := c) (L := N 608 8) (w := w) (i := i) (p := q') h.1 v5
      have fin : ∀ (b : Int) (M85 : jT), IO M26 M85 i (itP c w i q') (vx w i) b → (rg b ∧ ((b ≠ 0 → (∀ x89 : Int, x89 = i + 1 → ∃ n90, n90 < n ∧ (0 ≤ x89 ∧ x89 ≤ mny w ∧ (mny w - x89).toNat ≤ n90 ∧ (∀ a, a ≠ 608 → a ≠ 615 → M85 a = N a) ∧ (∀ b, b ≠ 9 → M85 608 b = N 608 b) ∧ ∃ (pre : List Int) (q : Int), (pre.length : Int) = x89 ∧ M85 608 9 = q ∧ 0 ≤ q ∧ q ≤ N 608 8 ∧ (∀ j : Nat, j < pre.length → M85 615 j = vx w j (pre.getD j 0)) ∧ ((x89 = 0 ∧ q = p ∧ pre = []) ∨ (0 < x89 ∧ ∃ (pr : List Int) (v q0 : Int), pre = pr ++ [v] ∧ itP c w (x89 - 1) q0 = (some v, q) ∧ itsP c w (mny w) 0 p = addL pr (itsP c w (mny w - (x89.toNat - 1)) (x89 - 1) q0)))))) ∧ (b = 0 → Q 0 M85))) := by
        rintro b M85 ⟨w1, w2, w3⟩
        have F1 : ∀ a, a ≠ 608 → a ≠ 615 → M85 a = N a := fun a a1 a2 => (w1.1 a a1 a2).trans (v1 a a1 a2)
        have F2 : ∀ b, b ≠ 9 → M85 608 b = N 608 b := fun b hb => (w1.2.1 b hb).trans (v2 b hb)
        rcases w3 with ⟨v, y1, y2, y3⟩ | ⟨y1, y2⟩
        · subst y2
          have hit : itP c w i q' = (some v, (itP c w i q').2) := by rw [← y1]
          have hq := hpo.2.2 (by rw [y1]; simp)
          refine ⟨⟨by omega, by omega⟩, fun _ x89 e89 => ⟨(mny w - x89).toNat, by omega, by omega, by omega, by omega, F1, F2, pre ++ [v], (itP c w i q').2, by simp; omega, w2, by omega, hpo.2.1, fun j hj => ?_, Or.inr ⟨by omega, pre, v, q', rfl, by rw [show x89 - 1 = i by omega]; exact hit, by rw [show x89.toNat - 1 = i.toNat by omega, show x89 - 1 = i by omega, hm]; exact v7⟩⟩, fun z => by omega⟩
          simp only [List.length_append, List.length_cons, List.length_nil] at hj
          by_cases c1 : j < pre.length
          · rw [show (pre ++ [v]).getD j 0 = pre.getD j 0 by rw [List.getD_eq_getElem?_getD, List.getElem?_append_left c1, ← List.getD_eq_getElem?_getD], w1.2.2 _ (by omega)]
            exact v6 j c1
          · have ej : j = pre.length := by omega
            subst ej
            rw [show (pre ++ [v]).getD pre.length 0 = v by simp, t1]; exact y3
        · subst y2
          refine ⟨⟨by omega, by omega⟩, fun z => absurd rfl z, fun _ => k0 (itP c w i q').2 M85 ?_ F1 F2 w2⟩
          have := bad i.toNat m pre q' (itP c w i q').2 (by rw [hii]; exact v7) (by rw [hii]; exact itsP_none (by rw [← y1]))
          exact this
      have pl : ∀ mm : Int, (mm = 0 ∨ mm = 1) → (mm = 1 ↔ (w = 0 ∨ (w = 1 ∧ i = 2))) → ¬ (w = 2 ∧ i = 4) → ¬ (w = 2 ∧ i = 6) → ∀ b M85, IO M26 M85 i (if mm = 1 then baseP c q' else numP c 5 q') (fun v => v) b → IO M26 M85 i (itP c w i q') (vx w i) b := by
        intro mm hmm hiff n4 n6 b M85 hio
        have e1 : itP c w i q' = if mm = 1 then baseP c q' else numP c 5 q' := by
          unfold itP; rw [if_neg n4, if_neg n6]
          by_cases q3 : mm = 1
          · rw [if_pos q3, if_pos (hiff.mp q3)]
          · rw [if_neg q3, if_neg (fun z => q3 (hiff.mpr z))]
        have e2 : vx w i = fun v => v := by funext v; unfold vx; rw [if_neg n4]
        rw [e1, e2]; exact hio
      refine ⟨fun b M85 => IO M26 M85 i (itP c w i q') (vx w i) b, fun b M85 z => fin b M85 z, ¬ (w = 2 ∧ i = 4), fun n4 => ?_, ⟨by omega, by omega⟩, fun z => by omega, fun z => ⟨fun z2 => by omega, fun z2 => ?_⟩⟩
      · refine ⟨¬ (w = 2 ∧ i = 6), fun n6 => ?_, ⟨by omega, by omega⟩, fun z => by omega, fun z => ⟨fun z2 => by omega, fun z2 => ?_⟩⟩
        · refine ⟨fun mm => (mm = 0 ∨ mm = 1) ∧ (mm = 1 ↔ (w = 0 ∨ (w = 1 ∧ i = 2))), fun mm ⟨z1, z2⟩ => r_plain hR26 (p := q') (by omega) v3 (by omega) z1 fun b N' hio => pl mm z1 z2 n4 n6 b N' hio, w = 0 ∨ (w = 1 ∧ i = 2), fun z => ⟨Or.inr rfl, fun _ => z, fun _ => rfl⟩, ⟨by omega, by omega⟩, fun z => Or.inl z, fun z => ⟨¬ (w = 0 ∨ (w = 1 ∧ i = 2)), fun z3 => ⟨Or.inl rfl, fun z4 => by omega, fun z4 => absurd z4 z3⟩, fun z3 => by omega, fun z3 => ⟨fun z4 => by omega, fun z4 => Or.inr ⟨z3, z4⟩⟩⟩⟩
        · refine r_clock hR26 (p := q') (by omega) v3 (by omega) fun b N' hio => ?_
          have e1 : itP c w i q' = clockP c q' := by unfold itP; rw [if_neg n4, if_pos ⟨z, z2⟩]
          have e2 : vx w i = fun v => v := by funext v; unfold vx; rw [if_neg n4]
          show IO M26 N' i (itP c w i q') (vx w i) b
          rw [e1, e2]; exact hio
      · refine r_date hR26 (p := q') (by omega) v3 (by omega) fun b N' hio => ?_
        have e1 : itP c w i q' = dateP c q' := by unfold itP; rw [if_pos ⟨z, z2⟩]
        have e2 : vx w i = fixD := by funext v; unfold vx; rw [if_pos ⟨z, z2⟩]
        show IO M26 N' i (itP c w i q') (vx w i) b
        rw [e1, e2]; exact hio
    · have hi : i = 0 := by omega
      rcases t6 with ⟨u1, u2, u3⟩ | ⟨u1, _⟩
      · refine ⟨f1, f2, q, t2, t3, t4, t5, ?_⟩
        rw [u3, u2, u1]; unfold addL; simp
      · omega
    · rcases t6 with ⟨u1, _, _⟩ | ⟨u1, pr, v, q0, u2, u3, u4⟩
      · omega
      · rw [show mny w - (i.toNat - 1) = (mny w - i.toNat) + 1 by omega] at u4
        refine r_takes hR (by omega) t2 ⟨by omega, by omega⟩ (fun hc N' f' a' => ⟨⟨by omega, by omega⟩, fun _ => ⟨fun a a1 a2 => by rw [f'.1 a a1, f1 a a1 a2], fun b hb => by rw [f'.2 b hb, f2 b hb], q + 1, a', by omega, ?_, fun j hj => by rw [f'.1 615 (by omega)]; exact t5 j hj, ?_⟩, fun z => by omega⟩) (fun hc => ⟨⟨by omega, by omega⟩, fun z => absurd rfl z, fun _ => k0 q M12 ?_ f1 f2 t2⟩)
        · have := h.1.nz (i := q) (by omega); omega
        · rw [u4, itsP_step u3 (by rw [if_neg (by omega)]; exact hc), u2, show i - 1 + 1 = i by omega]
        · rw [u4, itsP_bad u3 (by rw [if_neg (by omega)]; exact hc)]; rfl
