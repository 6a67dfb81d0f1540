/-! run -/
theorem okAll_at : ∀ {A : Int → Int} (t1 : List TCm) {p w : Int} {l : List Int} {t2 : List TCm}, okAll A (t1 ++ (p, w, l) :: t2) → okC (endA A t1) w l
  | _, [], _, _, _, _, h => h.1
  | _, (_, w', l') :: t1, _, _, _, _, h => okAll_at (A := nwC _ w' l') t1 h.2
theorem ok_fail {A : Int → Int} {t : List TCm} {p : Int} (h : okAll A t) (f : FailAt A t p) : False := by
  obtain ⟨t1, t2, w, l, h1, h2, h3⟩ := f
  rw [h1] at h
  exact h3 (okAll_at t1 h)
theorem fail_uniq : ∀ {A : Int → Int} (t1 t1' : List TCm) {p w p' w' : Int} {l l' : List Int} {t2 t2' : List TCm}, t1 ++ (p, w, l) :: t2 = t1' ++ (p', w', l') :: t2' → okAll A t1 → ¬ okC (endA A t1) w l → okAll A t1' → ¬ okC (endA A t1') w' l' → p = p'
  | _, [], [], _, _, _, _, _, _, _, _, h, _, _, _, _ => by
    simp at h; exact h.1.1
  | _, [], x :: t1', _, _, _, _, _, _, _, _, h, _, n, k, _ => by
    simp at h
    obtain ⟨h1, _⟩ := h
    subst h1
    exact absurd k.1 n
  | _, x :: t1, [], _, _, _, _, _, _, _, _, h, k, _, _, n => by
    simp at h
    obtain ⟨h1, _⟩ := h
    subst h1
    exact absurd k.1 n
  | _, (a, b, d) :: t1, x :: t1', _, _, _, _, _, _, _, _, h, k, n, k', n' => by
    simp at h
    obtain ⟨h1, h2⟩ := h
    subst h1
    exact fail_uniq (A := nwC _ b d) t1 t1' h2 k.2 n k'.2 n'
theorem sp_rb {N : jT} {z : Int} {Q : Int → jT → Prop} (hz : rg z ∧ z < 0) (kk : ∀ N', (∀ a, a ≠ 608 → a ≠ 609 → N' a = N a) → (∀ b, b ≠ 0 → N' 608 b = N 608 b) → N' 608 0 = -z → eqA (N' 609) (N 612) → Q 0 N') : wp_X11_ends N 608 z Q := by
  unfold wp_X11_ends
  simp only [Int.reduceAdd]
  refine ⟨hz.1, fun c => by omega, fun _ => ⟨fun n i M6 => 0 ≤ i ∧ i ≤ 1294 ∧ (1294 - i).toNat ≤ n ∧ (∀ a, a ≠ 609 → M6 a = N a) ∧ ∀ j, 0 ≤ j → j < i → M6 609 j = N 612 j, ⟨1294, by omega, by omega, by omega, fun _ _ => rfl, fun j a b => by omega⟩, ?_⟩⟩
  rintro n i M6 ⟨i0, i1, i2, f, g⟩
  refine ⟨⟨by omega, by omega⟩, fun q => ?_, fun q => ⟨⟨by omega, by omega⟩, up_in fun M14 k14 x15 e15 => ⟨(1294 - x15).toNat, by omega, by omega, by omega, by omega, fun a ha => ?_, fun j j0 j1 => ?_⟩⟩⟩
  · unfold wp_X11_raises
    refine up_in fun M1 k1 => kk M1 (fun a a1 a2 => ?_) (fun b hb => ?_) (by rw [k1, if_pos ⟨rfl, rfl⟩]) (fun j j0 j1 => ?_)
    · rw [← f a a2]; funext b; rw [k1, if_neg (by omega)]
    · rw [k1, if_neg (by omega), f 608 (by omega)]
    · rw [k1, if_neg (by omega)]; exact g j j0 (by omega)
  · rw [← f a ha]; funext b; rw [k14, if_neg (by omega)]
  · by_cases q2 : j = i
    · rw [k14, if_pos ⟨rfl, q2⟩, f 612 (by omega), q2]
    · rw [k14, if_neg (by omega)]; exact g j j0 (by omega)
theorem push_hx {M M27 : jT} {u : Int} {K : Int → Int → Int} {A : Int → Int} (hA : AOk A) (hc : HXc M u K) (s0 : M27 48 0 = min (u + 1) 8) (s3 : M27 48 3 = (M 48 3 + 1) % 9) (hn : BEq M27 (97 + 47 * M 48 3) A) (F : ∀ a, 97 ≤ a → a ≤ 519 → ¬ (97 + 47 * M 48 3 ≤ a ∧ a ≤ 97 + 47 * M 48 3 + 46) → M27 a = M a) : HXc M27 (min (u + 1) 8) (pu u K A) := by
  obtain ⟨⟨c1, c2, c3, c4, c5⟩, c6⟩ := hc
  refine ⟨⟨s0, by omega, by omega, by omega, by omega⟩, fun i i0 i1 => ?_⟩
  rw [s3]
  have new : AOk A ∧ BEq M27 (97 + 47 * M 48 3) A := ⟨hA, hn⟩
  have old : ∀ j, 0 ≤ j → j < u → (M 48 3 - u + j) % 9 ≠ M 48 3 → AOk (K j) ∧ BEq M27 (97 + 47 * ((M 48 3 - u + j) % 9)) (K j) := fun j j0 j1 jn => by
    obtain ⟨k1, k2⟩ := c6 j j0 j1
    exact ⟨k1, k2.mv k1 (fun a b1 b2 => F a (by omega) (by omega) (by omega))⟩
  by_cases q : u = 8
  · unfold pu; rw [if_pos q]
    by_cases q2 : i = 7
    · rw [if_pos q2, show ((M 48 3 + 1) % 9 - min (u + 1) 8 + i) % 9 = M 48 3 by omega]; exact new
    · rw [if_neg q2, show ((M 48 3 + 1) % 9 - min (u + 1) 8 + i) % 9 = (M 48 3 - u + (i + 1)) % 9 by omega]
      exact old (i + 1) (by omega) (by omega) (by omega)
  · unfold pu; rw [if_neg q]
    by_cases q2 : i = u
    · rw [if_pos q2, show ((M 48 3 + 1) % 9 - min (u + 1) 8 + i) % 9 = M 48 3 by omega]; exact new
    · rw [if_neg q2, show ((M 48 3 + 1) % 9 - min (u + 1) 8 + i) % 9 = (M 48 3 - u + i) % 9 by omega]
      exact old i i0 (by omega) (by omega)
theorem keep_hx {M M5 : jT} {u : Int} {K : Int → Int → Int} (hc : HXc M u K) (e48 : M5 48 0 = M 48 0 ∧ M5 48 3 = M 48 3) (F : ∀ a, 97 ≤ a → a ≤ 519 → ¬ (97 + 47 * M 48 3 ≤ a ∧ a ≤ 97 + 47 * M 48 3 + 46) → M5 a = M a) : HXc M5 u K := by
  obtain ⟨⟨c1, c2, c3, c4, c5⟩, c6⟩ := hc
  refine ⟨⟨by rw [e48.1]; exact c1, c2, c3, by rw [e48.2]; exact c4, by rw [e48.2]; exact c5⟩, fun i i0 i1 => ?_⟩
  obtain ⟨k1, k2⟩ := c6 i i0 i1
  rw [e48.2]
  exact ⟨k1, k2.mv k1 (fun a b1 b2 => F a (by omega) (by omega) (by omega))⟩
theorem TX.fin {M N : jT} (h : TX M) (e0 : N 601 0 = 0) (e8 : N 608 8 = 0) (e2 : N 601 2 = N 608 10 ∧ rg (N 601 2)) (f4 : N 604 = M 604) (f5 : N 605 = M 605) (f14 : N 614 = M 614) (c12 : N 608 12 = M 608 12) : TX N := by
  obtain ⟨h1, h2, h3, h4, h5⟩ := h
  unfold TX
  rw [e0, e8, f4, f5, f14, c12]
  exact ⟨⟨rfl, by omega, by omega⟩, fun i a b => by omega, e2, h4, h5⟩
noncomputable def cT (M : jT) : Int → Int := fun i => if 0 ≤ i ∧ i < M 601 0 then M 602 i else 0
theorem cT_L {M : jT} (h : TX M) : RdL (cT M) M := by
  obtain ⟨⟨h1, h2, h3⟩, h4, _⟩ := h
  refine ⟨⟨⟨h2, h3⟩, fun i i0 i1 => ?_, fun i i0 => ?_⟩, fun i i0 i1 => ?_⟩
  · unfold cT; rw [if_pos ⟨i0, i1⟩]; exact (h4 i i0 i1).2
  · unfold cT; rw [if_neg (by omega)]
  · unfold cT; rw [if_pos ⟨i0, i1⟩]
theorem cT_R {M N : jT} (h : TX M) (e8 : N 608 8 = M 608 8) (e13 : N 613 = M 613) : RdR (cT M) N := by
  have hL := cT_L h
  obtain ⟨⟨h1, h2, h3⟩, h4, _⟩ := h
  unfold RdR
  rw [e8, e13, ← h1]
  refine ⟨hL.1, fun i i0 i1 => ?_⟩
  unfold cT; rw [if_pos ⟨i0, i1⟩, (h4 i i0 i1).1]
/-- the reference's end, where the class has gone back, or on -/
theorem run_bad {M M5 N N' : jT} (h : Inv M) {k e : Int} (hC : CA M5 (M 609)) (hX : HXc M5 (M 48 0) (ksl (M 610))) (G : ∀ a, (a = 48 → M5 48 1 = M 48 1) ∧ (49 ≤ a → a ≤ 96 → M5 a = M a) ∧ (604 ≤ a → a ≠ 606 → a ≠ 607 → M5 a = M a)) (e0 : M5 601 0 = 0) (e2 : M5 601 2 = e ∧ rg e) (hN : RNn M5 N) (e10 : N 608 10 = e) (f1 : ∀ a, a ≠ 608 → a ≠ 609 → N' a = N a) (f2 : ∀ b, b ≠ 0 → N' 608 b = N 608 b) (f3 : N' 608 0 = k) (f4 : eqA (N' 609) (N 612)) : N' 608 0 = k ∧ Inv N' := by
  obtain ⟨⟨g1, g2⟩, g3, g4, g5, g6⟩ := hN
  obtain ⟨x1, x2, x3⟩ := h.2.2.2.1.un
  have L : ∀ a, a < 608 → N' a = M5 a := fun a ha => (f1 a (by omega) (by omega)).trans (g1 a (by omega) (by omega) (by omega) (by omega) (by omega))
  have B : ∀ b, b = 3 ∨ b = 5 ∨ b = 12 → N' 608 b = M 608 b := fun b hb => by rw [f2 b (by omega), g2 b (by omega) (by omega) (by omega) (by omega) (by omega) (by omega), (G 608).2.2 (by omega) (by omega) (by omega)]
  have H : ∀ a, a = 610 ∨ a = 611 ∨ a = 614 → N' a = M a := fun a ha => by rw [f1 a (by omega) (by omega), g1 a (by omega) (by omega) (by omega) (by omega) (by omega), (G a).2.2 (by omega) (by omega) (by omega)]
  have e9 : M5 609 = M 609 := (G 609).2.2 (by omega) (by omega) (by omega)
  have hT : TX N' := h.2.2.2.2.fin (by rw [L 601 (by omega)]; exact e0) (by rw [f2 8 (by omega)]; exact g5) ⟨by rw [L 601 (by omega), e2.1, f2 10 (by omega), e10], by rw [L 601 (by omega), e2.1]; exact e2.2⟩ (by rw [L 604 (by omega), (G 604).2.2 (by omega) (by omega) (by omega)]) (by rw [L 605 (by omega), (G 605).2.2 (by omega) (by omega) (by omega)]) (H _ (by omega)) (B _ (by omega))
  refine ⟨f3, mk_inv (M := N') (M3 := N') (A' := M 609) (u := M 48 0) (K := ksl (M 610)) hT (fun _ _ _ _ => rfl) (hC.mv (fun a _ _ => L a (by omega)) (fun a _ _ => L a (by omega))) (hX.mv (fun a ha => L a (by omega))) RM.rfl (by rw [f2 14 (by omega)]; exact g6) ?_ (x2.mv (B _ (by omega)) (H _ (by omega))) (x3.mv (by rw [L 48 (by omega)]; exact (G 48).1 rfl) (fun a a1 a2 => by rw [L a (by omega)]; exact (G a).2.1 a1 a2) (B _ (by omega)) (H _ (by omega)))⟩
  intro i i0 i1
  rw [f4 i i0 i1, g4 i i0 i1, e9]
theorem sim_run {M : jT} (h : Inv M) : wp_X10_run M 0 (fun v M1 => OKq (wp_X11_run M1 608) v) (fun e M1 => EXq (wp_X11_run M1 608) [2, 3] e) := by
  have hT := h.2.2.2.2
  have hL0 := hT.1
  obtain ⟨x1, x2, x3⟩ := h.2.2.2.1.un
  obtain ⟨⟨y1, y2, y3, y4, y5⟩, y6⟩ := x1
  have x1 : HXc M (M 48 0) (ksl (M 610)) := ⟨⟨y1, y2, y3, y4, y5⟩, y6⟩
  have hA := h.1.1
  have hCA := CA.inv h
  -- the reference, over a memory that the class has changed
  have hrun : ∀ (M5 : jT) (Q : Int → jT → Prop), (∀ a, 604 ≤ a → a ≠ 606 → a ≠ 607 → M5 a = M a) → (∀ q N', txP (cT M) (M 601 0) 9 0 = (none, q) → 0 ≤ q ∧ q ≤ 60 → RNn M5 N' → N' 608 10 = q → wp_X11_ends N' 608 (-1) Q) → (∀ t q e N', txP (cT M) (M 601 0) 9 0 = (some t, q) → FailAt (M 609) t e → 0 ≤ e ∧ e ≤ 60 → RNn M5 N' → N' 608 10 = e → wp_X11_ends N' 608 (-2) Q) → (∀ t q N', txP (cT M) (M 601 0) 9 0 = (some t, q) → t.length ≤ 9 → okAll (M 609) t → RNn M5 N' → N' 609 = endA (M 609) t → N' 608 10 = -1 → wp_X11_ends N' 608 (t.length : Int) Q) → wp_X11_run M5 608 Q := by
    intro M5 Q F kn kf ko
    have e8 : M5 608 8 = M 601 0 := by rw [F 608 (by omega) (by omega) (by omega)]; exact hL0.1.symm
    have e9 : M5 609 = M 609 := F 609 (by omega) (by omega) (by omega)
    refine r_run (c := cT M) (cT_R hT (by rw [e8]; exact hL0.1) (F 613 (by omega) (by omega) (by omega))) (by rw [e9]; exact hA) (h.2.2.1.mv e9 (fun b hb => by rw [F 608 (by omega) (by omega) (by omega)]) (fun a a1 a2 => F a (by omega) (by omega) (by omega))) ?_ ?_ ?_
    · rw [e8]; exact kn
    · rw [e8, e9]; exact kf
    · rw [e8, e9]; exact ko
  unfold wp_X10_run
  simp only [Int.zero_add]
  refine c_text (c := cT M) (cT_L hT) (fun t q M2 htx f2 n2 ht g2 rows => up_in fun M3 k3 => Or.inl ?_) (fun q M2 htx f2 g2 rq => up_in fun M3 k3 => Or.inr ?_)
  · have F3 : ∀ a, a ≠ 601 → a ≠ 603 → M3 a = M a := fun a a1 a2 => by rw [← f2.1 a a1 a2]; funext b; rw [k3, if_neg (by omega)]
    have e30 : M3 601 0 = 0 := by rw [k3, if_pos ⟨rfl, rfl⟩]
    have e31 : M3 601 1 = t.length := by rw [k3, if_neg (by omega)]; exact n2
    have e32 : M3 601 2 = -1 := by rw [k3, if_neg (by omega)]; exact g2
    have e3r : M3 603 = M2 603 := funext fun b => by rw [k3, if_neg (by omega)]
    have e348 : M3 48 = M 48 := F3 48 (by omega) (by omega)
    unfold wo_X10_needArgument
    refine ⟨⟨by omega, by omega⟩, fun _ => ?_, fun z => absurd z (by omega)⟩
    unfold wp_X3_keep
    rw [e348]
    refine ⟨⟨y4, y5⟩, ?_⟩
    rw [show 48 + 47 * M 48 3 + 49 = 97 + 47 * M 48 3 by omega]
    refine sp_copyBook hA (hCA.2.1.mv hA (fun a _ _ => F3 a (by omega) (by omega))) (by omega) fun M7 F7 hB7 => ?_
    have hC7 : CA M7 (M 609) := hCA.mv (fun a _ _ => by rw [F7 a (by omega), F3 a (by omega) (by omega)]) (fun a _ _ => by rw [F7 a (by omega), F3 a (by omega) (by omega)])
    have e761 : M7 601 = M3 601 := F7 601 (by omega)
    have e763 : M7 603 = M2 603 := by rw [F7 603 (by omega), e3r]
    refine ⟨fun n x8 M9 => ∃ t1 t2 : List TCm, t = t1 ++ t2 ∧ (t1.length : Int) = x8 ∧ t2.length ≤ n ∧ okAll (M 609) t1 ∧ EF M7 M9 ∧ CA M9 (endA (M 609) t1), ⟨t.length, [], t, rfl, rfl, Nat.le_refl _, trivial, EF.rfl, hC7⟩, ?_⟩
    rintro n x8 M9 ⟨t1, t2, s1, s2, s3, s4, s5, s6⟩
    have hlen : (t.length : Int) = t1.length + t2.length := by rw [s1]; simp
    have e91 : M9 601 1 = t.length := by rw [s5 601 (by omega) (by omega) (by omega), e761]; exact e31
    refine ⟨fun M21 => EF M7 M21 ∧ CA M21 (endA (M 609) t1) ∧ ((t2 = [] ∧ x8 = t.length) ∨ ∃ (p w : Int) (l : List Int) (t3 : List TCm), t2 = (p, w, l) :: t3 ∧ ¬ okC (endA (M 609) t1) w l), fun M21 ⟨z1, z2, z3⟩ => ?_, ⟨by omega, by omega⟩, by rw [e91]; exact ⟨by omega, by omega⟩, fun q1 => ?_, fun q1 => ?_⟩
    · have G21 : ∀ a, 601 ≤ a → a ≠ 606 → M21 a = M7 a := fun a a1 a2 => z1 a (by omega) (by omega) a2
      have e211 : M21 601 1 = t.length := by rw [G21 601 (by omega) (by omega), e761]; exact e31
      have H21 : ∀ a, (a = 48 ∨ (49 ≤ a ∧ a ≤ 519)) → M21 a = M7 a := fun a ha => z1 a (by omega) (by omega) (by omega)
      have e2148 : M21 48 = M 48 := by rw [H21 48 (by omega), F7 48 (by omega), e348]
      have out21 : ∀ a, 604 ≤ a → a ≠ 606 → a ≠ 607 → M21 a = M a := fun a a1 a2 a3 => by rw [G21 a (by omega) a2, F7 a (by omega), F3 a (by omega) (by omega)]
      rw [e211]
      refine ⟨⟨by omega, by omega⟩, ⟨by omega, by omega⟩, fun q1 => ?_, fun q1 => ?_⟩
      · -- all are carried out
        rcases z3 with ⟨c1, c2⟩ | ⟨p, w, l, t3, c1, c2⟩
        · rw [c1, List.append_nil] at s1
          subst s1
          unfold wp_X3_push
          rw [e2148]
          refine ⟨by omega, up_in fun M22 k22 => ?_⟩
          rw [show M22 48 0 = M 48 0 by rw [k22, if_neg (by omega), e2148]]
          refine ⟨⟨by omega, by omega⟩, up_in fun M27 k27 => ?_⟩
          have F27 : ∀ a, a ≠ 48 → M27 a = M21 a := (fun a ha => funext fun b => by rw [k27 a b, if_neg (by omega), k22 a b, if_neg (by omega)])
          have s0' : M27 48 0 = min (M 48 0 + 1) 8 := by rw [k27, if_pos ⟨rfl, rfl⟩]
          have s3' : M27 48 3 = (M 48 3 + 1) % 9 := by rw [k27, if_neg (by omega), k22, if_pos ⟨rfl, rfl⟩]
          have s1' : M27 48 1 = M 48 1 := by rw [k27, if_neg (by omega), k22, if_neg (by omega), e2148]
          have hX27 := push_hx (M27 := M27) hA x1 s0' s3' (hB7.mv hA (fun a _ _ => by rw [F27 a (by omega), H21 a (by omega)])) (fun a a1 a2 a3 => by rw [F27 a (by omega), H21 a (by omega), F7 a (by omega), F3 a (by omega) (by omega)])
          have hC27 : CA M27 (endA (M 609) t) := z2.mv (fun a _ _ => F27 a (by omega)) (fun a _ _ => F27 a (by omega))
          have out27 : ∀ a, 604 ≤ a → a ≠ 606 → a ≠ 607 → M27 a = M a := fun a a1 a2 a3 => by rw [F27 a (by omega)]; exact out21 a a1 a2 a3
          unfold OKq
          refine hrun M27 _ out27 (fun q' N' hx => by rw [htx] at hx; cases hx) (fun t' q' e N' hx hf => by rw [htx] at hx; cases hx; exact (ok_fail s4 hf).elim) (fun t' q' N' hx hlen' hok hN e609 e10 => ?_)
          rw [htx] at hx
          cases hx
          obtain ⟨⟨g1, g2'⟩, g3, g4, g5, g6⟩ := hN
          have hr' : HXr N' (M 48 0) (ksl (M 610)) := x2.mv (by rw [g2' 3 (by omega) (by omega) (by omega) (by omega) (by omega) (by omega), out27 608 (by omega) (by omega) (by omega)]) (by rw [g1 610 (by omega) (by omega) (by omega) (by omega) (by omega), out27 610 (by omega) (by omega) (by omega)])
          unfold wp_X11_ends
          refine ⟨⟨by omega, by omega⟩, fun _ => ?_, fun z => by omega⟩
          refine sp_keeps hr' ⟨y2, y3⟩ (A := M 609) (fun i i0 i1 => by rw [g4 i i0 i1, out27 609 (by omega) (by omega) (by omega)]) fun N2 w1 w2 w3 w4 => ⟨by rw [w2 0 (by omega) (by omega)]; exact g3, c2.symm, ?_⟩
          have L : ∀ a, a < 608 → N2 a = M27 a := fun a ha => (w1 a (by omega) (by omega)).trans (g1 a (by omega) (by omega) (by omega) (by omega) (by omega))
          have L61 : N2 601 = M3 601 := by rw [L 601 (by omega), F27 601 (by omega), G21 601 (by omega) (by omega), e761]
          have B : ∀ b, b = 5 ∨ b = 12 → N2 608 b = M 608 b := fun b hb => by rw [w2 b (by omega) (by omega), g2' b (by omega) (by omega) (by omega) (by omega) (by omega) (by omega), out27 608 (by omega) (by omega) (by omega)]
          have H : ∀ a, a = 611 ∨ a = 614 → N2 a = M a := fun a ha => by rw [w1 a (by omega) (by omega), g1 a (by omega) (by omega) (by omega) (by omega) (by omega), out27 a (by omega) (by omega) (by omega)]
          have e10' : N2 608 10 = -1 := by rw [w2 10 (by omega) (by omega)]; exact e10
          have hT2 : TX N2 := hT.fin (by rw [L61]; exact e30) (by rw [w2 8 (by omega) (by omega)]; exact g5) ⟨by rw [L61, e32, e10'], by rw [L61, e32]; exact ⟨by omega, by omega⟩⟩ (by rw [L 604 (by omega), out27 604 (by omega) (by omega) (by omega)]) (by rw [L 605 (by omega), out27 605 (by omega) (by omega) (by omega)]) (H _ (by omega)) (B _ (by omega))
          refine mk_inv (M := N2) (M3 := N2) hT2 (fun _ _ _ _ => rfl) (hC27.mv (fun a _ _ => L a (by omega)) (fun a _ _ => L a (by omega))) (hX27.mv (fun a ha => L a (by omega))) RM.rfl w3 (fun i _ _ => by rw [w1 609 (by omega) (by omega), e609]) w4 (x3.mv (by rw [L 48 (by omega)]; exact s1') (fun a a1 a2 => by rw [L a (by omega), F27 a (by omega), H21 a (by omega), F7 a (by omega), F3 a (by omega) (by omega)]) (B _ (by omega)) (H _ (by omega)))
        · have : 1 ≤ t2.length := by rw [c1]; simp
          omega
      · -- one is not
        rcases z3 with ⟨c1, c2⟩ | ⟨p, w, l, t3, c1, c2⟩
        · omega
        have hrow : Row M21 (10 * (t1.length : Int)) p w l := by
          have hk : t[t1.length]? = some (p, w, l) := by rw [s1, c1, List.getElem?_append_right (Nat.le_refl _)]; simp
          exact (rows t1.length p w l hk).mv (fun b _ _ => by rw [G21 603 (by omega) (by omega), e763])
        have ep : M21 603 (x8 * 10 + 1) = p := by rw [← s2, show (t1.length : Int) * 10 + 1 = 10 * (t1.length : Int) + 1 by omega]; exact hrow.2.1
        unfold pf_X6_startOf pg_X6_startOf
        simp only [Int.reduceAdd]
        rw [ep]
        refine ⟨⟨⟨by omega, by omega⟩, trivial⟩, up_in fun M31 k31 => ?_⟩
        have F31 : ∀ a, a ≠ 601 → M31 a = M21 a := (fun a ha => funext fun b => by rw [k31 a b, if_neg (by omega)])
        unfold wp_X3_giveUp
        rw [F31 48 (by omega), e2148, show 48 + 47 * M 48 3 + 49 = 97 + 47 * M 48 3 by omega]
        refine ⟨⟨y4, y5⟩, ?_⟩
        refine sp_copyBook hA (hB7.mv hA (fun a _ _ => by rw [F31 a (by omega), H21 a (by omega)])) (by omega) fun M33 F33 hB33 => ?_
        have hcc := z2.2.2
        refine sp_spoilAll (A' := M 609) hA ⟨fun z z0 z1 => by rw [F33 _ (by omega), F31 _ (by omega)]; exact hcc.1 z z0 z1, fun m m0 m1 => by rw [F33 _ (by omega), F31 _ (by omega)]; exact hcc.2.2.1 m m0 m1⟩ fun M35 F35 hC35 => ?_
        have G35 : ∀ a, (a < 1 ∨ 47 < a) → (a < 521 ∨ 599 < a) → a ≠ 601 → M35 a = M21 a := fun a a1 a2 a3 => by rw [F35 a a2, F33 a (by omega), F31 a a3]
        have out35 : ∀ a, 604 ≤ a → a ≠ 606 → a ≠ 607 → M35 a = M a := fun a a1 a2 a3 => by rw [G35 a (by omega) (by omega) (by omega)]; exact out21 a a1 a2 a3
        have e35 : M35 601 = M31 601 := by rw [F35 601 (by omega), F33 601 (by omega)]
        have e352 : M35 601 2 = p := by rw [e35, k31, if_pos ⟨rfl, rfl⟩]
        have e350 : M35 601 0 = 0 := by rw [e35, k31, if_neg (by omega), G21 601 (by omega) (by omega), e761]; exact e30
        have hCA35 : CA M35 (M 609) := ⟨hA, hB33.mv hA (fun a _ _ => F35 a (by omega)), hC35⟩
        have hX35 : HXc M35 (M 48 0) (ksl (M 610)) := keep_hx x1 (by rw [G35 48 (by omega) (by omega) (by omega), e2148]; exact ⟨rfl, rfl⟩) (fun a a1 a2 a3 => by rw [G35 a (by omega) (by omega) (by omega), H21 a (by omega), F7 a (by omega), F3 a (by omega) (by omega)])
        have myfail : FailAt (M 609) t p := ⟨t1, t3, w, l, by rw [s1, c1], s4, c2⟩
        refine ⟨by decide, hrun M35 _ out35 (fun q' N' hx => by rw [htx] at hx; cases hx) (fun t' q' e N' hx hf he hN e10 => ?_) (fun t' q' N' hx hlen' hok => by rw [htx] at hx; cases hx; exact (ok_fail hok myfail).elim)⟩
        rw [htx] at hx
        cases hx
        have ee : e = p := by
          obtain ⟨u1, u2, u3, u4, v1, v2, v3⟩ := hf
          exact fail_uniq u1 t1 (by rw [← v1, s1, c1]) v2 v3 s4 c2
        subst ee
        refine sp_rb ⟨⟨by omega, by omega⟩, by omega⟩ fun N2 w1 w2 w3 w4 => ?_
        refine run_bad h (k := kx [2, 3] 3) hCA35 hX35 (fun a => ⟨fun _ => by rw [G35 48 (by omega) (by omega) (by omega), e2148], fun a1 a2 => by rw [G35 a (by omega) (by omega) (by omega), H21 a (by omega), F7 a (by omega), F3 a (by omega) (by omega)], fun a1 a2 a3 => out35 a a1 a2 a3⟩) e350 ⟨e352, ⟨by omega, by omega⟩⟩ hN e10 w1 w2 (by rw [w3]; rfl) w4
    · rw [e91] at q1
      have : t2.length = 0 := by omega
      exact ⟨s5, s6, Or.inl ⟨List.eq_nil_of_length_eq_zero this, by omega⟩⟩
    · rw [e91] at q1
      cases t2 with
      | nil => simp at hlen; omega
      | cons x t3 =>
        obtain ⟨p, w, l⟩ := x
        have hrow : Row M9 (10 * x8) p w l := by
          have hk : t[t1.length]? = some (p, w, l) := by rw [s1, List.getElem?_append_right (Nat.le_refl _)]; simp
          rw [← s2]
          exact (rows t1.length p w l hk).mv (fun b _ _ => by rw [s5 603 (by omega) (by omega) (by omega), e763])
        refine c_does s6 hrow (by omega) (fun hk M40 f40 hC40 => ⟨⟨by omega, by omega⟩, fun z => by omega, fun _ x43 e43 => ?_⟩) (fun hk M40 f40 hC40 => ⟨⟨by omega, by omega⟩, fun _ => ⟨s5.trans f40, hC40, Or.inr ⟨p, w, l, t3, rfl, hk⟩⟩, fun z => absurd rfl z⟩)
        obtain ⟨u1, u2⟩ := okAll_app (p := p) s4 hk
        exact ⟨t3.length, by simp at s3; omega, t1 ++ [(p, w, l)], t3, by rw [s1]; simp, by simp; omega, Nat.le_refl _, u1, s5.trans f40, by rw [u2]; exact hC40⟩
  · have F3 : ∀ a, a ≠ 601 → a ≠ 603 → M3 a = M a := fun a a1 a2 => by rw [← f2.1 a a1 a2]; funext b; rw [k3, if_neg (by omega)]
    have e30 : M3 601 0 = 0 := by rw [k3, if_pos ⟨rfl, rfl⟩]
    have e32 : M3 601 2 = q := by rw [k3, if_neg (by omega)]; exact g2
    unfold wp_X10_needArgument
    refine ⟨⟨by omega, by omega⟩, fun z => absurd rfl z, fun _ => ?_⟩
    have out : ∀ a, 604 ≤ a → a ≠ 606 → a ≠ 607 → M3 a = M a := fun a a1 a2 a3 => F3 a (by omega) (by omega)
    refine ⟨by decide, hrun M3 _ out (fun q' N' hx hq hN e10 => ?_) (fun t' q' e N' hx => by rw [htx] at hx; cases hx) (fun t' q' N' hx => by rw [htx] at hx; cases hx)⟩
    rw [htx] at hx
    cases hx
    refine sp_rb ⟨⟨by omega, by omega⟩, by omega⟩ fun N2 w1 w2 w3 w4 => ?_
    exact run_bad h (k := kx [2, 3] 2) (hCA.mv (fun a _ _ => F3 a (by omega) (by omega)) (fun a _ _ => F3 a (by omega) (by omega))) (x1.mv (fun a ha => F3 a (by omega) (by omega))) (fun a => ⟨fun _ => by rw [F3 48 (by omega) (by omega)], fun a1 a2 => F3 a (by omega) (by omega), fun a1 a2 a3 => out a a1 a2 a3⟩) e30 ⟨e32, rq⟩ hN e10 w1 w2 (by rw [w3]; rfl) w4
