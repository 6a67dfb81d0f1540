/-! instantsAgain -/
theorem dcn_add {S S' : Int → Prop} {a w : Int} : ∀ n : Nat, a ≤ w → w < a + n → ¬ S w → (∀ v, S' v ↔ S v ∨ v = w) → dcn S' a n = dcn S a n + 1
  | 0, h0, h1, _, _ => by omega
  | n + 1, h0, h1, hw, h => by
    simp only [dcn]
    by_cases c : w = a + n
    · have e1 : dcn S' a n = dcn S a n := dcn_ext n (fun v v0 v1 => (h v).trans ⟨fun q => q.elim id (fun q => by omega), Or.inl⟩)
      rw [e1, b2i_t ((h (a + n)).mpr (Or.inr c.symm)), b2i_f (by rw [← c]; exact hw)]; omega
    · have e2 : b2i (S' (a + n)) = b2i (S (a + n)) := by rw [propext (show S' (a + n) ↔ S (a + n) from (h _).trans ⟨fun q => q.elim id (fun q => absurd q.symm c), Or.inl⟩)]
      rw [dcn_add n h0 (by omega) hw h, e2]; omega
def KS (r : Int → Int) (n : Int) (S : Int → Prop) : Prop := (∀ i, 0 ≤ i → i < n → S (r i)) ∧ ∀ v, S v → ∃ i, 0 ≤ i ∧ i < n ∧ r i = v
theorem sp_addKey {M : jT} {n w : Int} {S : Int → Prop} {Q : Int → jT → Prop} (hn : 0 ≤ n ∧ n < 400) (hK : KS (M 607) n S) (hr : ∀ v, S v → rl v) (hw : rl w)
    (k1 : S w → Q n M) (k2 : ¬ S w → ∀ M', (∀ a, a ≠ 607 → M' a = M a) → KS (M' 607) (n + 1) (fun v => S v ∨ v = w) → Q (n + 1) M') : wp_X10_addKey M 607 n w Q := by
  unfold wp_X10_addKey
  refine ⟨fun k i => 0 ≤ i ∧ i ≤ n ∧ (n - i).toNat ≤ k ∧ ∀ j, 0 ≤ j → j < i → M 607 j ≠ w, ⟨n.toNat, by omega, by omega, by omega, fun j _ _ => by omega⟩, ?_⟩
  rintro n3 x1 ⟨i0, i1, i2, i3⟩
  refine ⟨⟨by omega, by omega⟩, ⟨by omega, by omega⟩, fun c => ⟨fun _ => ⟨by omega, ?_⟩, fun q => by omega⟩, fun c => ⟨by omega, hr _ (hK.1 x1 i0 c), hw, fun q => ?_, fun q => k1 (by rw [← q]; exact hK.1 x1 i0 c)⟩⟩
  · refine up_in fun M9 h9 => ?_
    have e : x1 = n := by omega
    rw [e] at i3
    have hno : ¬ S w := fun q => by obtain ⟨i, a, b, d⟩ := hK.2 w q; exact i3 i a b d
    refine k2 hno M9 (fun a ha => funext fun b => by rw [h9 a b, if_neg (by omega)]) ⟨fun i a b => ?_, fun v hv => ?_⟩
    · by_cases q : i = n
      · rw [h9, if_pos ⟨rfl, q⟩]; exact Or.inr rfl
      · rw [h9, if_neg (by omega)]; exact Or.inl (hK.1 i a (by omega))
    · rcases hv with hv | hv
      · obtain ⟨i, a, b, d⟩ := hK.2 v hv
        exact ⟨i, a, by omega, by rw [h9, if_neg (by omega)]; exact d⟩
      · exact ⟨n, by omega, by omega, by rw [h9, if_pos ⟨rfl, rfl⟩, hv]⟩
  · intro x14 e14
    refine ⟨(n - x14).toNat, by omega, by omega, by omega, by omega, fun j a b => ?_⟩
    by_cases q2 : j = x1
    · rw [q2]; exact q
    · exact i3 j a (by omega)
/-- the offsets that hold, by their values -/
theorem fc_dcn {m : Int} {s f : Int → Int} {l : Int} (hL : LOk m s f) : ∀ n : Nat, (n : Int) ≤ m + 1 → fc m s f l n = dcn (fun v => ∃ k : Nat, k < n ∧ Hh m s f l k ∧ f k = v) (-1000) 2001
  | 0, _ => by
    have : ∀ N : Nat, dcn (fun v => ∃ k : Nat, k < 0 ∧ Hh m s f l k ∧ f k = v) (-1000) N = 0 := by
      intro N
      induction N with
      | zero => rfl
      | succ N ih => simp only [dcn]; rw [ih, b2i_f (fun ⟨k, q, _⟩ => by omega)]; rfl
    rw [this]; rfl
  | n + 1, hn => by
    have ih := fc_dcn (l := l) hL n (by omega)
    have hf := hL.2.2.2 n (by omega) (by omega)
    simp only [fc]
    by_cases c : Hh m s f l n
    · rw [if_pos c, ih]
      have hno : ¬ ∃ k : Nat, k < n ∧ Hh m s f l k ∧ f k = f n := by
        rintro ⟨k, q1, q2, q3⟩
        have e1 : SP m s (l - f k) = k := SP_eq hL (by omega) q2.1 q2.2
        have e2 : SP m s (l - f n) = n := SP_eq hL (by omega) c.1 c.2
        rw [q3, e2] at e1; omega
      refine (dcn_add (w := f n) 2001 (by omega) (by omega) hno (fun v => ?_)).symm
      · constructor
        · rintro ⟨k, q1, q2, q3⟩
          by_cases q : k = n
          · right; rw [← q3, q]
          · exact Or.inl ⟨k, by omega, q2, q3⟩
        · rintro (⟨k, q1, q2, q3⟩ | q)
          · exact ⟨k, by omega, q2, q3⟩
          · exact ⟨n, by omega, c, q.symm⟩
    · rw [if_neg c, ih]
      refine dcn_ext 2001 (fun v _ _ => ?_)
      constructor
      · rintro ⟨k, q1, q2, q3⟩; exact ⟨k, by omega, q2, q3⟩
      · rintro ⟨k, q1, q2, q3⟩
        by_cases q : k = n
        · rw [q] at q2; exact absurd q2 c
        · exact ⟨k, by omega, q2, q3⟩
theorem sim_instantsAgain {M : jT} {z x : Int} (h : Inv M) (rz : rg z) (rx : rg x) : wp_X10_instantsAgain M 0 z x (fun v M1 => OKq (wp_X11_instantsAgain M1 608 z x) v) (fun e M1 => EXq (wp_X11_instantsAgain M1 608 z x) [1, 2] e) := by
  unfold wp_X10_instantsAgain
  refine nz h.1 rz (fun hz => ⟨(pgd rx).2.2.2.2.2.1, na (fun c => ?_) (fun c => ?_)⟩) (fun hz => ⟨by decide, ?_⟩)
  · have c : 0 ≤ x ∧ x < 16830720 := c
    simp only [Int.zero_add]
    refine cmp' h hz fun M1 h1 e1 hT hC hL => ?_
    have hm := hL.1
    generalize hm' : lm (zsl (M 609) z) = m at hC hL hm
    generalize hs' : lS (zsl (M 609) z) = s at hC hL
    generalize hf' : lF (zsl (M 609) z) = f at hC hL
    have fin : ∀ M1' : jT, Inv M1' → M1' 609 = M 609 → OKq (wp_X11_instantsAgain M1' 608 z x) (cN m s f x) := by
      intro M1' h1' e1'
      unfold OKq wp_X11_instantsAgain
      have hz1 : 0 ≤ z ∧ z < M1' 609 0 := by rw [e1']; exact hz
      refine th0 h1' fun M2 h2 e2 t2 => ⟨pg_zone h2 rz, fun _ => ⟨(pgr rx).2.2.1, fun _ => ?_, fun q => absurd (lc.mpr c) q⟩, fun q => absurd (zi.mpr (by rw [e2]; exact hz1)) q⟩
      have hz2 : 0 ≤ z ∧ z < M2 609 0 := by rw [e2]; exact hz1
      refine sp_finds (h2.rz hz2) (by omega) fun M3 f' h14 hl hz3 e30 _ => ?_
      obtain ⟨i1, i2, i3⟩ := h2.f1 hz2 f' h14 hl
      exact ⟨by rw [i3, t2], by rw [e30, e2, e1', hm', hs', hf'], i1⟩
    refine ⟨fun n a b k M13 => ∃ j : Nat, k = j ∧ (j : Int) ≤ m + 1 ∧ (m + 1 - j).toNat ≤ n ∧ (0 ≤ a ∧ a ≤ j) ∧ (∀ a, a ≠ 607 → M13 a = M1 a) ∧ KS (M13 607) a (fun v => ∃ i : Nat, i < j ∧ f i = v) ∧ b = dcn (fun v => (∃ i : Nat, i < j ∧ f i = v) ∧ f (SP m s (x - v)) = v) (-1000) 2001, ⟨(m + 1).toNat, 0, rfl, by omega, by omega, by omega, fun _ _ => rfl, ⟨fun i _ _ => by omega, fun v ⟨i, q, _⟩ => by omega⟩, ?_⟩, ?_⟩
    · have : ∀ N : Nat, dcn (fun v => (∃ i : Nat, i < 0 ∧ f i = v) ∧ f (SP m s (x - v)) = v) (-1000) N = 0 := by
        intro N
        induction N with
        | zero => rfl
        | succ N ih => simp only [dcn]; rw [ih, b2i_f (fun ⟨⟨k, q, _⟩, _⟩ => by omega)]; rfl
      exact (this 2001).symm
    · rintro n15 x10 x11 x12 M13 ⟨j, rfl, j1, j2, ha, F, hK, hb⟩
      have hC13 : CL M13 (8 * z + 521) m s f := hC.mv (fun b _ => by have a1 := h.1.1.1; rw [F _ (by omega)]) (F _ (by have a1 := h.1.1.1; omega)) (F _ (by have a1 := h.1.1.1; omega))
      have a1 := h.1.1.1
      rw [hC13.1]
      refine ⟨⟨by omega, by omega⟩, ⟨by omega, by omega⟩, fun q => ?_, fun q => ⟨by unfold pg_X7_offsetIn; exact ⟨by omega, trivial⟩, ?_⟩⟩
      · have ej : (j : Int) = m + 1 := by omega
        have hI : Inv M13 := h1.c (fun a ha => F a (by omega)) (h1.2.1.mv h1.1 (F 609 (by omega)) (fun a _ _ => F a (by omega)))
        have : x11 = cN m s f x := by
          rw [hb]; unfold cN; rw [fc_dcn hL _ (by omega)]
          refine dcn_ext 2001 (fun v _ _ => ?_)
          constructor
          · rintro ⟨⟨i, q1, q2⟩, q3⟩
            obtain ⟨p0, p1, p2, p3⟩ := SP_is hL (x - v)
            refine ⟨(SP m s (x - v)).toNat, by omega, ?_, by rw [Int.toNat_of_nonneg p0]; exact q3⟩
            rw [Int.toNat_of_nonneg p0]
            unfold Hh
            rw [q3]
            refine ⟨?_, ?_⟩
            · by_cases z0 : SP m s (x - v) = 0
              · exact Or.inl z0
              · exact Or.inr (p2 _ (by omega) (by omega))
            · by_cases z0 : SP m s (x - v) = m
              · exact Or.inl z0
              · exact Or.inr (p3 _ (Int.le_refl _) (by omega))
          · rintro ⟨k, q1, q2, q3⟩
            refine ⟨⟨k, by omega, q3⟩, ?_⟩
            rw [← q3, SP_eq hL (p := k) (by omega) q2.1 q2.2]
        rw [this]
        exact fin M13 hI (by rw [F 609 (by omega), e1])
      · have hfj := hL.2.2.2 j (by omega) q
        have eo : pf_X7_offsetIn M13 (8 * z + 521) j = f j := hC13.2.2.1 j (by omega) q
        rw [eo]
        intro x22 e22
        refine ⟨⟨by omega, by omega⟩, sp_addKey (by omega) hK (fun v ⟨i, q1, q2⟩ => ?_) ⟨by omega, by omega⟩ (fun hin => ?_) (fun hno M25 F25 hK25 => ?_)⟩
        · have := hL.2.2.2 i (by omega) (by omega)
          exact ⟨by omega, by omega⟩
        · refine ⟨fun t => t = 0, fun t et => ?_, True, fun _ => rfl, ⟨by omega, by omega⟩, ⟨by omega, by omega⟩, fun _ => trivial, fun q3 => by omega⟩
          intro x43 e43 x44 e44
          have hS : ∀ v, (∃ i : Nat, i < j + 1 ∧ f i = v) ↔ ∃ i : Nat, i < j ∧ f i = v := fun v => by
            constructor
            · rintro ⟨i, q1, q2⟩
              by_cases q3 : i = j
              · obtain ⟨i', q4, q5⟩ := hin
                exact ⟨i', q4, by rw [q5, e22, ← q3]; exact q2⟩
              · exact ⟨i, by omega, q2⟩
            · rintro ⟨i, q1, q2⟩; exact ⟨i, by omega, q2⟩
          refine ⟨(m + 1 - (j + 1)).toNat, by omega, j + 1, by omega, by omega, by omega, by omega, F, ⟨fun i i0 i1 => (hS _).mpr (hK.1 i i0 i1), fun v hv => hK.2 v ((hS v).mp hv)⟩, ?_⟩
          rw [e43, et, hb, Int.add_zero]
          exact dcn_ext 2001 (fun v _ _ => by rw [hS v])
        · have F' : ∀ a, a ≠ 607 → M25 a = M1 a := fun a ha => (F25 a ha).trans (F a ha)
          have hC25 : CL M25 (8 * z + 521) m s f := hC.mv (fun b _ => by rw [F' _ (by omega)]) (F' _ (by omega)) (F' _ (by omega))
          have hS : ∀ v, ((∃ i : Nat, i < j ∧ f i = v) ∨ v = x22) ↔ ∃ i : Nat, i < j + 1 ∧ f i = v := fun v => by
            constructor
            · rintro (⟨i, q1, q2⟩ | q1)
              · exact ⟨i, by omega, q2⟩
              · exact ⟨j, by omega, by rw [q1, e22]⟩
            · rintro ⟨i, q1, q2⟩
              by_cases q3 : i = j
              · right; rw [e22, ← q3]; exact q2.symm
              · exact Or.inl ⟨i, by omega, q2⟩
          have hK' : KS (M25 607) (x10 + 1) (fun v => ∃ i : Nat, i < j + 1 ∧ f i = v) := ⟨fun i i0 i1 => (hS _).mp (hK25.1 i i0 i1), fun v hv => hK25.2 v ((hS v).mpr hv)⟩
          obtain ⟨p0, p1, p2, p3⟩ := SP_is hL (x - x22)
          have hfp := hL.2.2.2 _ p0 p1
          refine ⟨fun t => t = b2i (f (SP m s (x - x22)) = x22), fun t et => ?_, ¬ (f (SP m s (x - x22)) = x22), fun q3 => (b2i_f q3).symm, ⟨by omega, by omega⟩, ⟨by omega, by omega⟩, fun q3 => by omega, fun _ => sp_X7_offsetAt hC25 hL ⟨by omega, by omega⟩ ⟨⟨by omega, by omega⟩, fun q3 => q3, fun q3 => (b2i_t q3).symm⟩⟩
          intro x43 e43 x44 e44
          refine ⟨(m + 1 - (j + 1)).toNat, by omega, j + 1, by omega, by omega, by omega, by omega, F', hK', ?_⟩
          rw [e43, et, hb]
          by_cases q3 : f (SP m s (x - x22)) = x22
          · rw [b2i_t q3]
            refine (dcn_add (w := x22) 2001 (by omega) (by omega) (fun q4 => hno q4.1) (fun v => ?_)).symm
            rw [← hS v]
            constructor
            · rintro ⟨q4 | q4, q5⟩
              · exact Or.inl ⟨q4, q5⟩
              · exact Or.inr q4
            · rintro (q4 | q4)
              · exact ⟨Or.inl q4.1, q4.2⟩
              · exact ⟨Or.inr q4, by rw [q4]; exact q3⟩
          · rw [b2i_f q3, Int.add_zero]
            refine dcn_ext 2001 (fun v _ _ => ?_)
            rw [← hS v]
            constructor
            · rintro ⟨q4, q5⟩; exact ⟨Or.inl q4, q5⟩
            · rintro ⟨q4 | q4, q5⟩
              · exact ⟨q4, q5⟩
              · rw [q4] at q5; exact absurd q5 q3
  · refine ⟨by decide, ?_⟩
    unfold wp_X11_instantsAgain
    exact th0 h fun M2 h2 e2 t2 => ⟨pg_zone h2 rz, fun _ => ⟨(pgr rx).2.2.1, fun q => absurd (lc.mp q) c, fun _ => rs h2 fun M3 h3 t3 => ⟨by rw [t3]; rfl, h3⟩⟩, fun q => absurd (zi.mpr (by rw [e2]; exact hz)) q⟩
  · unfold wp_X11_instantsAgain; exact bz h rz hz rfl (fun b M2 a1 a2 => ⟨a1, a2⟩)
