/-! append, errorPosition, character -/
def lt (a p : Int) : Int := (a / 2 ^ p.toNat) % 256
def okl (c : Int) : Prop := c = 0 ∨ (33 ≤ c ∧ c ≤ 126)
def isP (p : Int) : Prop := p = 24 ∨ p = 16 ∨ p = 8 ∨ p = 0
noncomputable section
def stp (a p : Int) (s : Int × (Int → Int)) : Int × (Int → Int) := @ite _ (lt a p = 0) (Classical.propDecidable _) s (s.1 + 1, upr s.2 s.1 (lt a p))
def apS (a L : Int) (T : Int → Int) (x : Int) : Int × (Int → Int) := if x = 24 then (L, T) else if x = 16 then stp a 24 (L, T) else if x = 8 then stp a 16 (stp a 24 (L, T)) else if x = 0 then stp a 8 (stp a 16 (stp a 24 (L, T))) else stp a 0 (stp a 8 (stp a 16 (stp a 24 (L, T))))
end
theorem stp_0 {a p : Int} {s : Int × (Int → Int)} (h : lt a p = 0) : stp a p s = s := by unfold stp; rw [if_pos h]
theorem stp_1 {a p : Int} {s : Int × (Int → Int)} (h : lt a p ≠ 0) : stp a p s = (s.1 + 1, upr s.2 s.1 (lt a p)) := by unfold stp; rw [if_neg h]
theorem stp_b (a p : Int) (s : Int × (Int → Int)) : s.1 ≤ (stp a p s).1 ∧ (stp a p s).1 ≤ s.1 + 1 := by
  by_cases h : lt a p = 0
  · rw [stp_0 h]; omega
  · rw [stp_1 h]; exact ⟨by show s.1 ≤ s.1 + 1; omega, by show s.1 + 1 ≤ s.1 + 1; omega⟩
theorem apS_s {a L x : Int} {T : Int → Int} (h : isP x) : apS a L T (x + (-8)) = stp a x (apS a L T x) := by
  rcases h with rfl | rfl | rfl | rfl <;> simp [apS]
theorem apS_24 {a L : Int} {T : Int → Int} : apS a L T 24 = (L, T) := by simp [apS]
theorem apS_b {a L x : Int} {T : Int → Int} (h : isP x ∨ x = -8) : L ≤ (apS a L T x).1 ∧ (apS a L T x).1 ≤ L + 4 ∧ (apS a L T x).1 ≤ (apS a L T (-8)).1 := by
  have b1 := stp_b a 24 (L, T)
  have b2 := stp_b a 16 (stp a 24 (L, T))
  have b3 := stp_b a 8 (stp a 16 (stp a 24 (L, T)))
  have b4 := stp_b a 0 (stp a 8 (stp a 16 (stp a 24 (L, T))))
  have e1 : (L, T).1 = L := rfl
  rw [e1] at b1
  have e8 : apS a L T (-8) = stp a 0 (stp a 8 (stp a 16 (stp a 24 (L, T)))) := by simp [apS]
  have e0 : apS a L T 0 = stp a 8 (stp a 16 (stp a 24 (L, T))) := by simp [apS]
  have e2 : apS a L T 8 = stp a 16 (stp a 24 (L, T)) := by simp [apS]
  have e3 : apS a L T 16 = stp a 24 (L, T) := by simp [apS]
  have e4 : apS a L T 24 = (L, T) := by simp [apS]
  rw [e8]
  rcases h with (rfl | rfl | rfl | rfl) | rfl
  · rw [e4, e1]; omega
  · rw [e3]; omega
  · rw [e2]; omega
  · rw [e0]; omega
  · rw [e8]; omega
theorem lt_rng (a p : Int) : 0 ≤ lt a p ∧ lt a p < 256 := ⟨Int.emod_nonneg _ (by omega), Int.emod_lt_of_pos _ (by omega)⟩
theorem lt_ref {a p : Int} (h : isP p) : ((a % 4294967296) / 2 ^ p.toNat) % 256 = lt a p := by
  unfold lt
  rcases h with rfl | rfl | rfl | rfl
  · have e : (2 : Int) ^ (24 : Int).toNat = 16777216 := by decide
    rw [e]; omega
  · have e : (2 : Int) ^ (16 : Int).toNat = 65536 := by decide
    rw [e]; omega
  · have e : (2 : Int) ^ (8 : Int).toNat = 256 := by decide
    rw [e]; omega
  · have e : (2 : Int) ^ (0 : Int).toNat = 1 := by decide
    rw [e]; omega
theorem stp_eq {a p : Int} {s t : Int × (Int → Int)} (h1 : s.1 = t.1) (h2 : ∀ j, 0 ≤ j → j < s.1 → s.2 j = t.2 j) : (stp a p s).1 = (stp a p t).1 ∧ ∀ j, 0 ≤ j → j < (stp a p s).1 → (stp a p s).2 j = (stp a p t).2 j := by
  by_cases h : lt a p = 0
  · rw [stp_0 h, stp_0 h]; exact ⟨h1, h2⟩
  · rw [stp_1 h, stp_1 h]
    refine ⟨by show s.1 + 1 = t.1 + 1; rw [h1], fun j j0 j1 => ?_⟩
    have j2 : j < s.1 + 1 := j1
    show upr s.2 s.1 (lt a p) j = upr t.2 t.1 (lt a p) j
    rw [upr_at, upr_at, h1]
    by_cases q : j = t.1
    · rw [if_pos q, if_pos q]
    · rw [if_neg q, if_neg q]; exact h2 j j0 (by omega)
theorem stp_k {a p : Int} {s : Int × (Int → Int)} (h0 : okl (lt a p)) (h2 : ∀ j, 0 ≤ j → j < s.1 → 33 ≤ s.2 j ∧ s.2 j ≤ 126) : ∀ j, 0 ≤ j → j < (stp a p s).1 → 33 ≤ (stp a p s).2 j ∧ (stp a p s).2 j ≤ 126 := by
  by_cases h : lt a p = 0
  · rw [stp_0 h]; exact h2
  · rw [stp_1 h]
    intro j j0 j1
    have j2 : j < s.1 + 1 := j1
    show 33 ≤ upr s.2 s.1 (lt a p) j ∧ upr s.2 s.1 (lt a p) j ≤ 126
    rw [upr_at]
    by_cases q : j = s.1
    · rw [if_pos q]; rcases h0 with z | z
      · exact absurd z h
      · exact z
    · rw [if_neg q]; exact h2 j j0 (by omega)
theorem apS_e {a L : Int} {T U : Int → Int} (h : ∀ j, 0 ≤ j → j < L → T j = U j) : (apS a L T (-8)).1 = (apS a L U (-8)).1 ∧ ∀ j, 0 ≤ j → j < (apS a L T (-8)).1 → (apS a L T (-8)).2 j = (apS a L U (-8)).2 j := by
  have e8 : ∀ T, apS a L T (-8) = stp a 0 (stp a 8 (stp a 16 (stp a 24 (L, T)))) := fun T => by simp [apS]
  rw [e8, e8]
  have h1 := stp_eq (a := a) (p := 24) (s := (L, T)) (t := (L, U)) rfl h
  have h2 := stp_eq (a := a) (p := 16) h1.1 h1.2
  have h3 := stp_eq (a := a) (p := 8) h2.1 h2.2
  exact stp_eq (a := a) (p := 0) h3.1 h3.2
theorem apS_k {a L : Int} {T : Int → Int} (h0 : ∀ p, isP p → okl (lt a p)) (h : ∀ j, 0 ≤ j → j < L → 33 ≤ T j ∧ T j ≤ 126) : ∀ j, 0 ≤ j → j < (apS a L T (-8)).1 → 33 ≤ (apS a L T (-8)).2 j ∧ (apS a L T (-8)).2 j ≤ 126 := by
  have e8 : ∀ T, apS a L T (-8) = stp a 0 (stp a 8 (stp a 16 (stp a 24 (L, T)))) := fun T => by simp [apS]
  rw [e8]
  exact stp_k (h0 0 (by unfold isP; omega)) (stp_k (h0 8 (by unfold isP; omega)) (stp_k (h0 16 (by unfold isP; omega)) (stp_k (h0 24 (by unfold isP; omega)) h)))
theorem apS_v {a L x : Int} {T U : Int → Int} : (apS a L T x).1 = (apS a L U x).1 := by
  have e : ∀ (p : Int) (s t : Int × (Int → Int)), s.1 = t.1 → (stp a p s).1 = (stp a p t).1 := by
    intro p s t h
    by_cases q : lt a p = 0
    · rw [stp_0 q, stp_0 q, h]
    · rw [stp_1 q, stp_1 q]; show s.1 + 1 = t.1 + 1; rw [h]
  unfold apS
  repeat' split
  · rfl
  · exact e _ _ _ rfl
  · exact e _ _ _ (e _ _ _ rfl)
  · exact e _ _ _ (e _ _ _ (e _ _ _ rfl))
  · exact e _ _ _ (e _ _ _ (e _ _ _ (e _ _ _ rfl)))
theorem isP_i {x : Int} (h : isP x ∨ x = -8) (h0 : 0 ≤ x) : isP x ∧ x < 32 ∧ (isP (x + -8) ∨ x + -8 = -8) := by
  unfold isP at h ⊢; omega
theorem rf_append {M : jT} {a : Int} {Q : Int → jT → Prop} (hL : 0 ≤ M 608 8 ∧ M 608 8 ≤ 60)
    (k1 : ∀ p, isP p → ¬ okl (lt a p) → ∀ M2 : jT, (∀ r b, M2 r b = if r = 608 ∧ b = 0 then 1 else M r b) → Q 0 M2)
    (k2 : (∀ p, isP p → okl (lt a p)) → 60 < (apS a (M 608 8) (M 613) (-8)).1 → ∀ M2 : jT, (∀ r b, M2 r b = if r = 608 ∧ b = 0 then 2 else M r b) → Q 0 M2)
    (k3 : (∀ p, isP p → okl (lt a p)) → (apS a (M 608 8) (M 613) (-8)).1 ≤ 60 → ∀ M2 : jT, M2 608 0 = 0 → M2 608 8 = (apS a (M 608 8) (M 613) (-8)).1 → (∀ b, b ≠ 0 → b ≠ 8 → M2 608 b = M 608 b) → (∀ r, r ≠ 608 → r ≠ 613 → M2 r = M r) → M2 613 = (apS a (M 608 8) (M 613) (-8)).2 → Q (M2 608 8) M2) : wp_X11_append M 608 a Q := by
  unfold wp_X11_append wp_X11_raises
  simp only [Int.reduceAdd]
  refine up_in fun M1 h1 => ?_
  have e8 : M1 608 8 = M 608 8 := by rw [h1, if_neg (by omega)]
  rw [e8]
  refine ⟨fun n c x => (isP x ∨ x = -8) ∧ (x + 8).toNat ≤ n ∧ c = (apS a (M 608 8) (M 613) x).1 - M 608 8 ∧ ∀ p, isP p → x < p → okl (lt a p), ⟨32, Or.inl (Or.inl rfl), by omega, by rw [apS_24]; show (0 : Int) = M 608 8 - M 608 8; omega, fun p hp q => by unfold isP at hp; omega⟩, ?_⟩
  rintro n5 c x ⟨i1, i2, i3, i4⟩
  have hb := apS_b (a := a) (L := M 608 8) (T := M 613) i1
  have rx : rg x := by unfold isP at i1; omega
  refine ⟨rx, fun q => ?_, fun q => ?_⟩
  · have ex : x = -8 := by unfold isP at i1; omega
    subst ex
    have hk : ∀ p, isP p → okl (lt a p) := fun p hp => i4 p hp (by unfold isP at hp; omega)
    have ec : M 608 8 + c = (apS a (M 608 8) (M 613) (-8)).1 := by omega
    rw [ec]
    refine ⟨⟨by omega, by omega⟩, fun q1 => ?_, fun q1 => up_in fun M2 h2 => k2 hk q1 M2 (fun r b => ?_)⟩
    · refine ⟨fun n x N => (isP x ∨ x = -8) ∧ (x + 8).toNat ≤ n ∧ (∀ r, r ≠ 608 → r ≠ 613 → N r = M r) ∧ N 608 0 = 0 ∧ N 608 8 = (apS a (M 608 8) (M 613) x).1 ∧ (∀ b, b ≠ 0 → b ≠ 8 → N 608 b = M 608 b) ∧ N 613 = (apS a (M 608 8) (M 613) x).2, ⟨32, Or.inl (Or.inl rfl), by omega, fun r r1 r2 => funext fun b => by rw [h1, if_neg (by omega)], by rw [h1, if_pos ⟨rfl, rfl⟩], by rw [apS_24]; exact e8, fun b b1 b2 => by rw [h1, if_neg (by omega)], by rw [apS_24]; exact funext fun b => by rw [h1, if_neg (by omega)]⟩, ?_⟩
      rintro n13 x N ⟨j1, j2, j3, j4, j5, j6, j7⟩
      have hb2 := apS_b (a := a) (L := M 608 8) (T := M 613) j1
      have rx2 : rg x := by unfold isP at j1; omega
      refine ⟨rx2, fun q2 => ?_, fun q2 => ?_⟩
      · have ex : x = -8 := by unfold isP at j1; omega
        subst ex
        exact k3 hk q1 N j4 j5 j6 j3 j7
      · obtain ⟨p1, p2, p3⟩ := isP_i j1 q2
        have hs := apS_s (a := a) (L := M 608 8) (T := M 613) p1
        have hb3 := apS_b (a := a) (L := M 608 8) (T := M 613) p3
        have hr := lt_rng a x
        rw [lt_ref p1]
        refine ⟨⟨q2, p2⟩, fun y ey => ⟨fun N' => (∀ r, r ≠ 608 → r ≠ 613 → N' r = M r) ∧ N' 608 0 = 0 ∧ N' 608 8 = (apS a (M 608 8) (M 613) (x + -8)).1 ∧ (∀ b, b ≠ 0 → b ≠ 8 → N' 608 b = M 608 b) ∧ N' 613 = (apS a (M 608 8) (M 613) (x + -8)).2, fun N' ⟨g1, g2, g3, g4, g5⟩ z ez => ⟨(z + 8).toNat, by omega, by rw [ez]; exact p3, by omega, g1, g2, by rw [ez]; exact g3, g4, by rw [ez]; exact g5⟩, by rw [ey]; exact ⟨by omega, by omega⟩, fun q3 => ?_, fun q3 => ?_⟩⟩
        · rw [hs, stp_0 (by omega)]
          exact ⟨j3, j4, j5, j6, j7⟩
        · rw [hs, stp_1 (by omega)] at hb3 ⊢
          have hb4 : (apS a (M 608 8) (M 613) x).1 + 1 ≤ (apS a (M 608 8) (M 613) (-8)).1 := hb3.2.2
          refine up_in fun N1 n1 => ?_
          rw [j5]
          refine ⟨⟨by omega, by omega⟩, up_in fun N2 n2 => ⟨fun r r1 r2 => ?_, ?_, ?_, fun b b1 b2 => ?_, ?_⟩⟩
          · rw [← j3 r r1 r2]; funext b; rw [n2, if_neg (by omega), n1, if_neg (by omega)]
          · rw [n2, if_neg (by omega), n1, if_neg (by omega)]; exact j4
          · rw [n2, if_neg (by omega), n1, if_pos ⟨rfl, rfl⟩, j5]
          · rw [n2, if_neg (by omega), n1, if_neg (by omega)]; exact j6 b b1 b2
          · funext b
            show _ = upr (apS a (M 608 8) (M 613) x).2 (apS a (M 608 8) (M 613) x).1 (lt a x) b
            rw [upr_at, n2]
            by_cases q4 : b = (apS a (M 608 8) (M 613) x).1
            · rw [if_pos ⟨rfl, q4⟩, if_pos q4, ey]
            · rw [if_neg (by omega), if_neg q4, n1, if_neg (by omega), j7]
    · rw [h2, h1]
      by_cases q2 : r = 608 ∧ b = 0
      · rw [if_pos q2, if_pos q2]
      · rw [if_neg q2, if_neg q2, if_neg q2]
  · obtain ⟨p1, p2, p3⟩ := isP_i i1 q
    have hs := apS_s (a := a) (L := M 608 8) (T := M 613) p1
    have hr := lt_rng a x
    rw [lt_ref p1]
    refine ⟨⟨q, p2⟩, fun y ey => ⟨fun c' => c' = (apS a (M 608 8) (M 613) (x + -8)).1 - M 608 8 ∧ okl (lt a x), fun c' ⟨g1, g2⟩ z ez => ⟨(z + 8).toNat, by omega, by rw [ez]; exact p3, by omega, by rw [ez]; exact g1, fun p hp q2 => ?_⟩, by rw [ey]; exact ⟨by omega, by omega⟩, fun q3 => ?_, fun q3 => ?_⟩⟩
    · by_cases q4 : p = x
      · rw [q4]; exact g2
      · exact i4 p hp (by unfold isP at hp p1; omega)
    · refine ⟨pg_in (by rw [ey]; exact ⟨by omega, by omega⟩) ⟨by omega, by omega⟩ ⟨by omega, by omega⟩, fun q4 z ez => ?_, fun q4 => up_in fun M2 h2 => k1 x p1 (fun q5 => ?_) M2 (fun r b => ?_)⟩
      · obtain ⟨q5, q6⟩ := q4
        rw [hs, stp_1 (by omega)]
        refine ⟨?_, Or.inr ⟨by omega, by omega⟩⟩
        show z = (apS a (M 608 8) (M 613) x).1 + 1 - M 608 8
        omega
      · rcases q5 with q5 | q5
        · omega
        · exact q4 ⟨by omega, by omega⟩
      · rw [h2, h1]
        by_cases q2 : r = 608 ∧ b = 0
        · rw [if_pos q2, if_pos q2]
        · rw [if_neg q2, if_neg q2, if_neg q2]
    · rw [hs, stp_0 (by omega)]
      exact ⟨i3, Or.inl (by omega)⟩
theorem sim_append {M : jT} {a : Int} (h : Inv M) (ra : rg a) : wp_X10_append M 0 a (fun v M1 => OKq (wp_X11_append M1 608 a) v) (fun e M1 => EXq (wp_X11_append M1 608 a) [2, 3] e) := by
  obtain ⟨⟨t1, t2, t3⟩, t4, t5, t6, t7⟩ := h.2.2.2.2
  have eL : (apS a (M 601 0) (M 602) (-8)).1 = (apS a (M 608 8) (M 613) (-8)).1 := by rw [← t1]; exact apS_v
  have bad : ∀ p, isP p → ¬ okl (lt a p) → EXq (wp_X11_append M 608 a) [2, 3] 2 := fun p hp hk => ⟨by decide, rf_append (by omega) (fun _ _ _ M2 h2 => by
    obtain ⟨i1, i2, i3⟩ := h.t h2
    exact ⟨by rw [i3]; rfl, i1⟩) (fun q => absurd (q p hp) hk) (fun q => absurd (q p hp) hk)⟩
  unfold wp_X10_append
  simp only [Int.zero_add]
  refine ⟨fun n c x => (isP x ∨ x = -8) ∧ (x + 8).toNat ≤ n ∧ c = (apS a (M 601 0) (M 602) x).1 - M 601 0 ∧ ∀ p, isP p → x < p → okl (lt a p), ⟨32, Or.inl (Or.inl rfl), by omega, by rw [apS_24]; show (0 : Int) = M 601 0 - M 601 0; omega, fun p hp q => by unfold isP at hp; omega⟩, ?_⟩
  rintro n4 c x ⟨i1, i2, i3, i4⟩
  have hb := apS_b (a := a) (L := M 601 0) (T := M 602) i1
  have rx : rg x := by unfold isP at i1; omega
  refine ⟨rx, fun q => ?_, fun q => ?_⟩
  · have ex : x = -8 := by unfold isP at i1; omega
    subst ex
    have hk : ∀ p, isP p → okl (lt a p) := fun p hp => i4 p hp (by unfold isP at hp; omega)
    have ec : M 601 0 + c = (apS a (M 601 0) (M 602) (-8)).1 := by omega
    rw [ec]
    refine ⟨⟨⟨by omega, by omega⟩, fun _ => trivial, fun _ => trivial⟩, fun y g1 g2 => refuse (by omega) (fun q1 => ?_) (fun q1 => ?_)⟩
    · have q2 : (apS a (M 601 0) (M 602) (-8)).1 ≤ 60 := by
        by_cases q3 : 60 < (apS a (M 601 0) (M 602) (-8)).1
        · have := g1 q3; omega
        · omega
      refine ⟨fun n x N => (isP x ∨ x = -8) ∧ (x + 8).toNat ≤ n ∧ (∀ r, r ≠ 601 → r ≠ 602 → N r = M r) ∧ N 601 0 = (apS a (M 601 0) (M 602) x).1 ∧ (∀ b, b ≠ 0 → N 601 b = M 601 b) ∧ N 602 = (apS a (M 601 0) (M 602) x).2, ⟨32, Or.inl (Or.inl rfl), by omega, fun r r1 r2 => rfl, by rw [apS_24], fun b b1 => rfl, by rw [apS_24]⟩, ?_⟩
      rintro n18 x N ⟨j1, j2, j3, j4, j5, j6⟩
      have hb2 := apS_b (a := a) (L := M 601 0) (T := M 602) j1
      have rx2 : rg x := by unfold isP at j1; omega
      refine ⟨rx2, fun q3 => ?_, fun q3 => ?_⟩
      · have ex : x = -8 := by unfold isP at j1; omega
        subst ex
        have n8 : N 608 = M 608 := j3 608 (by omega) (by omega)
        have n13 : N 613 = M 613 := j3 613 (by omega) (by omega)
        have hee := apS_e (a := a) (L := M 601 0) (T := M 602) (U := M 613) (fun j j0 j1 => (t4 j j0 j1).1)
        have hkk := apS_k (a := a) (L := M 601 0) (T := M 602) hk (fun j j0 j1 => (t4 j j0 j1).2)
        unfold OKq
        refine rf_append (by rw [n8]; omega) (fun p hp z => absurd (hk p hp) z) (fun _ z => ?_) (fun _ z M2 m0 m8 mb mr m13 => ?_)
        · rw [n8, n13] at z; omega
        · rw [n8, n13] at m8 m13 z
          have mm : ∀ r, r < 601 ∨ 602 < r → r ≠ 608 → r ≠ 613 → M2 r = M r := fun r r1 r2 r3 => (mr r r2 r3).trans (j3 r (by omega) (by omega))
          have m601 : M2 601 = N 601 := mr 601 (by omega) (by omega)
          have m602 : M2 602 = N 602 := mr 602 (by omega) (by omega)
          refine ⟨m0, by rw [m8, j4]; exact eL.symm, ?_, h.2.1.mv h.1 (mm 609 (by omega) (by omega) (by omega)) (fun r r1 r2 => mm r (by omega) (by omega) (by omega)), h.2.2.1.mv (mm 609 (by omega) (by omega) (by omega)) (fun b hb => ?_) (fun r r1 r2 => ?_), h.2.2.2.1.mv (fun r r1 r2 => mm r (by omega) (by omega) (by omega)) (by rw [mb 3 (by omega) (by omega), n8]) (by rw [mb 5 (by omega) (by omega), n8]) (mm 610 (by omega) (by omega) (by omega)) (mm 611 (by omega) (by omega) (by omega)), ?_⟩
          · unfold D1; rw [mm 609 (by omega) (by omega) (by omega)]
            exact ⟨h.1.1, h.1.2.mv h.1.1 (fun r r1 r2 => mm r (by omega) (by omega) (by omega))⟩
          · rw [mb b (by omega) (by omega), n8]
          · exact mm r (by omega) (by omega) (by omega)
          · unfold TX
            rw [m601, m602, mm 604 (by omega) (by omega) (by omega), mm 605 (by omega) (by omega) (by omega), m8, m13, mm 614 (by omega) (by omega) (by omega), mb 10 (by omega) (by omega), mb 12 (by omega) (by omega), n8, j4, j5 2 (by omega), j6]
            refine ⟨⟨eL, by omega, q2⟩, fun j j0 j1 => ⟨?_, hkk j j0 j1⟩, t5, t6, t7⟩
            rw [← t1]; exact hee.2 j j0 j1
      · obtain ⟨p1, p2, p3⟩ := isP_i j1 q3
        have hs := apS_s (a := a) (L := M 601 0) (T := M 602) p1
        have hb3 := apS_b (a := a) (L := M 601 0) (T := M 602) p3
        have hr := lt_rng a x
        have ev : (a / 2 ^ x.toNat) % 256 = lt a x := rfl
        rw [ev]
        refine ⟨⟨q3, p2⟩, ra, ⟨by omega, by omega⟩, ?_⟩
        unfold wp_X6_put
        simp only [Int.reduceAdd]
        refine ⟨fun N' => (∀ r, r ≠ 601 → r ≠ 602 → N' r = M r) ∧ N' 601 0 = (apS a (M 601 0) (M 602) (x + -8)).1 ∧ (∀ b, b ≠ 0 → N' 601 b = M 601 b) ∧ N' 602 = (apS a (M 601 0) (M 602) (x + -8)).2, fun N' ⟨g1, g2, g3, g4⟩ z ez => ⟨(z + 8).toNat, by omega, by rw [ez]; exact p3, by omega, g1, by rw [ez]; exact g2, g3, by rw [ez]; exact g4⟩, ⟨by omega, by omega⟩, fun q4 => ?_, fun q4 => ?_⟩
        · rw [hs, stp_0 q4]; exact ⟨j3, j4, j5, j6⟩
        · rw [hs, stp_1 q4] at hb3 ⊢
          have hb4 : (apS a (M 601 0) (M 602) x).1 + 1 ≤ (apS a (M 601 0) (M 602) (-8)).1 := hb3.2.2
          rw [j4]
          refine ⟨⟨by omega, by omega⟩, fun q5 => by omega, fun q5 => ⟨⟨by omega, by omega⟩, ⟨by omega, by omega⟩, up_in fun N1 n1 => up_in fun N2 n2 => ⟨fun r r1 r2 => ?_, ?_, fun b b1 => ?_, ?_⟩⟩⟩
          · rw [← j3 r r1 r2]; funext b; rw [n2, if_neg (by omega), n1, if_neg (by omega)]
          · rw [n2, if_pos ⟨rfl, rfl⟩, n1, if_neg (by omega), j4]
          · rw [n2, if_neg (by omega), n1, if_neg (by omega)]; exact j5 b b1
          · funext b
            show _ = upr (apS a (M 601 0) (M 602) x).2 (apS a (M 601 0) (M 602) x).1 (lt a x) b
            rw [upr_at, n2, if_neg (by omega), n1]
            by_cases q6 : b = (apS a (M 601 0) (M 602) x).1
            · rw [if_pos ⟨rfl, q6⟩, if_pos q6]
            · rw [if_neg (by omega), if_neg q6, j6]
    · have q2 : 60 < (apS a (M 601 0) (M 602) (-8)).1 := by
        by_cases q3 : 60 < (apS a (M 601 0) (M 602) (-8)).1
        · exact q3
        · exact absurd (g2 (by omega)) q1
      have ey : y = 3 := g1 q2
      rw [ey]
      refine ⟨by decide, rf_append (by omega) (fun p hp z => absurd (hk p hp) z) (fun _ _ M2 h2 => ?_) (fun _ z => by omega)⟩
      obtain ⟨m1, m2, m3⟩ := h.t h2
      exact ⟨by rw [m3]; rfl, m1⟩
  · obtain ⟨p1, p2, p3⟩ := isP_i i1 q
    have hs := apS_s (a := a) (L := M 601 0) (T := M 602) p1
    have hr := lt_rng a x
    have ev : (a / 2 ^ x.toNat) % 256 = lt a x := rfl
    rw [ev]
    refine ⟨⟨q, p2⟩, ra, fun y ey => ⟨fun z => z = b2i (okl y), fun z ez => ?_, okl y, fun g => (b2i_t g).symm, by rw [ey]; exact ⟨by omega, by omega⟩, fun g => Or.inl g, fun g => ⟨¬ okl y, fun g2 => (b2i_f g2).symm, fun g2 g3 => ?_, fun g2 => ⟨fun g3 g4 => ?_, fun g3 => Or.inr ⟨g2, g3⟩⟩⟩⟩⟩
    · rw [ez]
      refine na (fun g => ⟨⟨by rw [ey]; exact ⟨by omega, by omega⟩, fun _ => trivial, fun _ => trivial⟩, fun c' ec x' ex' => ⟨(x' + 8).toNat, by omega, by rw [ex']; exact p3, by omega, ?_, fun p hp q2 => ?_⟩⟩) (fun g => bad x p1 (by rw [← ey]; exact g))
      · rw [ex', hs]
        by_cases q2 : lt a x = 0
        · rw [stp_0 q2]; rw [b2i_f (by omega)] at ec; omega
        · rw [stp_1 q2]; rw [b2i_t (by omega)] at ec
          show c' = (apS a (M 601 0) (M 602) x).1 + 1 - M 601 0
          omega
      · by_cases q4 : p = x
        · rw [q4, ← ey]; exact g
        · exact i4 p hp (by unfold isP at hp p1; omega)
    · unfold okl at g3; omega
    · unfold okl at g4; omega
theorem sim_errorPosition {M : jT} (h : Inv M) : OKq (wp_X11_errorPosition M 608) (pf_X10_errorPosition M 0) := by
  unfold OKq wp_X11_errorPosition pf_X10_errorPosition
  simp only [Int.zero_add]
  refine up_in fun N1 n1 => ?_
  obtain ⟨i1, i2, i3⟩ := h.t n1
  refine ⟨i3, ?_, i1⟩
  rw [n1, if_neg (by omega)]
  exact h.2.2.2.2.2.2.1.1.symm
theorem sim_character {M : jT} {i : Int} (h : Inv M) (ri : rg i) : wp_X10_character M 0 i (fun v M1 => OKq (wp_X11_character M1 608 i) v) (fun e M1 => EXq (wp_X11_character M1 608 i) [1] e) := by
  obtain ⟨t1, t2, t3, ⟨t4, t5, t6⟩, t7⟩ := h.2.2.2.2
  have ip : pb_X11_in i 0 (M 608 12 - 1) ↔ (0 ≤ i ∧ i < M 604 0) := by
    show (0 ≤ i ∧ i ≤ M 608 12 - 1) ↔ _
    omega
  have ref : ∀ (Q : Int → jT → Prop), (∀ N, Inv N → ((0 ≤ i ∧ i < M 604 0) → N 608 0 = 0 → Q (M 614 i) N) ∧ (¬ (0 ≤ i ∧ i < M 604 0) → N 608 0 = 1 → Q 0 N)) → wp_X11_character M 608 i Q := by
    intro Q k
    unfold wp_X11_character
    simp only [Int.reduceAdd]
    refine ⟨pg_in ri ⟨by omega, by omega⟩ ⟨by omega, by omega⟩, ⟨fun _ => trivial, fun _ => trivial⟩, up_in fun N n => ?_⟩
    obtain ⟨i1, i2, i3⟩ := h.t n
    have kk := k N i1
    by_cases c : 0 ≤ i ∧ i < M 604 0
    · have e0 : N 608 0 = 0 := by rw [i3]; exact b2i_f (fun q => q (ip.mpr c))
      have e14 : N 614 i = M 614 i := by rw [n, if_neg (by omega)]
      have tt := t7 i c.1 c.2
      rw [e0, e14]
      refine ⟨⟨⟨by omega, by omega⟩, fun _ => ⟨⟨by omega, by omega⟩, ⟨by omega, by omega⟩, trivial⟩, fun _ => trivial⟩, fun x g1 g2 => ?_⟩
      have ex := g1 (by omega)
      rw [ex]
      exact ⟨⟨by omega, by omega⟩, kk.1 c e0⟩
    · have e0 : N 608 0 = 1 := by rw [i3]; exact b2i_t (fun q => c (ip.mp q))
      rw [e0]
      refine ⟨⟨⟨by omega, by omega⟩, fun q => by omega, fun _ => trivial⟩, fun x g1 g2 => ?_⟩
      have ex := g2 (by omega)
      rw [ex]
      exact ⟨⟨by omega, by omega⟩, kk.2 c e0⟩
  unfold wp_X10_character
  simp only [Int.zero_add]
  refine ⟨fun x => x = b2i (0 ≤ i ∧ i < M 604 0), fun x ex => ?_, ¬ (0 ≤ i ∧ i < M 604 0), fun g => (b2i_f g).symm, ri, fun g q => by omega, fun g => ⟨⟨by omega, by omega⟩, fun g2 q => by omega, fun g2 => (b2i_t ⟨g, g2⟩).symm⟩⟩
  rw [ex]
  refine ni (fun c => ?_) (fun c => ⟨by decide, ref _ fun N i1 => ⟨fun q => absurd q c, fun _ e0 => ⟨by rw [e0]; rfl, i1⟩⟩⟩)
  have tt := t7 i c.1 c.2
  refine ⟨⟨by omega, by omega⟩, ⟨by omega, by omega⟩, ?_⟩
  exact ref _ fun N i1 => ⟨fun _ e0 => ⟨e0, tt.1.symm, i1⟩, fun q => absurd c q⟩
