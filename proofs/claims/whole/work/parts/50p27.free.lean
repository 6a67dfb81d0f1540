/-! free, count -/
def okT (A : Int → Int) (k m b t : Int) : Prop := t + k ≤ b ∨ b + msl A m 3 ≤ t
noncomputable def Feas (A : Int → Int) (k t : Int) : Prop := ∀ m o, 0 ≤ m → m < A 1 → 0 ≤ o → o < nD (msl A m) → tk A m o → okT A k m (bO A m o) t
noncomputable def Low (A : Int → Int) (k fr t : Int) : Prop := ∀ t', fr ≤ t' → Feas A k t' → t ≤ t'
theorem Low.step {A : Int → Int} {k fr t m o : Int} (h : Low A k fr t) (hf : fr ≤ t) (hm : 0 ≤ m ∧ m < A 1) (ho : 0 ≤ o ∧ o < nD (msl A m)) (ht : tk A m o) (hb : bO A m o < t + k) : Low A k fr (max t (bO A m o + msl A m 3)) := by
  intro t' h1 h2
  have a := h t' h1 h2
  have b := h2 m o hm.1 hm.2 ho.1 ho.2 ht
  unfold okT at b; omega
theorem sim_free {M : jT} {x y k : Int} (h : Inv M) (rx : rg x) (ry : rg y) (rk : rg k) : wp_X10_free M 0 x y k (fun v M1 => OKq (wp_X11_free M1 608 x y k) v) (fun e M1 => EXq (wp_X11_free M1 608 x y k) [2, 4] e) := by
  have a2 := h.1.1.2.1
  unfold wp_X10_free
  refine ⟨(pgd rx).2.2.2.2.1, fun t => t = b2i ((-2000 ≤ x ∧ x ≤ 16832719) ∧ (-2000 ≤ y ∧ y ≤ 16832719) ∧ 1 ≤ k ∧ k ≤ 1440), fun t et => ?_, ¬ ((-2000 ≤ x ∧ x ≤ 16832719) ∧ (-2000 ≤ y ∧ y ≤ 16832719) ∧ 1 ≤ k ∧ k ≤ 1440), fun q => (b2i_f q).symm, fun q z => q z.1, fun q => ⟨(pgd ry).2.2.2.2.1, fun q2 z => q2 z.2.1, fun q2 => ⟨rk, fun q3 => by omega, fun q3 => ⟨fun q4 => by omega, fun q4 => (b2i_t ⟨q, q2, q3, q4⟩).symm⟩⟩⟩⟩
  rw [et]
  refine na (fun c => ?_) (fun c => ⟨by decide, ?_⟩)
  · obtain ⟨cx, cy, ck⟩ := c
    simp only [Int.zero_add]
    refine cc_listBeginnings h.1 h.2.1 ⟨by omega, by omega⟩ fun M1 f1 hC1 hK C1 => ?_
    have e1 : M1 609 = M 609 := f1 609 (by omega)
    have h1 : Inv M1 := h.c f1 hC1
    have hle := nBm_le (fr := x - 1440) h.1.1 (M 609 1).toNat (by omega)
    generalize hN : nBm (M 609) (x - 1440) (M 609 1).toNat = N at C1 hle
    have hrow : ∀ (r : Int → Int), (∀ v, cnt r N v = cBm (M 609) (x - 1440) (M 609 1).toNat v) → ∀ j : Int, 0 ≤ j → j < (N : Int) → ∃ m o : Int, (0 ≤ m ∧ m < M 609 1) ∧ (0 ≤ o ∧ o < nD (msl (M 609) m)) ∧ En (M 609) (x - 1440) m o ∧ KB m o (bO (M 609) m o) = r j ∧ m < 10 ∧ o < 40 ∧ -960 ≤ bO (M 609) m o ∧ bO (M 609) m o ≤ 16833000 := fun r hr j j0 j1 => by
      refine cBm_rng h.1.1 hK ?_
      rw [← hr]
      exact cnt_pos.mpr ⟨j.toNat, by omega, by rw [Int.toNat_of_nonneg j0]⟩
    have hdur : ∀ m, 0 ≤ m → m < M 609 1 → 1 ≤ msl (M 609) m 3 ∧ msl (M 609) m 3 ≤ 1440 := fun m m0 m1 => (h.1.1.2.2.2 m m0 m1).1.2.2.1
    refine sp_sortKeys_b (M := M1) (a0 := 607) (a1 := (N : Int)) (by omega) (fun j j0 j1 => ?_) fun M2 F2 S2 P2 => ?_
    · obtain ⟨m, o, _, ho, _, hk, _, _, hb, hb2⟩ := hrow _ C1 j j0 j1
      rw [← hk]; unfold KB; exact ⟨by omega, by omega⟩
    · have C2 : ∀ v, cnt (M2 607) N v = cBm (M 609) (x - 1440) (M 609 1).toNat v := fun v => by
        have := P2 v
        rw [show ((N : Nat) : Int).toNat = N by omega] at this
        rw [this]; exact C1 v
      have h2 : Inv M2 := h1.c (fun a ha => F2 a (by omega)) (h1.2.1.mv h1.1 (F2 609 (by omega)) (fun a _ _ => F2 a (by omega)))
      have e2 : M2 609 = M 609 := by rw [F2 609 (by omega), e1]
      -- the reference
      have ref : ∀ {Q : Int → jT → Prop}, (∀ t, x ≤ t → Feas (M 609) k t → Low (M 609) k x t → ∀ M4, Inv M4 → M4 608 0 = 0 → (t + k ≤ y → Q t M4) ∧ (y < t + k → wp_X11_raises M4 608 2 Q)) → wp_X11_free M2 608 x y k Q := by
        intro Q kq
        unfold wp_X11_free
        simp only [Int.reduceAdd]
        refine th0 h2 fun M3 h3 e3 t3 => ⟨(pgr rx).2.1, False, fun q => q.elim, fun q => q cx, fun _ => ⟨(pgr ry).2.1, fun q => q cy, fun _ => ⟨pg_in rk ⟨by omega, by omega⟩ ⟨by omega, by omega⟩, fun _ => ?_, fun q => q ck⟩⟩⟩
        refine rc_entersAll h3 ⟨by omega, by omega⟩ fun M4 h4 e4 t4 n4 E4 C4 S4 => ?_
        rw [e3, e2] at n4 E4 C4 S4 e4
        have hle4 := nBm_le (fr := -2000) h.1.1 (M 609 1).toNat (by omega)
        generalize hN4 : nBm (M 609) (-2000) (M 609 1).toNat = N4 at n4 E4 C4 S4 hle4
        have hent : ∀ j : Int, 0 ≤ j → j < (N4 : Int) → ∃ m o : Int, (0 ≤ m ∧ m < M 609 1) ∧ (0 ≤ o ∧ o < nD (msl (M 609) m)) ∧ tk (M 609) m o ∧ M4 629 j = 100 * m + o ∧ M4 628 j = bO (M 609) m o ∧ m < 10 ∧ o < 40 ∧ -960 ≤ bO (M 609) m o ∧ bO (M 609) m o ≤ 16833000 := fun j j0 j1 => by
          obtain ⟨m, o, q1, q2, q3, q4, q5, q6, q7, q8⟩ := cBm_rng h.1.1 hK (by rw [← C4]; exact cnt_pos.mpr ⟨j.toNat, by omega, rfl⟩ : 0 < cBm (M 609) (-2000) (M 609 1).toNat (kBr M4 ((j.toNat : Nat) : Int)))
          rw [Int.toNat_of_nonneg j0] at q4
          have := kBr_dec E4 ⟨j0, j1⟩ ⟨q1.1, q5⟩ ⟨q2.1, q6⟩ q4.symm
          exact ⟨m, o, q1, q2, q3.1, this.1, this.2, q5, q6, q7, q8⟩
        have hall : ∀ t, (∀ j : Int, 0 ≤ j → j < (N4 : Int) → okT (M 609) k (M4 629 j / 100) (M4 628 j) t) → Feas (M 609) k t := by
          intro t ht m o m0 m1 o0 o1 htk
          have hb := bO_rng (i := o) h.1.1 ⟨m0, m1⟩ (hK m m0 m1)
          have hnd := nD_rng (h.1.1.2.2.2 m m0 m1).1
          have hb1 := htk.1
          have : 0 < cBm (M 609) (-2000) (M 609 1).toNat (KB m o (bO (M 609) m o)) := by
            refine (cBm_mem _).mpr ⟨m.toNat, o.toNat, by omega, ?_, ?_, ?_⟩
            · rw [Int.toNat_of_nonneg m0]; omega
            · rw [Int.toNat_of_nonneg m0, Int.toNat_of_nonneg o0]; exact ⟨htk, by omega⟩
            · rw [Int.toNat_of_nonneg m0, Int.toNat_of_nonneg o0]
          rw [← C4] at this
          obtain ⟨j, j1, j2⟩ := cnt_pos.mp this
          have hd := kBr_dec E4 (i := j) ⟨by omega, by omega⟩ ⟨m0, by omega⟩ ⟨o0, by omega⟩ j2
          have := ht j (by omega) (by omega)
          rw [hd.1, hd.2, show (100 * m + o) / 100 = m by omega] at this
          exact this
        refine ⟨fun n t g => x ≤ t ∧ t ≤ 16840000 ∧ Low (M 609) k x t ∧ (g = 0 ∨ g = 1) ∧ (g = 0 → Feas (M 609) k t) ∧ (16840000 - t).toNat * 2 + g.toNat ≤ n, ⟨(16840000 - x).toNat * 2 + 1, by omega, by omega, fun t' q _ => q, Or.inr rfl, fun q => by omega, by omega⟩, ?_⟩
        rintro n83 x80 x81 ⟨i1, i2, i3, i4, i5, i6⟩
        refine ⟨by rcases i4 with q | q <;> exact ⟨by omega, by omega⟩, fun q => ?_, fun q => ?_⟩
        · obtain ⟨q1, q2⟩ := kq x80 i1 (i5 q) i3 M4 h4 (by rw [t4, t3])
          exact ⟨Q, fun _ _ q => q, ⟨by omega, by omega⟩, ry, q2, q1⟩
        · rw [n4]
          refine ⟨fun n t g i => 0 ≤ i ∧ i ≤ (N4 : Int) ∧ ((N4 : Int) - i).toNat ≤ n ∧ x80 ≤ t ∧ t ≤ 16840000 ∧ Low (M 609) k x t ∧ (g = 0 ∨ g = 1) ∧ (g = 0 → t = x80 ∧ ∀ j : Int, 0 ≤ j → j < i → okT (M 609) k (M4 629 j / 100) (M4 628 j) t) ∧ (g = 1 → x80 < t), ⟨N4, by omega, by omega, by omega, Int.le_refl _, i2, i3, Or.inl rfl, fun _ => ⟨rfl, fun j a b => by omega⟩, fun z => by omega⟩, ?_⟩
          rintro n103 x99 x100 x101 ⟨j0, j1, j2, j3, j4, j5, j6, j7, j8⟩
          refine ⟨⟨by omega, by omega⟩, ⟨by omega, by omega⟩, fun q3 => ?_, fun q3 => ⟨by omega, ?_⟩⟩
          · refine ⟨(16840000 - x99).toNat * 2 + x100.toNat, ?_, by omega, j4, j5, j6, fun z => hall _ (fun j a b => (j7 z).2 j a (by omega)), Nat.le_refl _⟩
            rcases j6 with z | z
            · have := (j7 z).1; omega
            · have := j8 z; omega
          · obtain ⟨m, o, hm, ho, htk, g1, g2, g3, g4, g5, g6⟩ := hent x101 j0 q3
            have hd := hdur m hm.1 hm.2
            have ed : pf_X11_durationOf M4 608 (M4 629 x101) = msl (M 609) m 3 := by
              unfold pf_X11_durationOf
              rw [g1, show (100 * m + o) / 100 = m by omega, mAt, msl_at (by omega), show (608 : Int) + 1 = 609 from rfl, e4]
            refine ⟨by unfold pg_X11_durationOf; rw [g1, mAt]; exact ⟨by omega, by omega, trivial⟩, ?_⟩
            rw [ed, g2]
            intro x112 e112
            refine ⟨⟨⟨by omega, by omega⟩, ⟨by omega, by omega⟩, fun _ => trivial, fun _ => ⟨⟨by omega, by omega⟩, ⟨by omega, by omega⟩, fun _ => trivial, fun _ => trivial⟩⟩, ?_⟩
            intro x119 a1' a2' a3' x120 b1' b2' b3' x128 e128
            by_cases z1 : x99 + k ≤ bO (M 609) m o
            · rw [a1' z1, b1' z1]
              refine ⟨((N4 : Int) - x128).toNat, by omega, by omega, by omega, by omega, j3, j4, j5, j6, fun z => ⟨(j7 z).1, fun j a b => ?_⟩, j8⟩
              by_cases z2 : j = x101
              · rw [z2, g1, g2, show (100 * m + o) / 100 = m by omega]; exact Or.inl z1
              · exact (j7 z).2 j a (by omega)
            · by_cases z2 : x99 < x112
              · rw [a2' ⟨by omega, z2⟩, b2' ⟨by omega, z2⟩]
                have hl := j5.step (by omega) hm ho htk (by omega)
                rw [show max x99 (bO (M 609) m o + msl (M 609) m 3) = x112 by omega] at hl
                exact ⟨((N4 : Int) - x128).toNat, by omega, by omega, by omega, by omega, by omega, by omega, hl, Or.inr rfl, fun z => by omega, fun _ => by omega⟩
              · rw [a3' ⟨by omega, by omega⟩, b3' ⟨by omega, by omega⟩]
                refine ⟨((N4 : Int) - x128).toNat, by omega, by omega, by omega, by omega, j3, j4, j5, j6, fun z => ⟨(j7 z).1, fun j a b => ?_⟩, j8⟩
                by_cases z3 : j = x101
                · rw [z3, g1, g2, show (100 * m + o) / 100 = m by omega]; exact Or.inr (by omega)
                · exact (j7 z).2 j a (by omega)
      -- the class
      refine ⟨fun n t i => 0 ≤ i ∧ i ≤ (N : Int) ∧ ((N : Int) - i).toNat ≤ n ∧ x ≤ t ∧ t ≤ 16840000 ∧ Low (M 609) k x t ∧ (∀ j : Int, 0 ≤ j → j < i → ∀ m o, 0 ≤ m → m < 10 → 0 ≤ o → o < 40 → KB m o (bO (M 609) m o) = M2 607 j → okT (M 609) k m (bO (M 609) m o) t), ⟨N, by omega, by omega, by omega, Int.le_refl _, by omega, fun t' q _ => q, fun j a b => by omega⟩, ?_⟩
      rintro n32 x29 x30 ⟨i0, i1, i2, i3, i4, i5, i6⟩
      refine ⟨⟨by omega, by omega⟩, ⟨by omega, by omega⟩, fun q => ?_, fun q => ⟨by omega, ?_⟩⟩
      · have hfe : Feas (M 609) k x29 := by
          intro m o m0 m1 o0 o1 htk
          have hb := bO_rng (i := o) h.1.1 ⟨m0, m1⟩ (hK m m0 m1)
          have hnd := nD_rng (h.1.1.2.2.2 m m0 m1).1
          have hd := hdur m m0 m1
          have hb1 := htk.1
          by_cases z : x - 1440 ≤ bO (M 609) m o
          · have : 0 < cBm (M 609) (x - 1440) (M 609 1).toNat (KB m o (bO (M 609) m o)) := by
              refine (cBm_mem _).mpr ⟨m.toNat, o.toNat, by omega, ?_, ?_, ?_⟩
              · rw [Int.toNat_of_nonneg m0]; omega
              · rw [Int.toNat_of_nonneg m0, Int.toNat_of_nonneg o0]; exact ⟨htk, z⟩
              · rw [Int.toNat_of_nonneg m0, Int.toNat_of_nonneg o0]
            rw [← C2] at this
            obtain ⟨j, j1, j2⟩ := cnt_pos.mp this
            exact i6 j (by omega) (by omega) m o m0 (by omega) o0 (by omega) j2.symm
          · unfold okT; omega
        refine ⟨⟨⟨by omega, by omega⟩, ry, fun _ => trivial, fun _ => trivial⟩, ne' (fun z => ?_) (fun z => ⟨by decide, ?_⟩)⟩
        · refine ref fun t t0 tF tL M4 h4 t4 => ⟨fun _ => ⟨t4, ?_, h4⟩, fun z2 => ?_⟩
          · have := tL x29 i3 hfe; have := i5 t t0 tF; omega
          · have := tL x29 i3 hfe; have := i5 t t0 tF; omega
        · refine ref fun t t0 tF tL M4 h4 t4 => ⟨fun z2 => ?_, fun _ => rs h4 fun M5 h5 t5 => ⟨by rw [t5]; rfl, h5⟩⟩
          have := tL x29 i3 hfe; have := i5 t t0 tF; omega
      · obtain ⟨m, o, hm, ho, hen, hk, m9, o39, hb, hb2⟩ := hrow _ C2 x30 i0 q
        have hd := KB_dec (m := m) (o := o) (b := bO (M 609) m o) ⟨hm.1, m9⟩ ⟨ho.1, o39⟩
        have hdu := hdur m hm.1 hm.2
        rw [hk] at hd
        have hkb : 0 ≤ M2 607 x30 ∧ M2 607 x30 < 9223372036854775808 := by rw [← hk]; unfold KB; omega
        refine ⟨hkb, ?_⟩
        intro x48 e48
        have e48 : x48 = bO (M 609) m o := by omega
        refine ⟨by omega, ?_⟩
        intro x50 e50
        have e50 : x50 = m := by omega
        have hge2 := (h2.gq (m := m) (by rw [e2]; exact hm)).1
        rw [e2] at hge2
        rw [e50, e48, hge2.1 3 (by omega) (by omega)]
        have old : ∀ t, x29 ≤ t → (∀ j : Int, 0 ≤ j → j < x30 → ∀ m' o', 0 ≤ m' → m' < 10 → 0 ≤ o' → o' < 40 → KB m' o' (bO (M 609) m' o') = M2 607 j → okT (M 609) k m' (bO (M 609) m' o') x29) → (bO (M 609) m o < x29 + k ∨ t = x29) → ∀ j : Int, 0 ≤ j → j < x30 → ∀ m' o', 0 ≤ m' → m' < 10 → 0 ≤ o' → o' < 40 → KB m' o' (bO (M 609) m' o') = M2 607 j → okT (M 609) k m' (bO (M 609) m' o') t := by
          intro t ht hj hbt j a b m' o' p1 p2 p3 p4 p5
          have q1 := hj j a b m' o' p1 p2 p3 p4 p5
          have q2 := S2 j x30 a b q
          rw [← p5, ← hk] at q2
          unfold okT at q1 ⊢; unfold KB at q2
          omega
        refine ⟨fun t => x ≤ t ∧ t ≤ 16840000 ∧ Low (M 609) k x t ∧ (∀ j : Int, 0 ≤ j → j < x30 + 1 → ∀ m o, 0 ≤ m → m < 10 → 0 ≤ o → o < 40 → KB m o (bO (M 609) m o) = M2 607 j → okT (M 609) k m (bO (M 609) m o) t), ?_, ⟨by omega, by omega⟩, ⟨by omega, by omega⟩, fun z => ?_, fun z => ⟨by omega, ⟨by omega, by omega⟩, ⟨by omega, by omega⟩, ?_⟩⟩
        · rintro t ⟨k1, k2, k3, k4⟩
          intro x61 e61
          rw [← e61] at k4
          exact ⟨((N : Int) - x61).toNat, by omega, by omega, by omega, by omega, k1, k2, k3, k4⟩
        · refine ⟨i3, i4, i5, fun j a b m' o' p1 p2 p3 p4 p5 => ?_⟩
          by_cases q3 : j = x30
          · rw [q3, ← hk] at p5
            have : bO (M 609) m' o' = bO (M 609) m o := by unfold KB at p5; omega
            rw [this]; exact Or.inl z
          · exact old x29 (Int.le_refl _) i6 (Or.inr rfl) j a (by omega) m' o' p1 p2 p3 p4 p5
        · intro x70 e70
          refine ⟨by omega, by omega, by rw [e70]; exact i5.step i3 hm ho hen.1 z, fun j a b m' o' p1 p2 p3 p4 p5 => ?_⟩
          by_cases q3 : j = x30
          · rw [q3, ← hk] at p5
            have e1 : bO (M 609) m' o' = bO (M 609) m o := by unfold KB at p5; omega
            have e2 : m' = m := by unfold KB at p5; omega
            rw [e1, e2]; unfold okT; omega
          · exact old x70 (by omega) i6 (Or.inl z) j a (by omega) m' o' p1 p2 p3 p4 p5
  · unfold wp_X11_free
    refine th0 h fun M3 h3 e3 t3 => ⟨(pgr rx).2.1, True, fun _ => rs h3 fun M4 h4 t4 => ⟨by rw [t4]; rfl, h4⟩, fun _ => trivial, fun q => ⟨(pgr ry).2.1, fun _ => trivial, fun q2 => ⟨pg_in rk ⟨by omega, by omega⟩ ⟨by omega, by omega⟩, fun q3 => absurd ⟨q, q2, q3⟩ c, fun _ => trivial⟩⟩⟩
noncomputable def sD (A : Int → Int) : Nat → Int
  | 0 => 0
  | n + 1 => sD A n + nD (msl A n)
noncomputable def sT (A : Int → Int) : Nat → Int
  | 0 => 0
  | n + 1 => sT A n + nTk A n (nD (msl A n)).toNat
theorem sim_count {M : jT} {w : Int} (h : Inv M) (rw' : rg w) : wp_X10_count M 0 w (fun v M1 => OKq (wp_X11_count M1 608 w) v) (fun e M1 => EXq (wp_X11_count M1 608 w) [2] e) := by
  have a1 := h.1.1.1
  have a2 := h.1.1.2.1
  have e0 := h.1.2.1
  have e1' := h.1.2.2.1
  unfold wp_X10_count
  simp only [Int.zero_add]
  refine ⟨fun x => x = b2i (0 ≤ w ∧ w ≤ 5), fun x ex => ?_, ¬ (0 ≤ w ∧ w ≤ 5), fun q => (b2i_f q).symm, rw', fun q => by omega, fun q1 => ⟨fun q => by omega, fun q2 => (b2i_t ⟨q1, q2⟩).symm⟩⟩
  rw [ex]
  refine na (fun c => ?_) (fun c => ⟨by decide, ?_⟩)
  · have ref : ∀ (M1 : jT) (v : Int), Inv M1 → M1 609 = M 609 → (w = 0 → v = M 609 0) → (w = 1 → v = M 609 1) → (w = 2 → v = sD (M 609) (M 609 1).toNat) → (w = 3 → v = sT (M 609) (M 609 1).toNat) → (w = 4 → v = M1 608 3) → (w = 5 → v = M1 608 8) → OKq (wp_X11_count M1 608 w) v := by
      intro M1 v h1 e1 g0 g1 g2 g3 g4 g5
      unfold OKq wp_X11_count
      simp only [Int.reduceAdd]
      refine up_in fun M2 hh2 => ?_
      obtain ⟨h2, e2, t2⟩ := h1.t hh2
      have c3 : M2 608 3 = M1 608 3 := by rw [hh2, if_neg (by omega)]
      have c8 : M2 608 8 = M1 608 8 := by rw [hh2, if_neg (by omega)]
      refine ⟨rw', fun q => ⟨by omega, t2, by rw [e2, e1, g0 q, q], h2⟩, fun q => ⟨by omega, t2, by rw [e2, e1, g1 q, q], h2⟩, fun q => ?_, fun q => ?_, fun q => ⟨t2, by rw [c3, g4 q], h2⟩, fun q => ⟨t2, by rw [c8, g5 q], h2⟩, fun q => by omega⟩
      · refine ⟨fun n s y M8 => ∃ m : Nat, y = m ∧ (m : Int) ≤ M 609 1 ∧ (M 609 1 - m).toNat ≤ n ∧ s = sD (M 609) m ∧ Inv M8 ∧ M8 609 = M 609 ∧ M8 608 0 = 0, ⟨(M 609 1).toNat, 0, rfl, by omega, by omega, rfl, h2, by rw [e2, e1], t2⟩, ?_⟩
        rintro n10 x6 x7 M8 ⟨m, rfl, m1, m2, es, h8, e8, t8⟩
        rw [e8]
        refine ⟨⟨by omega, by omega⟩, ⟨by omega, by omega⟩, fun z => ?_, fun z => ?_⟩
        · have em : m = (M 609 1).toNat := by omega
          exact ⟨t8, by rw [es, g2 q, em], h8⟩
        · refine rc_lists h8.1.1 h8.2.2.1 (by rw [e8]; exact ⟨by omega, z⟩) fun M15 hR f hl => ?_
          obtain ⟨i1, i2, i3⟩ := h8.rr f.rf hR
          rw [hl.1, e8]
          intro x16 e16 x17 e17
          exact ⟨(M 609 1 - (m + 1)).toNat, by omega, m + 1, by omega, by omega, by omega, by rw [e16, es]; rfl, i1, by rw [i2, e8], by rw [i3, t8]⟩
      · refine ⟨fun n s y M8 => ∃ m : Nat, y = m ∧ (m : Int) ≤ M 609 1 ∧ (M 609 1 - m).toNat ≤ n ∧ s = sT (M 609) m ∧ Inv M8 ∧ M8 609 = M 609 ∧ M8 608 0 = 0, ⟨(M 609 1).toNat, 0, rfl, by omega, by omega, rfl, h2, by rw [e2, e1], t2⟩, ?_⟩
        rintro n10 x6 x7 M8 ⟨m, rfl, m1, m2, es, h8, e8, t8⟩
        rw [e8]
        refine ⟨⟨by omega, by omega⟩, ⟨by omega, by omega⟩, fun z => ?_, fun z => ?_⟩
        · have em : m = (M 609 1).toNat := by omega
          exact ⟨t8, by rw [es, g3 q, em], h8⟩
        · refine rc_placed h8.1.1 h8.2.2.1 (by rw [e8]; exact ⟨by omega, z⟩) fun M15 hR f _ => ?_
          obtain ⟨i1, i2, i3⟩ := h8.rr f hR
          rw [e8]
          intro x29 e29 x30 e30
          exact ⟨(M 609 1 - (m + 1)).toNat, by omega, m + 1, by omega, by omega, by omega, by rw [e29, es]; rfl, i1, by rw [i2, e8], by rw [i3, t8]⟩
    refine ⟨rw', fun q => ref M _ h rfl (fun _ => e0) (by omega) (by omega) (by omega) (by omega) (by omega), fun q => ref M _ h rfl (by omega) (fun _ => e1') (by omega) (by omega) (by omega) (by omega), fun q => ?_, fun q => ?_, fun q => ref M _ h rfl (by omega) (by omega) (by omega) (by omega) (fun _ => h.2.2.2.1.1.1) (by omega), fun q => ref M _ h rfl (by omega) (by omega) (by omega) (by omega) (by omega) (fun _ => h.2.2.2.2.1.1)⟩
    · unfold wp_X10_countOccurrences
      simp only [Int.zero_add]
      refine ⟨fun n s y M8 => ∃ m : Nat, y = m ∧ (m : Int) ≤ M 609 1 ∧ (M 609 1 - m).toNat ≤ n ∧ s = sD (M 609) m ∧ Inv M8 ∧ M8 609 = M 609, ⟨(M 609 1).toNat, 0, rfl, by omega, by omega, rfl, h, rfl⟩, ?_⟩
      rintro n10 x6 x7 M8 ⟨m, rfl, m1, m2, es, h8, e8⟩
      rw [h8.1.2.2.1, e8]
      refine ⟨⟨by omega, by omega⟩, ⟨by omega, by omega⟩, fun z => ?_, fun z => ?_⟩
      · have em : m = (M 609 1).toNat := by omega
        exact ref M8 _ h8 e8 (by omega) (by omega) (fun _ => by rw [es, em]) (by omega) (by omega) (by omega)
      · refine cc_laidOut h8.1 h8.2.1 (by rw [e8]; exact ⟨by omega, z⟩) fun M9 f hC h0 hP => ?_
        rw [hP.1, e8]
        intro x11 e11 x12 e12
        exact ⟨(M 609 1 - (m + 1)).toNat, by omega, m + 1, by omega, by omega, by omega, by rw [e11, es]; rfl, h8.c f.to7 hC, by rw [f 609 (by omega), e8]⟩
    · unfold wp_X10_countTaking
      simp only [Int.zero_add]
      refine ⟨fun n s y M8 => ∃ m : Nat, y = m ∧ (m : Int) ≤ M 609 1 ∧ (M 609 1 - m).toNat ≤ n ∧ s = sT (M 609) m ∧ Inv M8 ∧ M8 609 = M 609, ⟨(M 609 1).toNat, 0, rfl, by omega, by omega, rfl, h, rfl⟩, ?_⟩
      rintro n10 x6 x7 M8 ⟨m, rfl, m1, m2, es, h8, e8⟩
      rw [h8.1.2.2.1, e8]
      refine ⟨⟨by omega, by omega⟩, ⟨by omega, by omega⟩, fun z => ?_, fun z => ?_⟩
      · have em : m = (M 609 1).toNat := by omega
        exact ref M8 _ h8 e8 (by omega) (by omega) (by omega) (fun _ => by rw [es, em]) (by omega) (by omega)
      · refine cc_timed h8.1 h8.2.1 (by rw [e8]; exact ⟨by omega, z⟩) fun M9 f hC h0 h1 hP hT hK => ⟨by omega, ?_⟩
        have e9 : M9 609 = M 609 := (f 609 (by omega)).trans e8
        rw [e8] at hP hT hK
        refine cc_countTaking (f.d1 h8.1) (by rw [e9]; exact ⟨by omega, z⟩) (by rw [e9]; exact hP) (by rw [e9]; exact hT) (by rw [e9]; exact hK) ?_
        rw [e9]
        intro x11 e11 x12 e12
        exact ⟨(M 609 1 - (m + 1)).toNat, by omega, m + 1, by omega, by omega, by omega, by rw [e11, es]; rfl, h8.c f.to7 hC, e9⟩
  · unfold wp_X11_count
    exact th0 h fun M2 h2 e2 t2 => ⟨rw', fun q => by omega, fun q => by omega, fun q => by omega, fun q => by omega, fun q => by omega, fun q => by omega, fun q => rs h2 fun M3 h3 t3 => ⟨by rw [t3]; rfl, h3⟩⟩
