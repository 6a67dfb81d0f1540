/-! clash -/
noncomputable abbrev Cl (A : Int → Int) (a b o p : Int) : Prop := (0 ≤ o ∧ o < nD (msl A a) ∧ tk A a o) ∧ (0 ≤ p ∧ p < nD (msl A b) ∧ tk A b p) ∧ (a = b → o < p) ∧ bO A a o < bO A b p + msl A b 3 ∧ bO A b p < bO A a o + msl A a 3
def ClR (A : Int → Int) (a b r : Int) : Prop := (r = -1 ∧ ∀ o p, ¬ Cl A a b o p) ∨ (0 ≤ r ∧ (∃ o p, Cl A a b o p ∧ 100 * o + p = r) ∧ ∀ o p, Cl A a b o p → r ≤ 100 * o + p)
theorem ClR.uniq {A : Int → Int} {a b r s : Int} (h : ClR A a b r) (g : ClR A a b s) : r = s := by
  rcases h with ⟨h1, h2⟩ | ⟨h1, ⟨o, p, h2, h3⟩, h4⟩
  · rcases g with ⟨g1, g2⟩ | ⟨g1, ⟨o', p', g2, g3⟩, g4⟩
    · omega
    · exact absurd g2 (h2 o' p')
  · rcases g with ⟨g1, g2⟩ | ⟨g1, ⟨o', p', g2, g3⟩, g4⟩
    · exact absurd h2 (g2 o p)
    · have q1 := h4 o' p' g2
      have q2 := g4 o p h2
      omega
theorem sp_firstClash {M : jT} {a b o : Int} {Q : Int → Prop} (h : Inv M) (ha : 0 ≤ a ∧ a < M 609 1) (hb : 0 ≤ b ∧ b < M 609 1) (hTa : TM M (M 609) a) (hPb : PL M (3 * b + 570) (msl (M 609) b)) (hTb : TM M (M 609) b) (hKa : LK (zsl (M 609) (msl (M 609) a 0))) (hKb : LK (zsl (M 609) (msl (M 609) b 0))) (ho : 0 ≤ o ∧ o < nD (msl (M 609) a)) (hto : tk (M 609) a o)
    (kk : ∀ r, (r = -1 ∧ ∀ p, ¬ Cl (M 609) a b o p) ∨ (0 ≤ r ∧ Cl (M 609) a b o r ∧ ∀ p, Cl (M 609) a b o p → r ≤ p) → Q r) : wp_X10_firstClash M 0 a o b Q := by
  have a2 := h.1.1.2.1
  obtain ⟨ga, gao⟩ := h.gq ha
  obtain ⟨gb, gbo⟩ := h.gq hb
  have hna := nD_rng gao
  have hnb := nD_rng gbo
  have da := ga.1 3 (by omega) (by omega)
  have db := gb.1 3 (by omega) (by omega)
  have da' := gao.2.2.1
  have db' := gbo.2.2.1
  have ra := bO_rng (i := o) h.1.1 ha hKa
  unfold wp_X10_firstClash
  simp only [Int.zero_add]
  rw [hTa o ho.1 ho.2, da, db]
  refine ⟨⟨by omega, by omega⟩, ⟨by omega, by omega⟩, ⟨by omega, by omega⟩, fun x7 e7 x9 e9 => ⟨⟨⟨by omega, by omega⟩, ⟨by omega, by omega⟩, fun _ => trivial, fun _ => trivial⟩, fun x13 g1 g2 => ?_⟩⟩
  have hx : 0 ≤ x13 ∧ x13 ≤ nD (msl (M 609) b) ∧ ∀ p, Cl (M 609) a b o p → x13 ≤ p := by
    by_cases q : a = b
    · have e := g2 q
      refine ⟨by omega, by rw [← q]; omega, fun p hp => ?_⟩
      have := hp.2.2.1 q
      omega
    · have e := g1 q
      exact ⟨by omega, by omega, fun p hp => by have := hp.2.1.1; omega⟩
  refine ⟨fun n x => x13 ≤ x ∧ x ≤ nD (msl (M 609) b) ∧ (nD (msl (M 609) b) - x).toNat ≤ n ∧ ∀ p, Cl (M 609) a b o p → x ≤ p, ⟨(nD (msl (M 609) b)).toNat, by omega, hx.2.1, by omega, hx.2.2⟩, ?_⟩
  rintro n x ⟨i1, i2, i3, i4⟩
  rw [hPb.1]
  refine ⟨⟨by omega, by omega⟩, ⟨by omega, by omega⟩, fun q => kk _ (Or.inl ⟨rfl, fun p hp => ?_⟩), fun q => ?_⟩
  · have := i4 p hp
    have := hp.2.1.2.1
    omega
  · have x0 : 0 ≤ x := by omega
    obtain ⟨t1, t2, t3, t4⟩ := c_tk h.1 hb hTb (o := x) ⟨x0, q⟩ hKb
    have rb := bO_rng (i := x) h.1.1 hb hKb
    rw [hTb x x0 q]
    refine ⟨t1, ¬ Cl (M 609) a b o x, fun z y ey => ⟨(nD (msl (M 609) b) - y).toNat, by omega, by omega, by omega, by omega, fun p hp => ?_⟩, fun z c => z (t2.mpr c.2.1.2.2), fun z => ⟨⟨x0, by omega⟩, ⟨by omega, by omega⟩, ⟨by omega, by omega⟩, fun z2 c => ?_, fun z2 => ⟨⟨by omega, by omega⟩, ⟨by omega, by omega⟩, fun z3 c => ?_, fun z3 => ?_⟩⟩⟩
    · have := i4 p hp
      by_cases e : p = x
      · rw [e] at hp; exact absurd hp z
      · omega
    · have := c.2.2.2.2; omega
    · have := c.2.2.2.1; omega
    · refine kk x (Or.inr ⟨x0, ⟨⟨ho.1, ho.2, hto⟩, ⟨x0, q, t2.mp z⟩, fun e => ?_, by omega, by omega⟩, i4⟩)
      have := g2 e; omega
theorem ent {M : jT} {A : Int → Int} {a b n fr : Int} (E : EnOk M n) (h0 : 0 ≤ n) (ha : 0 ≤ a ∧ a < 10) (hb : 0 ≤ b ∧ b < 10) (na : nD (msl A a) ≤ 40) (nb : nD (msl A b) ≤ 40) (C : ∀ v, cnt (kBr M) n.toNat v = cBo A fr a (nD (msl A a)).toNat v + (if a = b then 0 else cBo A fr b (nD (msl A b)).toNat v)) :
    (∀ i, 0 ≤ i → i < n → ∃ m o, (m = a ∨ m = b) ∧ 0 ≤ o ∧ o < nD (msl A m) ∧ En A fr m o ∧ M 629 i = 100 * m + o ∧ M 628 i = bO A m o) ∧ (∀ m o, (m = a ∨ m = b) → 0 ≤ o → o < nD (msl A m) → En A fr m o → ∃ i, 0 ≤ i ∧ i < n ∧ M 629 i = 100 * m + o ∧ M 628 i = bO A m o) := by
  have one : ∀ m i, 0 ≤ i → i < n → (m = a ∨ m = b) → 0 < cBo A fr m (nD (msl A m)).toNat (kBr M i) → ∃ m o, (m = a ∨ m = b) ∧ 0 ≤ o ∧ o < nD (msl A m) ∧ En A fr m o ∧ M 629 i = 100 * m + o ∧ M 628 i = bO A m o := by
    intro m i i0 i1 hm hc
    obtain ⟨o, o1, o2, o3⟩ := (cBo_mem _).mp hc
    have hno : nD (msl A m) ≤ 40 ∧ 0 ≤ m ∧ m < 10 := by rcases hm with rfl | rfl <;> omega
    have hd := kBr_dec E ⟨i0, i1⟩ (m := m) (o := o) (v := bO A m o) hno.2 (by omega) o3.symm
    exact ⟨m, o, hm, by omega, by omega, o2, hd.1, hd.2⟩
  refine ⟨fun i i0 i1 => ?_, fun m o hm o0 o1 he => ?_⟩
  · have hp : 0 < cnt (kBr M) n.toNat (kBr M i) := cnt_pos.mpr ⟨i.toNat, by omega, by rw [Int.toNat_of_nonneg i0]⟩
    rw [C] at hp
    by_cases q : 0 < cBo A fr a (nD (msl A a)).toNat (kBr M i)
    · exact one a i i0 i1 (Or.inl rfl) q
    · by_cases e : a = b
      · rw [if_pos e] at hp; omega
      · rw [if_neg e] at hp; exact one b i i0 i1 (Or.inr rfl) (by omega)
  · have hc : 0 < cBo A fr m (nD (msl A m)).toNat (KB m o (bO A m o)) := (cBo_mem _).mpr ⟨o.toNat, by omega, by rw [Int.toNat_of_nonneg o0]; exact he, by rw [Int.toNat_of_nonneg o0]⟩
    have hp : 0 < cnt (kBr M) n.toNat (KB m o (bO A m o)) := by
      rw [C]
      rcases hm with rfl | rfl
      · omega
      · by_cases e : a = m
        · rw [e]; omega
        · rw [if_neg e]; omega
    have hno : nD (msl A m) ≤ 40 ∧ 0 ≤ m ∧ m < 10 := by rcases hm with rfl | rfl <;> omega
    obtain ⟨i, i1, i2⟩ := cnt_pos.mp hp
    have hd := kBr_dec E (i := i) ⟨by omega, by omega⟩ (m := m) (o := o) (v := bO A m o) hno.2 (by omega) i2
    exact ⟨i, by omega, by omega, hd.1, hd.2⟩
/-- the best of the pairs so far -/
def BB (v : Int → Int → Int) (x : Int) (S : Int → Int → Prop) : Prop := (x = -1 ∧ ∀ i j, ¬ S i j) ∨ (0 ≤ x ∧ x < 10000 ∧ (∃ i j, S i j ∧ v i j = x) ∧ ∀ i j, S i j → x ≤ v i j)
theorem BB.eqv {v : Int → Int → Int} {x : Int} {S T : Int → Int → Prop} (h : BB v x S) (e : ∀ i j, S i j ↔ T i j) : BB v x T := by
  rcases h with ⟨h1, h2⟩ | ⟨h1, h0, ⟨i, j, h2, h3⟩, h4⟩
  · exact Or.inl ⟨h1, fun i j q => h2 i j ((e i j).mpr q)⟩
  · exact Or.inr ⟨h1, h0, ⟨i, j, (e i j).mp h2, h3⟩, fun i j q => h4 i j ((e i j).mpr q)⟩
theorem BB.add {v : Int → Int → Int} {x y r s : Int} {S : Int → Int → Prop} (h : BB v x S) (hv : 0 ≤ v r s ∧ v r s < 10000) (h1 : x < 0 ∨ v r s < x → y = v r s) (h2 : 0 ≤ x → x ≤ v r s → y = x) : BB v y (fun i j => S i j ∨ (i = r ∧ j = s)) := by
  rcases h with ⟨g1, g2⟩ | ⟨g1, g0, ⟨i, j, g2, g3⟩, g4⟩
  · have := h1 (by omega)
    refine Or.inr ⟨by omega, by omega, ⟨r, s, Or.inr ⟨rfl, rfl⟩, this.symm⟩, fun i j q => ?_⟩
    rcases q with q | ⟨rfl, rfl⟩
    · exact absurd q (g2 i j)
    · omega
  · by_cases c : v r s < x
    · have := h1 (Or.inr c)
      refine Or.inr ⟨by omega, by omega, ⟨r, s, Or.inr ⟨rfl, rfl⟩, this.symm⟩, fun i j q => ?_⟩
      rcases q with q | ⟨rfl, rfl⟩
      · have := g4 i j q; omega
      · omega
    · have := h2 g1 (by omega)
      refine Or.inr ⟨by omega, by omega, ⟨i, j, Or.inl g2, by omega⟩, fun i j q => ?_⟩
      rcases q with q | ⟨rfl, rfl⟩
      · have := g4 i j q; omega
      · omega
set_option maxHeartbeats 8000000 in
theorem rf_clash {M : jT} {a b : Int} {Q : Int → jT → Prop} (h : Inv M) (ra : rg a) (rb : rg b) (hK : (0 ≤ a ∧ a < M 609 1) ∧ (0 ≤ b ∧ b < M 609 1) → LK (zsl (M 609) (msl (M 609) a 0)) ∧ LK (zsl (M 609) (msl (M 609) b 0)))
    (k1 : ¬ ((0 ≤ a ∧ a < M 609 1) ∧ (0 ≤ b ∧ b < M 609 1)) → ∀ M4, Inv M4 → M4 608 0 = 1 → Q 0 M4)
    (k2 : (0 ≤ a ∧ a < M 609 1) → (0 ≤ b ∧ b < M 609 1) → ∀ r M4, Inv M4 → M4 608 0 = 0 → ClR (M 609) a b r → Q r M4) : wp_X11_clash M 608 a b Q := by
  unfold wp_X11_clash
  simp only [Int.reduceAdd]
  refine th0 h fun M2 h2 e2 t2 => ⟨h2.pm ra, ¬ ((0 ≤ a ∧ a < M 609 1) ∧ (0 ≤ b ∧ b < M 609 1)), fun q => rs h2 fun M3 h3 t3 => k1 q M3 h3 t3, fun q z => q (mi.mpr (by rw [e2]; exact z.1)), fun q => ⟨h2.pm rb, fun q1 => ?_, fun q1 z => q1 (mi.mpr (by rw [e2]; exact z.2))⟩⟩
  have ha : 0 ≤ a ∧ a < M 609 1 := by rw [← e2]; exact mi.mp q
  have hb : 0 ≤ b ∧ b < M 609 1 := by rw [← e2]; exact mi.mp q1
  obtain ⟨hKa, hKb⟩ := hK ⟨ha, hb⟩
  have a2 := h.1.1.2.1
  have hga := (h.1.1.2.2.2 a ha.1 ha.2).1
  have hgb := (h.1.1.2.2.2 b hb.1 hb.2).1
  have hna := nD_rng hga
  have hnb := nD_rng hgb
  refine up_in fun M3 h3 => ?_
  have F3 : ∀ a, a ≠ 608 → M3 a = M2 a := (fun a ha => funext fun b => by rw [h3 a b, if_neg (by omega)])
  have G3 : ∀ b, b ≠ 36 → M3 608 b = M2 608 b := fun b hb => by rw [h3, if_neg (by omega)]
  obtain ⟨i1, i2, i3⟩ := h2.rr (RFr.of (fun a a1 _ _ => F3 a a1) (G3 _ (by omega)) (G3 _ (by omega)) (G3 _ (by omega)) (G3 _ (by omega)) (G3 _ (by omega)) (G3 _ (by omega))) (h2.2.2.1.mv (F3 _ (by omega)) (fun b hb => G3 b (by omega)) (fun a _ _ => F3 a (by omega)))
  have e3 : M3 609 = M 609 := by rw [i2, e2]
  refine rc_enters (n := 0) (P := False) i1.1.1 i1.2.2.1 (by rw [e3]; exact ha) ⟨by omega, by omega⟩ (by rw [h3, if_pos ⟨rfl, rfl⟩]) (by rw [e3]; omega) (fun i a b => by omega) (fun z => z.elim) fun M4 hR4 f4 n4 E4 C4 _ => ?_
  obtain ⟨j1, j2, j3⟩ := i1.rr f4 hR4
  rw [e3] at n4 E4 C4
  have hle4 := nBo_le (A := M 609) (fr := -2000) (m := a) (nD (msl (M 609) a)).toNat
  have z3 : M4 608 0 = 0 := by rw [j3, i3, t2]
  have e4 : M4 609 = M 609 := by rw [j2, e3]
  have C4' : ∀ v, cnt (kBr M4) ((0 : Int) + (nBo (M 609) (-2000) a (nD (msl (M 609) a)).toNat : Int)).toNat v = cBo (M 609) (-2000) a (nD (msl (M 609) a)).toNat v := fun v => by rw [C4]; simp [cnt]
  refine ⟨fun M5 => Inv M5 ∧ M5 609 = M 609 ∧ M5 608 0 = 0 ∧ ∃ n : Int, M5 608 36 = n ∧ 0 ≤ n ∧ n ≤ 80 ∧ EnOk M5 n ∧ ∀ v, cnt (kBr M5) n.toNat v = cBo (M 609) (-2000) a (nD (msl (M 609) a)).toNat v + (if a = b then 0 else cBo (M 609) (-2000) b (nD (msl (M 609) b)).toNat v), fun M5 ⟨k5, e5, z5, n, n1, n2, n3, E5, C5⟩ => ?_, ra, rb, fun z => ⟨j1, e4, z3, _, n4, by omega, by omega, E4, fun v => by rw [if_pos z, C4', Nat.add_zero]⟩, fun z => ?_⟩
  · obtain ⟨m1, m2⟩ := ent E5 n2 ⟨ha.1, by omega⟩ ⟨hb.1, by omega⟩ hna.2 hnb.2 C5
    have hdur : ∀ m, (m = a ∨ m = b) → 1 ≤ msl (M 609) m 3 ∧ msl (M 609) m 3 ≤ 1440 := fun m hm => by rcases hm with rfl | rfl; exact hga.2.2.1; exact hgb.2.2.1
    have hD : ∀ m o, (m = a ∨ m = b) → 0 ≤ o → o < 40 → pf_X11_durationOf M5 608 (100 * m + o) = msl (M 609) m 3 ∧ pg_X11_durationOf M5 608 (100 * m + o) := by
      intro m o hm o0 o1
      have hm2 : 0 ≤ m ∧ m < 10 := by rcases hm with rfl | rfl <;> omega
      refine ⟨?_, ?_⟩
      · unfold pf_X11_durationOf
        rw [show (100 * m + o) / 100 = m by omega, mAt, msl_at (by omega), show (608 : Int) + 1 = 609 from rfl, e5]
      · unfold pg_X11_durationOf; rw [show (100 * m + o) / 100 = m by omega, mAt]; exact ⟨by omega, by omega, trivial⟩
    have hno : ∀ m, (m = a ∨ m = b) → nD (msl (M 609) m) ≤ 40 ∧ 0 ≤ m ∧ m < 10 := fun m hm => by rcases hm with rfl | rfl <;> omega
    rw [n1]
    refine ⟨fun n' x r => 0 ≤ r ∧ r ≤ n ∧ (n - r).toNat ≤ n' ∧ BB (fun i j => 100 * (M5 629 i % 100) + M5 629 j % 100) x (fun i j => 0 ≤ i ∧ i < r ∧ 0 ≤ j ∧ j < n ∧ M5 629 i / 100 = a ∧ M5 629 j / 100 = b ∧ (a = b → M5 629 i < M5 629 j) ∧ M5 628 i < M5 628 j + pf_X11_durationOf M5 608 (M5 629 j) ∧ M5 628 j < M5 628 i + pf_X11_durationOf M5 608 (M5 629 i)), ⟨n.toNat, by omega, by omega, by omega, Or.inl ⟨rfl, fun i j q => by omega⟩⟩, ?_⟩
    rintro n155 x r ⟨r0, r1, r2, r3⟩
    refine ⟨⟨by omega, by omega⟩, ⟨by omega, by omega⟩, fun q => k2 ha hb x M5 k5 z5 ?_, fun q => ?_⟩
    · have er : r = n := by omega
      subst er
      rcases r3 with ⟨c1, c2⟩ | ⟨c1, c0, ⟨i, j, c2, c3⟩, c4⟩
      · refine Or.inl ⟨c1, fun o p hc => ?_⟩
        obtain ⟨⟨p1, p2, p3⟩, ⟨p4, p5, p6⟩, p7, p8, p9⟩ := hc
        have q1 := bO_rng (i := o) h.1.1 ha hKa
        have q2 := bO_rng (i := p) h.1.1 hb hKb
        obtain ⟨i, y1, y2, y3, y4⟩ := m2 a o (Or.inl rfl) p1 p2 ⟨p3, by have := p3.1; omega⟩
        obtain ⟨j, w1, w2, w3, w4⟩ := m2 b p (Or.inr rfl) p4 p5 ⟨p6, by have := p6.1; omega⟩
        refine c2 i j ⟨y1, y2, w1, w2, by rw [y3]; omega, by rw [w3]; omega, fun z => by rw [y3, w3]; have := p7 z; omega, ?_, ?_⟩
        · rw [y4, w4, w3, (hD b p (Or.inr rfl) p4 (by omega)).1]; exact p8
        · rw [y4, w4, y3, (hD a o (Or.inl rfl) p1 (by omega)).1]; exact p9
      · obtain ⟨s1, s2, s3, s4, s5, s6, s7, s8, s9⟩ := c2
        refine Or.inr ⟨c1, ?_, fun o p hc => ?_⟩
        · obtain ⟨m, o, hm, p1, p2, p3, y3, y4⟩ := m1 i s1 s2
          obtain ⟨m', p, hm', p4, p5, p6, w3, w4⟩ := m1 j s3 s4
          have l1 := hno m hm
          have l2 := hno m' hm'
          have em : m = a := by rw [y3] at s5; omega
          have em' : m' = b := by rw [w3] at s6; omega
          subst em; subst em'
          rw [y4, w4, w3, (hD m' p (Or.inr rfl) p4 (by omega)).1] at s8
          rw [y4, w4, y3, (hD m o (Or.inl rfl) p1 (by omega)).1] at s9
          refine ⟨o, p, ⟨⟨p1, p2, p3.1⟩, ⟨p4, p5, p6.1⟩, fun z => ?_, s8, s9⟩, ?_⟩
          · have := s7 z; rw [y3, w3] at this; omega
          · have : 100 * (M5 629 i % 100) + M5 629 j % 100 = x := c3
            rw [y3, w3] at this; omega
        · obtain ⟨⟨p1, p2, p3⟩, ⟨p4, p5, p6⟩, p7, p8, p9⟩ := hc
          have q1 := bO_rng (i := o) h.1.1 ha hKa
          have q2 := bO_rng (i := p) h.1.1 hb hKb
          obtain ⟨i, y1, y2, y3, y4⟩ := m2 a o (Or.inl rfl) p1 p2 ⟨p3, by have := p3.1; omega⟩
          obtain ⟨j, w1, w2, w3, w4⟩ := m2 b p (Or.inr rfl) p4 p5 ⟨p6, by have := p6.1; omega⟩
          have := c4 i j ⟨y1, y2, w1, w2, by rw [y3]; omega, by rw [w3]; omega, fun z => by rw [y3, w3]; have := p7 z; omega, by rw [y4, w4, w3, (hD b p (Or.inr rfl) p4 (by omega)).1]; exact p8, by rw [y4, w4, y3, (hD a o (Or.inl rfl) p1 (by omega)).1]; exact p9⟩
          have : x ≤ 100 * (M5 629 i % 100) + M5 629 j % 100 := this
          rw [y3, w3] at this; omega
    · refine ⟨fun n' y s => 0 ≤ s ∧ s ≤ n ∧ (n - s).toNat ≤ n' ∧ BB (fun i j => 100 * (M5 629 i % 100) + M5 629 j % 100) y (fun i j => (0 ≤ i ∧ 0 ≤ j ∧ j < n ∧ (i < r ∨ (i = r ∧ j < s))) ∧ M5 629 i / 100 = a ∧ M5 629 j / 100 = b ∧ (a = b → M5 629 i < M5 629 j) ∧ M5 628 i < M5 628 j + pf_X11_durationOf M5 608 (M5 629 j) ∧ M5 628 j < M5 628 i + pf_X11_durationOf M5 608 (M5 629 i)), ⟨n.toNat, by omega, by omega, by omega, r3.eqv (fun i j => ⟨fun ⟨w1, w2, w3, w4, w5⟩ => ⟨⟨w1, w3, w4, Or.inl w2⟩, w5⟩, fun ⟨⟨w1, w3, w4, w2⟩, w5⟩ => ⟨w1, by omega, w3, w4, w5⟩⟩)⟩, ?_⟩
      rintro n162 y s ⟨s0, s1, s2, s3⟩
      refine ⟨⟨by omega, by omega⟩, fun q2 z ez => ⟨(n - z).toNat, by omega, by omega, by omega, by omega, s3.eqv (fun i j => ⟨fun ⟨⟨w1, w3, w4, w2⟩, w5⟩ => ⟨w1, by omega, w3, w4, w5⟩, fun ⟨w1, w2, w3, w4, w5⟩ => ⟨⟨w1, w3, w4, by omega⟩, w5⟩⟩)⟩, fun q2 => ?_⟩
      obtain ⟨m, o, hm, p1, p2, p3, y3, y4⟩ := m1 r r0 q
      obtain ⟨m', p, hm', p4, p5, p6, w3, w4⟩ := m1 s s0 q2
      have l1 := hno m hm
      have l2 := hno m' hm'
      have d1 := hdur m hm
      have d2 := hdur m' hm'
      have D1' := hD m o hm p1 (by omega)
      have D2' := hD m' p hm' p4 (by omega)
      have E1 := E5 r r0 q
      have E2 := E5 s s0 q2
      have hv : 0 ≤ 100 * (M5 629 r % 100) + M5 629 s % 100 ∧ 100 * (M5 629 r % 100) + M5 629 s % 100 < 10000 := by omega
      have ry : rg y := by rcases s3 with ⟨c1, _⟩ | ⟨c1, c0, _⟩ <;> exact ⟨by omega, by omega⟩
      have g1' : pg_X11_durationOf M5 608 (M5 629 r) := by rw [y3]; exact D1'.2
      have g2' : pg_X11_durationOf M5 608 (M5 629 s) := by rw [w3]; exact D2'.2
      have f1' : pf_X11_durationOf M5 608 (M5 629 r) = msl (M 609) m 3 := by rw [y3]; exact D1'.1
      have f2' : pf_X11_durationOf M5 608 (M5 629 s) = msl (M 609) m' 3 := by rw [w3]; exact D2'.1
      rw [f1', f2']
      have hG : rg (M5 628 r) ∧ rg (M5 628 s) ∧ rg (M5 628 s + msl (M 609) m' 3) ∧ rg (M5 628 r + msl (M 609) m 3) ∧ rg (M5 629 r) ∧ rg (M5 629 s) ∧ rg (M5 629 r / 100) ∧ rg (M5 629 s / 100) ∧ rg (100 * (M5 629 r % 100) + M5 629 s % 100) := ⟨⟨by omega, by omega⟩, ⟨by omega, by omega⟩, ⟨by omega, by omega⟩, ⟨by omega, by omega⟩, ⟨by omega, by omega⟩, ⟨by omega, by omega⟩, ⟨by omega, by omega⟩, ⟨by omega, by omega⟩, ⟨by omega, by omega⟩⟩
      obtain ⟨u1, u2, u3, u4, u5, u6, u7, u8, u9⟩ := hG
      refine ⟨⟨r0, by omega⟩, ⟨E1.1, by omega⟩, ⟨u7, ra, fun _ => trivial, fun _ => ⟨⟨s0, by omega⟩, ⟨E2.1, by omega⟩, u8, rb, fun _ => trivial, fun _ => ⟨fun _ => ⟨g2', u1, u3, fun _ => trivial, fun _ => ⟨g1', u2, u4, fun _ => ⟨ry, fun _ => trivial, fun _ => ⟨u9, fun _ => trivial, fun _ => trivial⟩⟩, fun _ => trivial⟩⟩, fun _ => ⟨u5, u6, fun _ => ⟨g2', u1, u3, fun _ => trivial, fun _ => ⟨g1', u2, u4, fun _ => ⟨ry, fun _ => trivial, fun _ => ⟨u9, fun _ => trivial, fun _ => trivial⟩⟩, fun _ => trivial⟩⟩, fun _ => trivial⟩⟩⟩⟩, ?_⟩
      intro y' b1 b2 b3 b4 b5 b6 b7 b8 b9 b10 b11 b12 b13 z ez
      have key : ((M5 629 r / 100 = a ∧ M5 629 s / 100 = b ∧ (a = b → M5 629 r < M5 629 s) ∧ M5 628 r < M5 628 s + msl (M 609) m' 3 ∧ M5 628 s < M5 628 r + msl (M 609) m 3) → (y < 0 ∨ 100 * (M5 629 r % 100) + M5 629 s % 100 < y → y' = 100 * (M5 629 r % 100) + M5 629 s % 100) ∧ (0 ≤ y → y ≤ 100 * (M5 629 r % 100) + M5 629 s % 100 → y' = y)) ∧ (¬ (M5 629 r / 100 = a ∧ M5 629 s / 100 = b ∧ (a = b → M5 629 r < M5 629 s) ∧ M5 628 r < M5 628 s + msl (M 609) m' 3 ∧ M5 628 s < M5 628 r + msl (M 609) m 3) → y' = y) := by
        clear u1 u2 u3 u4 u5 u6 u7 u8 u9 g1' g2' f1' f2' D1' D2' E1 E2 ez
        refine ⟨fun ⟨P1, P2, P3, P4, P5⟩ => ⟨fun w => ?_, fun w w2 => ?_⟩, fun P => ?_⟩
        · by_cases c : a = b
          · by_cases c2 : y < 0
            · exact b9 ⟨P1, P2, c, P3 c, P4, P5, c2⟩
            · exact b11 ⟨P1, P2, c, P3 c, P4, P5, Int.not_lt.mp c2, w.resolve_left c2⟩
          · by_cases c2 : y < 0
            · exact b4 ⟨P1, P2, c, P4, P5, c2⟩
            · exact b6 ⟨P1, P2, c, P4, P5, Int.not_lt.mp c2, w.resolve_left c2⟩
        · by_cases c : a = b
          · exact b10 ⟨P1, P2, c, P3 c, P4, P5, w, w2⟩
          · exact b5 ⟨P1, P2, c, P4, P5, w, w2⟩
        · by_cases c1 : M5 629 r / 100 = a
          · by_cases c2 : M5 629 s / 100 = b
            · by_cases c3 : a = b
              · by_cases c4 : M5 629 r < M5 629 s
                · by_cases c5 : M5 628 r < M5 628 s + msl (M 609) m' 3
                  · by_cases c6 : M5 628 s < M5 628 r + msl (M 609) m 3
                    · exact absurd ⟨c1, c2, fun _ => c4, c5, c6⟩ P
                    · exact b12 ⟨c1, c2, c3, c4, c5, Int.not_lt.mp c6⟩
                  · exact b8 ⟨c1, c2, c3, c4, Int.not_lt.mp c5⟩
                · exact b13 ⟨c1, c2, c3, Int.not_lt.mp c4⟩
              · by_cases c5 : M5 628 r < M5 628 s + msl (M 609) m' 3
                · by_cases c6 : M5 628 s < M5 628 r + msl (M 609) m 3
                  · exact absurd ⟨c1, c2, fun z => absurd z c3, c5, c6⟩ P
                  · exact b7 ⟨c1, c2, c3, c5, Int.not_lt.mp c6⟩
                · exact b3 ⟨c1, c2, c3, Int.not_lt.mp c5⟩
            · exact b2 ⟨c1, c2⟩
          · exact b1 c1
      clear b1 b2 b3 b4 b5 b6 b7 b8 b9 b10 b11 b12 b13
      obtain ⟨key1, key2⟩ := key
      have zb : 0 ≤ z ∧ z ≤ n ∧ (n - z).toNat < n162 ∧ (n - z).toNat ≤ (n - z).toNat := by clear key1 key2 u1 u2 u3 u4 u5 u6 u7 u8 u9 E1 E2 D1' D2' hv; omega
      refine ⟨(n - z).toNat, zb.2.2.1, zb.1, zb.2.1, zb.2.2.2, ?_⟩
      clear u1 u2 u3 u4 u5 u6 u7 u8 u9 E1 E2 D1' D2' d1 d2 l1 l2 hno hdur hD
      by_cases P : M5 629 r / 100 = a ∧ M5 629 s / 100 = b ∧ (a = b → M5 629 r < M5 629 s) ∧ M5 628 r < M5 628 s + msl (M 609) m' 3 ∧ M5 628 s < M5 628 r + msl (M 609) m 3
      · have k1 := key1 P
        obtain ⟨v1, v2⟩ := k1
        obtain ⟨P1, P2, P3, P4, P5⟩ := P
        refine (BB.add (r := r) (s := s) s3 hv v1 v2).eqv (fun i j => ⟨?_, fun ⟨⟨w1, w3, w4, w2⟩, w5⟩ => ?_⟩)
        · rintro (⟨⟨w1, w3, w4, w2⟩, w5⟩ | ⟨rfl, rfl⟩)
          · exact ⟨⟨w1, w3, w4, w2.elim Or.inl (fun w => Or.inr ⟨w.1, by have := w.2; clear v1 v2 key1 key2; omega⟩)⟩, w5⟩
          · exact ⟨⟨r0, s0, q2, Or.inr ⟨rfl, by clear v1 v2 key1 key2; omega⟩⟩, P1, P2, P3, by rw [f2']; exact P4, by rw [f1']; exact P5⟩
        · by_cases c : i = r ∧ j = s
          · exact Or.inr c
          · refine Or.inl ⟨⟨w1, w3, w4, w2.elim Or.inl (fun w => Or.inr ⟨w.1, ?_⟩)⟩, w5⟩
            have w7 := w.2
            have w8 : j ≠ s := fun q => c ⟨w.1, q⟩
            clear v1 v2 key1 key2 P1 P2 P3 P4 P5 w5; omega
      · rw [key2 P]
        refine s3.eqv (fun i j => ⟨fun ⟨⟨w1, w3, w4, w2⟩, w5⟩ => ⟨⟨w1, w3, w4, w2.elim Or.inl (fun w => Or.inr ⟨w.1, by have := w.2; clear key1 key2; omega⟩)⟩, w5⟩, fun ⟨⟨w1, w3, w4, w2⟩, w5⟩ => ⟨⟨w1, w3, w4, w2.elim Or.inl (fun w => Or.inr ⟨w.1, ?_⟩)⟩, w5⟩⟩)
        by_cases c : j = s
        · obtain ⟨rfl, _⟩ := w
          subst c
          rw [f1', f2'] at w5
          exact absurd w5 P
        · have w7 := w.2
          clear key1 key2 w5; omega
  · refine rc_enters (n := (0 : Int) + (nBo (M 609) (-2000) a (nD (msl (M 609) a)).toNat : Int)) (P := False) j1.1.1 j1.2.2.1 (by rw [e4]; exact hb) ⟨by omega, by omega⟩ n4 (by rw [e4]; omega) E4 (fun z => z.elim) fun M5 hR5 f5 n5 E5 C5 _ => ?_
    obtain ⟨l1, l2, l3⟩ := j1.rr f5 hR5
    rw [e4] at n5 E5 C5
    have hle5 := nBo_le (A := M 609) (fr := -2000) (m := b) (nD (msl (M 609) b)).toNat
    exact ⟨l1, by rw [l2, e4], by rw [l3, z3], _, n5, by omega, by omega, E5, fun v => by rw [if_neg z, C5, C4']⟩
theorem sim_clash {M : jT} {a b : Int} (h : Inv M) (ra : rg a) (rb : rg b) : wp_X10_clash M 0 a b (fun v M1 => OKq (wp_X11_clash M1 608 a b) v) (fun e M1 => EXq (wp_X11_clash M1 608 a b) [1] e) := by
  have bad : ¬ ((0 ≤ a ∧ a < M 609 1) ∧ (0 ≤ b ∧ b < M 609 1)) → EXq (wp_X11_clash M 608 a b) [1] 1 := fun q => ⟨by decide, rf_clash h ra rb (fun z => absurd z q) (fun _ M4 h4 t4 => ⟨by rw [t4]; rfl, h4⟩) (fun z1 z2 => absurd ⟨z1, z2⟩ q)⟩
  unfold wp_X10_clash
  refine nm h.1 ra (fun ha => nm h.1 rb (fun hb => ?_) (fun hb => bad (fun z => hb z.2))) (fun ha => bad (fun z => ha z.1))
  have a2 := h.1.1.2.1
  have hga := (h.1.1.2.2.2 a ha.1 ha.2).1
  have hgb := (h.1.1.2.2.2 b hb.1 hb.2).1
  have hna := nD_rng hga
  have hnb := nD_rng hgb
  simp only [Int.zero_add]
  refine cc_timed h.1 h.2.1 ha fun M1 f1 hC1 _ _ hPa hTa hKa => ?_
  have e1 : M1 609 = M 609 := f1 609 (by omega)
  have h1 : Inv M1 := h.c f1.to7 hC1
  refine cc_timedF h1.1 h1.2.1 (m := b) (by rw [e1]; exact hb) fun M2 f2 hC2 fr2 _ _ hPb hTb hKb => ?_
  have e2 : M2 609 = M 609 := by rw [f2 609 (by omega), e1]
  have h2 : Inv M2 := h1.c f2.to7 hC2
  rw [e1] at hPb hTb hKb
  have hPT : PL M2 (3 * a + 570) (msl (M 609) a) ∧ TM M2 (M 609) a := by
    by_cases c : a = b
    · rw [c]; exact ⟨hPb, hTb⟩
    · refine ⟨hPa.mv (by rw [fr2 _ (by omega) (by omega) (by omega)]) (fr2 _ (by omega) (by omega) (by omega)), fun i i0 i1 => ?_⟩
      rw [fr2 _ (by omega) (by omega) (by omega)]; exact hTa i i0 i1
  obtain ⟨hPa2, hTa2⟩ := hPT
  have fin : ∀ r, ClR (M 609) a b r → OKq (wp_X11_clash M2 608 a b) r := fun r hr => rf_clash h2 ra rb (fun _ => by rw [e2]; exact ⟨hKa, hKb⟩) (fun z => absurd ⟨by rw [e2]; exact ha, by rw [e2]; exact hb⟩ z) (fun _ _ r' M4 h4 t4 hr' => ⟨t4, by rw [e2] at hr'; exact hr'.uniq hr, h4⟩)
  refine ⟨fun n x => 0 ≤ x ∧ x ≤ nD (msl (M 609) a) ∧ (nD (msl (M 609) a) - x).toNat ≤ n ∧ ∀ o p, Cl (M 609) a b o p → x ≤ o, ⟨(nD (msl (M 609) a)).toNat, by omega, by omega, by omega, fun o p hc => hc.1.1⟩, ?_⟩
  rintro n x ⟨x0, x1, x2, x3⟩
  rw [hPa2.1]
  refine ⟨⟨by omega, by omega⟩, ⟨by omega, by omega⟩, fun q => fin _ (Or.inl ⟨rfl, fun o p hc => ?_⟩), fun q => ?_⟩
  · have := x3 o p hc
    have := hc.1.2.1
    omega
  · obtain ⟨t1, t2, t3, t4⟩ := c_tk h2.1 (m := a) (by rw [e2]; exact ha) (by rw [e2]; exact hTa2) (o := x) (by rw [e2]; exact ⟨x0, q⟩) (by rw [e2]; exact hKa)
    rw [e2] at t2
    refine ⟨⟨by omega, by omega⟩, t1, fun r => (r = -1 ∧ ∀ p, ¬ Cl (M 609) a b x p) ∨ (0 ≤ r ∧ Cl (M 609) a b x r ∧ ∀ p, Cl (M 609) a b x p → r ≤ p), fun r hr => ⟨?_, fun q1 y ey => ⟨(nD (msl (M 609) a) - y).toNat, by omega, by omega, by omega, by omega, fun o p hc => ?_⟩, fun q1 => fin _ ?_⟩, fun q1 => Or.inl ⟨rfl, fun p hc => q1 (t2.mpr hc.1.2.2)⟩, fun q1 => ?_⟩
    · rcases hr with ⟨r1, r2⟩ | ⟨r1, r2, r3⟩
      · exact ⟨by omega, by omega⟩
      · have := r2.2.1.2.1; exact ⟨by omega, by omega⟩
    · rcases hr with ⟨r1, r2⟩ | ⟨r1, r2, r3⟩
      · have := x3 o p hc
        by_cases c : o = x
        · rw [c] at hc; exact absurd hc (r2 p)
        · omega
      · omega
    · rcases hr with ⟨r1, r2⟩ | ⟨r1, r2, r3⟩
      · omega
      · have rr := r2.2.1.2.1
        refine Or.inr ⟨by omega, ⟨x, r, r2, rfl⟩, fun o p hc => ?_⟩
        have w1 := x3 o p hc
        have w2 := hc.2.1.1
        by_cases c : o = x
        · rw [c] at hc; have := r3 p hc; omega
        · omega
    · have := sp_firstClash (M := M2) (a := a) (b := b) (o := x) (Q := fun r => (r = -1 ∧ ∀ p, ¬ Cl (M 609) a b x p) ∨ (0 ≤ r ∧ Cl (M 609) a b x r ∧ ∀ p, Cl (M 609) a b x p → r ≤ p)) h2 (by rw [e2]; exact ha) (by rw [e2]; exact hb) (by rw [e2]; exact hTa2) (by rw [e2]; exact hPb) (by rw [e2]; exact hTb) (by rw [e2]; exact hKa) (by rw [e2]; exact hKb) (by rw [e2]; exact ⟨x0, q⟩) (by rw [e2]; exact t2.mp q1) (fun r hr => by rw [e2] at hr; exact hr)
      exact this
