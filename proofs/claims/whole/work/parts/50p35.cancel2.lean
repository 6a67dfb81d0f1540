/-! cancel -/
def ocK (A : Int → Int) (m o : Int) : Prop := (0 ≤ m ∧ m < A 1) ∧ 0 ≤ o ∧ o < nD (msl A m)
theorem ca_occ {M : jT} {A : Int → Int} {m o : Int} {Q : Int → jT → Prop} (h : CA M A) (rm : rg m) (ro : rg o)
    (k0 : ocK A m o → ∀ M', CFr M M' → CA M' A → Q 0 M') (k1 : ¬ ocK A m o → ∀ M', CFr M M' → CA M' A → Q 1 M') : wp_X10_occurrenceFault M 0 m o Q := by
  have a2 := h.1.2.1
  have e := h.2.1.2.1
  unfold wp_X10_occurrenceFault
  simp only [Int.zero_add, e]
  refine ⟨fun x M' => (x = 0 ∧ Q 1 M') ∨ (x = 1 ∧ Q 0 M'), fun x M' q => ?_, fun M' => Q 1 M', fun M' q => Or.inl ⟨rfl, q⟩, rm, fun c => k1 (fun q => by have := q.1; omega) M CFr.rfl h, fun c => ⟨⟨by omega, by omega⟩, fun c2 => k1 (fun q => by have := q.1; omega) M CFr.rfl h, fun c2 => ⟨ro, fun c3 => k1 (fun q => by have := q.2; omega) M CFr.rfl h, fun c3 => ?_⟩⟩⟩
  · rcases q with ⟨q, q2⟩ | ⟨q, q2⟩
    · rw [q, b2i_t rfl]; exact ⟨⟨⟨by omega, by omega⟩, fun _ => trivial, fun _ => trivial⟩, q2⟩
    · rw [q, b2i_f (by omega)]; exact ⟨⟨⟨by omega, by omega⟩, fun _ => trivial, fun _ => trivial⟩, q2⟩
  · have hn := nD_rng (h.1.2.2.2 m c c2).1
    refine ca_laidOut h ⟨c, c2⟩ fun M1 f hC h0 hP => ?_
    rw [hP.1]
    exact ⟨⟨by omega, by omega⟩, fun c4 => k1 (fun q => by have := q.2; omega) M1 f hC, fun c4 => Or.inr ⟨rfl, k0 ⟨⟨c, c2⟩, c3, c4⟩ M1 f hC⟩⟩
noncomputable def gC (G : Int → Int) (o : Int) : Int → Int := fun i => if i = 49 + o then 1 - G i else G i
theorem gC_n {G : Int → Int} {o i : Int} (h : i ≠ 49 + o) : gC G o i = G i := by unfold gC; rw [if_neg h]
theorem gC_o {G : Int → Int} {o : Int} : gC G o (49 + o) = 1 - G (49 + o) := by unfold gC; rw [if_pos rfl]
theorem gC_z {G : Int → Int} {o : Int} (ho : 0 ≤ o ∧ o < 40) (h : ∀ i, i < 0 ∨ 89 ≤ i → G i = 0) : ∀ i, i < 0 ∨ 89 ≤ i → gC G o i = 0 := fun i hi => by rw [gC_n (by omega)]; exact h i hi
theorem gC_ok {G : Int → Int} {o : Int} (ho : 0 ≤ o ∧ o < 40) (h : GOk G) : GOk (gC G o) := by
  obtain ⟨g1, g2, g3, g4, g5, g6, g7, g8, g9, g49⟩ := h
  unfold GOk
  rw [gC_n (i := 1) (by omega), gC_n (i := 2) (by omega), gC_n (i := 3) (by omega), gC_n (i := 4) (by omega), gC_n (i := 5) (by omega), gC_n (i := 6) (by omega), gC_n (i := 7) (by omega), gC_n (i := 8) (by omega)]
  refine ⟨g1, g2, g3, g4, g5, g6, g7, g8, fun i i0 i1 => by rw [gC_n (by omega)]; exact g9 i i0 i1, fun i i0 i1 => ?_⟩
  have := g49 i i0 i1
  by_cases q : i = o
  · rw [q, gC_o]; rw [q] at this; omega
  · rw [gC_n (by omega)]; exact this
theorem cs_turn {M : jT} {A : Int → Int} {m o : Int} {Q : Int → jT → Prop} (h : CA M A) (hk : ocK A m o) (kk : ∀ M', PF M M' → CA M' (mput A m (gC (msl A m) o)) → Q (1 - msl A m (49 + o)) M') : wp_X10_turnCancelled M 0 m o Q := by
  obtain ⟨hA, hB, hC⟩ := h
  obtain ⟨hm, ho⟩ := hk
  have a1 := hA.1
  have a2 := hA.2.1
  obtain ⟨hgo, z0, z1⟩ := hA.2.2.2 m hm.1 hm.2
  have hn := nD_rng hgo
  have hge := hB.2.2.2 m hm.1 hm.2
  rw [show 1 + 27 + 2 * m = 2 * m + 28 by omega] at hge
  obtain ⟨g0, g1, g2, g3⟩ := hge
  have ho' : 0 ≤ o ∧ o < 40 := by omega
  have hz := gC_z ho' (G := msl A m) (fun i hi => msl_o hi)
  obtain ⟨l1, l2⟩ := lx_bit g2 ho'
  unfold wp_X10_turnCancelled
  simp only [Int.zero_add]
  refine ⟨by omega, by omega, up_in fun M4 k4 => ?_⟩
  have F4 : ∀ a, a ≠ 2 * m + 28 → M4 a = M a := (fun a ha => funext fun b => by rw [k4 a b, if_neg (by omega)])
  have e9 : M4 (2 * m + 28) 9 = lxI (M (2 * m + 28) 9) (2 ^ o.toNat) := by rw [k4, if_pos ⟨rfl, rfl⟩]
  have hGE : GEq M4 (2 * m + 28) (gC (msl A m) o) := by
    refine ⟨fun i i0 i1 => ?_, fun i i0 i1 => ?_, by rw [e9]; exact l1, fun i i0 i1 => ?_⟩
    · rw [k4, if_neg (by omega), gC_n (by omega)]; exact g0 i i0 i1
    · rw [F4 _ (by omega), gC_n (by omega)]; exact g1 i i0 i1
    · rw [e9, l2 i i0 i1]
      have b := hgo.2.2.2.2.2.2.2.2.2 i i0 i1
      have g3 := g3 i i0 i1
      by_cases q : i = o
      · rw [if_pos q, g3, q, gC_o]; rw [q] at b; omega
      · rw [if_neg q, g3, gC_n (by omega)]
  have hp : pb_X4_isCancelled M4 (2 * m + 28) o ↔ gC (msl A m) o (49 + o) ≠ 0 := hGE.2.2.2 o ho'.1 ho'.2
  have v : b2i (pb_X4_isCancelled M4 (2 * m + 28) o) = 1 - msl A m (49 + o) := by
    have b := hgo.2.2.2.2.2.2.2.2.2 o ho'.1 ho'.2
    rw [gC_o] at hp
    by_cases q : msl A m (49 + o) = 0
    · rw [b2i_t (hp.mpr (by omega)), q]; rfl
    · rw [b2i_f (fun r => hp.mp r (by omega)), (b.resolve_left q)]; rfl
  have dv : 0 ≤ M4 (2 * m + 28) 9 / 2 ^ o.toNat % 2 ∧ M4 (2 * m + 28) 9 / 2 ^ o.toNat % 2 < 2 := by omega
  rw [v]
  refine ⟨?_, ⟨fun _ => trivial, fun _ => trivial⟩, kk M4 (fun a b1 b2 => F4 a (by omega)) ⟨mput_ok hA hm hz (gC_ok ho' hgo) (by rw [gC_n (by omega)]; exact ⟨z0, z1⟩), mput_b hA hB hm hz (fun a b1 b2 b3 b4 => F4 a b3) hGE, CCA.meet hA hm (hC.mv hA (fun a b1 b2 => F4 a (by omega))) hz (fun i i0 i1 => gC_n (by omega)) (fun _ i i0 i1 => gC_n (by omega))⟩⟩
  unfold pg_X4_isCancelled
  exact ⟨by omega, by rw [e9]; exact ⟨by omega, by omega⟩, ⟨by omega, by omega⟩, fun _ => trivial, fun _ => trivial⟩
theorem rs_cancelBy {M : jT} {m o : Int} {Q : Int → jT → Prop} (hA : AOk (M 609)) (hR : RC M) (rm : rg m) (ro : rg o)
    (k0 : ocK (M 609) m o → ∀ M', RM M M' → M' 610 = M 610 → M' 612 = M 612 → M' 608 0 = M 608 0 → M' 608 3 = M 608 3 → M' 609 = mput (M 609) m (gC (msl (M 609) m) o) → Q (1 - msl (M 609) m (49 + o)) M')
    (k1 : ¬ ocK (M 609) m o → ∀ M', RC M' → Fr3 M M' → Q (-1) M') : wp_X11_cancelBy M 608 m o Q := by
  have a2 := hA.2.1
  unfold wp_X11_cancelBy
  simp only [Int.reduceAdd]
  refine rc_isOccurrence hA hR rm ro (fun M2 hR2 f hb => ⟨⟨by omega, by omega⟩, fun q => by omega, fun _ => k1 (fun q => hb ⟨q.1.1, q.1.2, q.2.1, q.2.2⟩) M2 hR2 f⟩) (fun M2 hR2 f hm ho _ => ⟨⟨by omega, by omega⟩, fun _ => ?_, fun q => by omega⟩)
  have hgo := (hA.2.2.2 m hm.1 hm.2).1
  have hn := nD_rng hgo
  intro x7 e7
  rw [mAt] at e7
  have e9 : M2 609 = M 609 := f.1 609 (by omega) (by omega)
  have ev : M 609 x7 = msl (M 609) m (49 + o) := by rw [msl_at (by omega), e7]; congr 1; omega
  rw [e9, ev]
  refine ⟨by omega, up_in fun M9 k9 => ?_⟩
  have F9 : ∀ a, a ≠ 609 → M9 a = M2 a := (fun a ha => funext fun b => by rw [k9 a b, if_neg (by omega)])
  have f0 : ∀ a, a ≠ 608 → a ≠ 609 → a ≠ 627 → M9 a = M a := fun a b1 b2 b3 => (F9 a b2).trans (f.1 a b1 b3)
  have c0 : ∀ b, b ≠ 33 → M9 608 b = M 608 b := fun b hb => by rw [F9 608 (by omega)]; exact f.2 b hb
  rw [show M9 609 x7 = 1 - msl (M 609) m (49 + o) from by rw [k9, if_pos ⟨rfl, rfl⟩]]
  refine k0 ⟨hm, ho⟩ M9 (RM.of (fun a ha => f0 a (by omega) (by omega) (by omega)) (fun b hb => c0 b (by omega))) (f0 _ (by omega) (by omega) (by omega)) (f0 _ (by omega) (by omega) (by omega)) (c0 _ (by omega)) (c0 _ (by omega)) (funext fun j => ?_)
  by_cases p0 : j < 404 + 89 * m ∨ 493 + 89 * m ≤ j
  · rw [k9, if_neg (by omega), e9, mput_n p0]
  · rw [mput_i (by omega)]
    by_cases q : j = x7
    · rw [k9, if_pos ⟨rfl, q⟩, show j - (404 + 89 * m) = 49 + o by omega, gC_o]
    · rw [k9, if_neg (by omega), e9, gC_n (by omega), msl_at (by omega)]; congr 1; omega
theorem sim_cancel {M : jT} {m o : Int} (h : Inv M) (rm : rg m) (ro : rg o) : wp_X10_cancel M 0 m o (fun v M1 => OKq (wp_X11_cancel M1 608 m o) v) (fun e M1 => EXq (wp_X11_cancel M1 608 m o) [1] e) := by
  unfold wp_X10_cancel
  refine cc_occ h rm ro (fun hm ho M1 h1 e1 => ?_) (fun hb M1 h1 e1 => ?_)
  · have hk : ocK (M1 609) m o := by rw [e1]; exact ⟨hm, ho⟩
    refine Or.inl (refuse_o ?_)
    obtain ⟨hgo, _, _⟩ := h.1.1.2.2.2 m hm.1 hm.2
    have hn := nD_rng hgo
    have b := hgo.2.2.2.2.2.2.2.2.2 o ho.1 (by omega)
    refine c_remember h1 fun M2 f2 hC2 hX2 hs2 => cs_turn hC2 hk fun M3 f3 hC3 => mut_ok h1 f2 hX2 hs2 f3 hC3 (by rw [e1]; omega) fun M4 Q e4 hR4 k => ?_
    refine rs_cancelBy (by rw [e4]; exact h1.1.1) hR4 rm ro (fun _ M5 g1 g2 g3 g4 g5 g6 => ?_) (fun q => absurd (by rw [e4]; exact hk) q)
    rw [e4] at g6 ⊢
    exact k M5 g1 g2 g3 g4 g5 g6
  · refine Or.inr (refuse_x (by omega) ?_)
    refine mut_no (k := 1) h1 (by omega) (by decide) rfl fun M3 Q h3 e3 k => ?_
    refine rs_cancelBy h3.1.1 h3.2.2.1 rm ro (fun q => absurd ?_ hb) (fun _ M4 hR4 f4 => ?_)
    · rw [e3, e1] at q; exact ⟨q.1.1, q.1.2, q.2.1, q.2.2⟩
    · obtain ⟨i1, i2, _⟩ := h3.rr f4.rf hR4
      exact k M4 i1 i2 (f4.1 612 (by omega) (by omega))
/-! shift -/
noncomputable def gS (G : Int → Int) (o b : Int) : Int → Int := fun i => if i = 9 + o then b else G i
theorem gS_n {G : Int → Int} {o b i : Int} (h : i ≠ 9 + o) : gS G o b i = G i := by unfold gS; rw [if_neg h]
theorem gS_o {G : Int → Int} {o b : Int} : gS G o b (9 + o) = b := by unfold gS; rw [if_pos rfl]
theorem gS_ok {G : Int → Int} {o b : Int} (ho : 0 ≤ o ∧ o < 40) (hb : -1440 ≤ b ∧ b ≤ 1440) (h : GOk G) : GOk (gS G o b) := by
  obtain ⟨g1, g2, g3, g4, g5, g6, g7, g8, g9, g49⟩ := h
  unfold GOk
  rw [gS_n (i := 1) (by omega), gS_n (i := 2) (by omega), gS_n (i := 3) (by omega), gS_n (i := 4) (by omega), gS_n (i := 5) (by omega), gS_n (i := 6) (by omega), gS_n (i := 7) (by omega), gS_n (i := 8) (by omega)]
  refine ⟨g1, g2, g3, g4, g5, g6, g7, g8, fun i i0 i1 => ?_, fun i i0 i1 => by rw [gS_n (by omega)]; exact g49 i i0 i1⟩
  by_cases q : i = o
  · rw [q, gS_o]; exact hb
  · rw [gS_n (by omega)]; exact g9 i i0 i1
theorem sim_shift {M : jT} {m o b : Int} (h : Inv M) (rm : rg m) (ro : rg o) (rb : rg b) : wp_X10_shift M 0 m o b (fun v M1 => OKq (wp_X11_shift M1 608 m o b) v) (fun e M1 => EXq (wp_X11_shift M1 608 m o b) [1, 2] e) := by
  unfold wp_X10_shift
  refine cc_occ h rm ro (fun hm ho M1 h1 e1 => ?_) (fun hb M1 h1 e1 => ?_)
  · have hA := h1.1.1
    obtain ⟨hgo, z0, z1⟩ := h.1.1.2.2.2 m hm.1 hm.2
    have a1 := hA.1
    have a2 := hA.2.1
    have a2' := h.1.1.2.1
    have hn := nD_rng hgo
    have ho' : 0 ≤ o ∧ o < 40 := by omega
    have b9 := hgo.2.2.2.2.2.2.2.2.1 o ho'.1 ho'.2
    refine Or.inl (refuse_o ?_)
    by_cases cb : -1440 ≤ b ∧ b ≤ 1440
    · refine ⟨fun x => x = b2i (-1440 ≤ b ∧ b ≤ 1440), fun x ex => ?_, False, fun q => q.elim, rb, fun q => by omega, fun q => ⟨fun q2 => by omega, fun q2 => (b2i_t cb).symm⟩⟩
      rw [show x = b2i (-1440 ≤ b ∧ b ≤ 1440) from ex]
      refine Or.inl (na_o cb ?_)
      refine c_remember h1 fun M2 f2 hC2 hX2 hs2 => ⟨by omega, by omega, ?_⟩
      simp only [Int.zero_add]
      intro x21 e21
      have hge := hC2.2.1.2.2.2 m hm.1 (by rw [e1]; exact hm.2)
      rw [show 1 + 27 + 2 * m = 2 * m + 28 by omega] at hge
      obtain ⟨g0, g1, g2, g3⟩ := hge
      rw [show 2 * m + 28 + 1 = 2 * m + 29 by omega] at g1
      rw [g1 o ho'.1 ho'.2] at e21
      refine up_in fun M23 k23 => up_in fun M25 k25 => ?_
      have F : ∀ a, a ≠ 2 * m + 29 → a ≠ 3 * m + 570 → M25 a = M2 a := fun a b1 b2 => funext fun j => by rw [k25, if_neg (by omega), k23, if_neg (by omega)]
      have hgo1 : GOk (msl (M1 609) m) := by rw [e1]; exact hgo
      have hz : ∀ i, i < 0 ∨ 89 ≤ i → gS (msl (M1 609) m) o b i = 0 := fun i hi => by rw [gS_n (by omega)]; exact msl_o hi
      have hm1 : 0 ≤ m ∧ m < M1 609 1 := by rw [e1]; exact hm
      have hGE : GEq M25 (2 * m + 28) (gS (msl (M1 609) m) o b) := by
        refine ⟨fun i i0 i1 => by rw [F _ (by omega) (by omega), gS_n (by omega)]; exact g0 i i0 i1, fun i i0 i1 => ?_, by rw [F _ (by omega) (by omega)]; exact g2, fun i i0 i1 => by rw [F _ (by omega) (by omega), gS_n (by omega)]; exact g3 i i0 i1⟩
        rw [k25, if_neg (by omega), k23]
        by_cases q : i = o
        · rw [if_pos ⟨by omega, q⟩, q, gS_o]
        · rw [if_neg (by omega), gS_n (by omega), ← g1 i i0 i1]; congr 1; omega
      have hCC : CCA M25 (M1 609) := by
        obtain ⟨c1, c2, c3, c4⟩ := hC2.2.2
        have p0 : ∀ i, 0 ≤ i → M25 (3 * i + 570) 0 = M2 (3 * i + 570) 0 := fun i i0 => by rw [k25, if_neg (by omega), k23, if_neg (by omega)]
        have p2 : ∀ i, 0 ≤ i → M25 (3 * i + 570) 2 = M2 (3 * i + 570) 2 := fun i i0 => by rw [k25, if_neg (by omega), k23, if_neg (by omega)]
        refine ⟨fun y y0 y1 => by rw [F _ (by omega) (by omega)]; exact c1 y y0 y1, fun y y0 y1 q => ?_, fun i i0 i1 => ⟨by rw [p0 i i0]; exact (c3 i i0 i1).1, ?_⟩, fun i i0 i1 => ⟨fun q => ?_, fun q => ?_⟩⟩
        · rw [F _ (by omega) (by omega)] at q
          exact (c2 y y0 y1 q).mv (fun b _ _ => by rw [F _ (by omega) (by omega)]) (fun r _ _ => F _ (by omega) (by omega))
        · by_cases q : i = m
          · rw [q, k25, if_pos ⟨rfl, rfl⟩]; exact ⟨by omega, by omega⟩
          · rw [F _ (by omega) (by omega)]; exact (c3 i i0 i1).2
        · rw [p0 i i0] at q
          exact ((c4 i i0 i1).1 q).mv (p2 i i0) (F _ (by omega) (by omega))
        · by_cases c : i = m
          · rw [c, k25, if_pos ⟨rfl, rfl⟩] at q; omega
          · rw [F _ (by omega) (by omega)] at q
            obtain ⟨q1, q2, q3⟩ := (c4 i i0 i1).2 q
            refine ⟨by rw [p0 i i0]; exact q1, q2, fun j j0 j1 => ?_⟩
            rw [F _ (by omega) (by omega)]; exact q3 j j0 j1
      have hC3 : CA M25 (mput (M1 609) m (gS (msl (M1 609) m) o b)) := by
        refine ⟨mput_ok hA hm1 hz (gS_ok ho' cb hgo1) (by rw [gS_n (by omega), e1]; exact ⟨z0, z1⟩), mput_b hA hC2.2.1 hm1 hz (fun a b1 b2 b3 b4 => F a b4 (by omega)) hGE, CCA.meet hA hm1 hCC hz (fun i i0 i1 => gS_n (by omega)) (fun q => ?_)⟩
        rw [k25, if_pos ⟨rfl, rfl⟩] at q; omega
      have fp : PF M2 M25 := fun a b1 b2 => F a (by omega) (by omega)
      have f12 := f2.trans fp.mf
      have hX3 := hX2.mv (M' := M25) (fun a ha => F a (by omega) (by omega))
      have hs3 := hs2.mv (M' := M25) (by rw [F 48 (by omega) (by omega)]) (fun a _ _ => F a (by omega) (by omega)) (by rw [F 608 (by omega) (by omega)]) (F 611 (by omega) (by omega))
      obtain ⟨x1, x2, x3⟩ := h1.2.2.2.1.un
      have e9 : M25 609 = M1 609 := f12 609 (by omega) (by omega) (by omega)
      have e8 : M25 608 = M1 608 := f12 608 (by omega) (by omega) (by omega)
      have hR25 : RC M25 := h1.2.2.1.mv e9 (fun b _ => by rw [e8]) (fun a b1 b2 => f12 a (by omega) (by omega) (by omega))
      -- the reference
      unfold OKq wp_X11_shift
      simp only [Int.reduceAdd]
      refine up_in fun N1 n1 => ?_
      have G1 : ∀ a, a ≠ 608 → N1 a = M25 a := (fun a ha => funext fun b => by rw [n1 a b, if_neg (by omega)])
      have G1c : ∀ b, b ≠ 0 → N1 608 b = M25 608 b := fun b hb => by rw [n1, if_neg (by omega)]
      have d9 : N1 609 = M1 609 := (G1 609 (by omega)).trans e9
      have rm1 : RM M25 N1 := RM.of (fun a ha => G1 a (by omega)) (fun b hb => G1c b (by omega))
      have hR1 : RC N1 := hR25.mv (G1 609 (by omega)) (fun b hb => G1c b (by omega)) (fun a b1 b2 => G1 a (by omega))
      refine rc_isOccurrence (by rw [d9]; exact hA) hR1 rm ro (fun N2 _ _ hb => absurd (by rw [d9, e1]; exact ⟨hm.1, hm.2, ho.1, ho.2⟩) hb) (fun N3 hR3 f3 _ _ _ => ?_)
      refine ⟨⟨by omega, by omega⟩, fun _ => ⟨pg_in rb ⟨by omega, by omega⟩ ⟨by omega, by omega⟩, fun _ => ?_, fun q => absurd cb q⟩, fun q => by omega⟩
      have d39 : N3 609 = M1 609 := (f3.1 609 (by omega) (by omega)).trans d9
      have hr3 : HXr N3 (M1 48 0) (ksl (M1 610)) := x2.mv (by rw [f3.2 3 (by omega), G1c 3 (by omega), e8]) (by rw [f3.1 610 (by omega) (by omega), G1 610 (by omega)]; exact f12 610 (by omega) (by omega) (by omega))
      refine mut_changes h1 f12 (rm1.trans f3.rf.rm) d39 hr3 fun N4 f4 d49 t4 c14 hr4 => ?_
      have t0 : N4 608 0 = 0 := by rw [t4, f3.2 0 (by omega), n1, if_pos ⟨rfl, rfl⟩]
      intro x14 e14
      rw [mAt] at e14
      refine ⟨by omega, ?_⟩
      intro x16 e16
      rw [d49] at e16
      refine up_in fun N5 n5 => ?_
      have G5 : ∀ a, a ≠ 609 → N5 a = N4 a := (fun a ha => funext fun b => by rw [n5 a b, if_neg (by omega)])
      obtain ⟨r1, r2, r3, r4, r5⟩ := rm9 G5
      have ex : x16 = x21 := by rw [e16, e21, msl_at (by omega)]; congr 1; omega
      refine ⟨by rw [r4]; exact t0, ex, mut_fin h1 f12 hC3 hX3 hs3 (f4.trans r1) (by rw [G5 608 (by omega)]; exact c14) (fun j _ _ => ?_) (hr4.mv r5 r2)⟩
      by_cases p0 : j < 404 + 89 * m ∨ 493 + 89 * m ≤ j
      · rw [n5, if_neg (by omega), d49, mput_n p0]
      · rw [mput_i (by omega)]
        by_cases q : j = x14
        · rw [n5, if_pos ⟨rfl, q⟩, show j - (404 + 89 * m) = 9 + o by omega, gS_o]
        · rw [n5, if_neg (by omega), d49, gS_n (by omega), msl_at (by omega)]; congr 1; omega
    · refine ⟨fun x => x = b2i (-1440 ≤ b ∧ b ≤ 1440), fun x ex => ?_, True, fun q => (b2i_f cb).symm, rb, fun q => trivial, fun q => ⟨fun q2 => trivial, fun q2 => absurd ⟨q, q2⟩ cb⟩⟩
      rw [show x = b2i (-1440 ≤ b ∧ b ≤ 1440) from ex]
      refine Or.inr (na_x cb ?_)
      refine ⟨by decide, ?_⟩
      unfold wp_X11_shift
      refine th0 h1 fun M2 h2 e2 t2 => rc_isOccurrence h2.1.1 h2.2.2.1 rm ro (fun N2 _ _ hb => absurd (by rw [e2, e1]; exact ⟨hm.1, hm.2, ho.1, ho.2⟩) hb) (fun M3 hR3 f3 _ _ _ => ?_)
      obtain ⟨i1, i2, i3⟩ := h2.rr f3.rf hR3
      exact ⟨⟨by omega, by omega⟩, fun _ => ⟨pg_in rb ⟨by omega, by omega⟩ ⟨by omega, by omega⟩, fun q => absurd q cb, fun _ => rs i1 fun M4 h4 t4 => ⟨by rw [t4]; rfl, h4⟩⟩, fun q => by omega⟩
  · refine Or.inr (refuse_x (by omega) ⟨by decide, ?_⟩)
    unfold wp_X11_shift
    refine th0 h1 fun M2 h2 e2 t2 => rc_isOccurrence h2.1.1 h2.2.2.1 rm ro (fun M3 hR3 f3 _ => ?_) (fun M3 _ _ hm ho _ => absurd (by rw [e2, e1] at hm ho; exact ⟨hm.1, hm.2, ho.1, ho.2⟩) hb)
    obtain ⟨i1, i2, i3⟩ := h2.rr f3.rf hR3
    exact ⟨⟨by omega, by omega⟩, fun q => by omega, fun _ => rs i1 fun M4 h4 t4 => ⟨by rw [t4]; rfl, h4⟩⟩
