/-! a change that goes through: class, then reference -/
theorem c_remember {M : jT} {Q : jT → Prop} (h : Inv M) (kk : ∀ M1, MF M M1 → CA M1 (M 609) → HXc M1 (min (M 48 0 + 1) 8) (pu (M 48 0) (ksl (M 610)) (M 609)) → HXs M1 → Q M1) : wp_X10_remember M 0 Q := by
  obtain ⟨x1, x2, x3⟩ := h.2.2.2.1.un
  refine sp_remember h.1.1 h.1.2 x1 fun M1 f1 g1 e1 hc => ?_
  exact kk M1 (fun a a1 a2 a3 => f1 a (by omega)) ((CA.inv h).mv (fun a a1 a2 => f1 a (by omega)) (fun a a1 a2 => f1 a (by omega))) hc (x3.mv e1 g1 (by rw [f1 608 (by omega)]) (f1 611 (by omega)))
theorem mut_tries {M M1 : jT} {Q : jT → Prop} (hI : Inv M) (f1 : MF M M1) (kk : ∀ M2, RM M1 M2 → M2 609 = M 609 → RC M2 → M2 608 0 = 0 → eqA (M2 612) (M 609) → HXr M2 (M 48 0) (ksl (M 610)) → Q M2) : wp_X11_tries M1 608 Q := by
  obtain ⟨x1, x2, x3⟩ := hI.2.2.2.1.un
  have e9 := f1 609 (by omega) (by omega) (by omega)
  have e8 := f1 608 (by omega) (by omega) (by omega)
  refine sp_tries fun M2 F G h0 he => kk M2 ?_ ((F 609 (by omega) (by omega)).trans e9) ?_ h0 (by rw [← e9]; exact he) ?_
  · exact RM.of (fun a ha => F a (by omega) (by omega)) (fun b hb => G b (by omega))
  · exact hI.2.2.1.mv ((F 609 (by omega) (by omega)).trans e9) (fun b hb => by rw [G b (by omega), e8]) (fun a a1 a2 => (F a (by omega) (by omega)).trans (f1 a (by omega) (by omega) (by omega)))
  · exact x2.mv (by rw [G 3 (by omega), e8]) ((F 610 (by omega) (by omega)).trans (f1 610 (by omega) (by omega) (by omega)))
theorem mut_fin {M M1 M6 : jT} {A' : Int → Int} {u : Int} {K : Int → Int → Int} (hI : Inv M) (f1 : MF M M1) (hC : CA M1 A') (hX : HXc M1 u K) (hs : HXs M1) (f6 : RM M1 M6) (e14 : M6 608 14 = -1) (e9 : eqA A' (M6 609)) (hr : HXr M6 u K) : Inv M6 :=
  mk_inv hI.2.2.2.2 f1 hC hX f6 e14 e9 hr (hs.mv (by rw [f6.1 48 (by omega)]) (fun a _ _ => f6.1 a (by omega)) f6.2.2.1 f6.2.1.1)
theorem mut_ends {M M1 M4 : jT} {A' : Int → Int} {z : Int} (hI : Inv M) (f1 : MF M M1) (hC : CA M1 A') (hX : HXc M1 (min (M 48 0 + 1) 8) (pu (M 48 0) (ksl (M 610)) (M 609))) (hs : HXs M1) (f4 : RM M1 M4) (t : M4 608 0 = 0) (e9 : eqA A' (M4 609)) (e12 : eqA (M4 612) (M 609)) (hr : HXr M4 (M 48 0) (ksl (M 610))) (hz : 0 ≤ z ∧ rg z) :
    wp_X11_ends M4 608 z (fun b M6 => M6 608 0 = 0 ∧ b = z ∧ Inv M6) := by
  have hu := hI.2.2.2.1.1
  unfold wp_X11_ends
  refine ⟨hz.2, fun _ => ?_, fun c => by omega⟩
  refine sp_keeps hr ⟨hu.2.1, hu.2.2.1⟩ e12 fun M6 F G h14 hr6 => ⟨by rw [G 0 (by omega) (by omega)]; exact t, rfl, ?_⟩
  refine mut_fin hI f1 hC hX hs (f4.trans (RM.of (fun a ha => F a (by omega) (by omega)) (fun b hb => G b (by omega) (by omega)))) h14 ?_ hr6
  rw [F 609 (by omega) (by omega)]; exact e9
theorem mut_changes {M M1 M2 : jT} {Q : jT → Prop} (hI : Inv M) (f1 : MF M M1) (f2 : RM M1 M2) (e9 : M2 609 = M 609) (hr : HXr M2 (M 48 0) (ksl (M 610)))
    (kk : ∀ M6, RM M1 M6 → M6 609 = M 609 → M6 608 0 = M2 608 0 → M6 608 14 = -1 → HXr M6 (min (M 48 0 + 1) 8) (pu (M 48 0) (ksl (M 610)) (M 609)) → Q M6) : wp_X11_changes M2 608 Q := by
  have hu := hI.2.2.2.1.1
  unfold wp_X11_changes
  simp only [Int.reduceAdd]
  refine ⟨fun n i M3 => 0 ≤ i ∧ i ≤ 1294 ∧ (1294 - i).toNat ≤ n ∧ (∀ a, a ≠ 612 → M3 a = M2 a) ∧ ∀ j, 0 ≤ j → j < i → M3 612 j = M 609 j, ⟨1294, by omega, by omega, by omega, fun _ _ => rfl, fun j a b => by omega⟩, ?_⟩
  rintro n5 x2 M3 ⟨i0, i1, i2, F3, h3⟩
  refine ⟨⟨by omega, by omega⟩, fun c => ?_, fun c => ⟨by omega, up_in fun M9 h9 => ?_⟩⟩
  · refine sp_keeps (hr.mv (by rw [F3 608 (by omega)]) (F3 610 (by omega))) ⟨hu.2.1, hu.2.2.1⟩ (fun j a b => h3 j a (by omega)) fun M6 F G h14 hr6 => kk M6 ?_ ?_ ?_ h14 hr6
    · exact f2.trans (RM.of (fun a ha => (F a (by omega) (by omega)).trans (F3 a (by omega))) (fun b hb => by rw [G b (by omega) (by omega), F3 608 (by omega)]))
    · rw [F 609 (by omega) (by omega), F3 609 (by omega), e9]
    · rw [G 0 (by omega) (by omega), F3 608 (by omega)]
  · intro x10 e10
    refine ⟨(1294 - x10).toNat, by omega, by omega, by omega, by omega, (fun a ha => by rw [← F3 a ha]; funext b; rw [h9, if_neg (by omega)]), fun j a b => ?_⟩
    by_cases q : j = x2
    · rw [q, h9, if_pos ⟨rfl, rfl⟩, F3 609 (by omega), e9]
    · rw [h9, if_neg (by omega)]; exact h3 j a (by omega)
/-! a zone added -/
noncomputable def nZone (A : Int → Int) (b : Int) : Int → Int := fun i => if i = 0 then A 0 + 1 else if i = 2 + 67 * A 0 then b else if 2 + 67 * A 0 ≤ i ∧ i < 69 + 67 * A 0 then 0 else A i
noncomputable def zoneF (A : Int → Int) (b : Int) : Int := if -720 ≤ b ∧ b ≤ 840 then (if 6 ≤ A 0 then 3 else 0) else 2
theorem nZone_z {A : Int → Int} {b y : Int} (h : 0 ≤ y ∧ y < A 0) : zsl (nZone A b) y = zsl A y := zsl_eq fun i i0 i1 => by
  unfold nZone; rw [if_neg (by omega), if_neg (by omega), if_neg (by omega)]
theorem nZone_n {A : Int → Int} {b : Int} (hA : AOk A) {i : Int} (h : 0 ≤ i ∧ i < 67) : zsl (nZone A b) (A 0) i = if i = 0 then b else 0 := by
  have a1 := hA.1
  rw [zsl_at h]; unfold nZone; rw [if_neg (by omega)]
  by_cases c : i = 0
  · rw [if_pos (by omega), if_pos c]
  · rw [if_neg (by omega), if_pos (by omega), if_neg c]
theorem nZone_m {A : Int → Int} {b m : Int} (h6 : A 0 < 6) (hA : AOk A) (h : 0 ≤ m) : msl (nZone A b) m = msl A m := msl_eq fun i i0 i1 => by
  have a1 := hA.1
  unfold nZone; rw [if_neg (by omega), if_neg (by omega), if_neg (by omega)]
theorem nZone_0 {A : Int → Int} {b : Int} : nZone A b 0 = A 0 + 1 := by unfold nZone; rw [if_pos rfl]
theorem nZone_1 {A : Int → Int} {b : Int} (hA : AOk A) : nZone A b 1 = A 1 := by
  have a1 := hA.1
  unfold nZone; rw [if_neg (by omega), if_neg (by omega), if_neg (by omega)]
theorem nZone_ok {A : Int → Int} {b : Int} (hA : AOk A) (hb : -720 ≤ b ∧ b ≤ 840) (h6 : A 0 < 6) : AOk (nZone A b) := by
  have a1 := hA.1
  unfold AOk
  rw [nZone_0, nZone_1 hA]
  refine ⟨by omega, hA.2.1, fun z z0 z1 => ?_, fun m m0 m1 => ?_⟩
  · by_cases c : z = A 0
    · have e : ∀ i, 0 ≤ i → i < 67 → zsl (nZone A b) (A 0) i = if i = 0 then b else 0 := fun i i0 i1 => nZone_n hA ⟨i0, i1⟩
      have e0 := e 0 (by omega) (by omega)
      have e1 := e 1 (by omega) (by omega)
      have e2 := e 2 (by omega) (by omega)
      rw [if_pos rfl] at e0
      rw [if_neg (by omega)] at e1 e2
      rw [c]; unfold ZOk; rw [e0, e1, e2]
      exact ⟨hb, ⟨by omega, by omega⟩, ⟨by omega, by omega⟩, fun r r0 r1 => by omega, fun r r0 r1 => by omega⟩
    · rw [nZone_z (by omega)]; exact hA.2.2.1 z z0 (by omega)
  · rw [nZone_m h6 hA m0]
    obtain ⟨p1, p2, p3⟩ := hA.2.2.2 m m0 m1
    exact ⟨p1, p2, by omega⟩
theorem pf_zf {M : jT} {A : Int → Int} {b : Int} (hB : BEq M 1 A) (hA : AOk A) (hb : rg b) : pf_X10_zoneFault M 0 b = zoneF A b ∧ pg_X10_zoneFault M 0 b := by
  have a1 := hA.1
  have e := hB.1
  unfold pf_X10_zoneFault zoneF pg_X10_zoneFault
  simp only [Int.zero_add, e]
  exact ⟨trivial, (pgd hb).2.2.2.1, fun _ => ⟨⟨by omega, by omega⟩, fun _ => trivial, fun _ => trivial⟩, fun _ => trivial⟩
theorem zoneF_v (A : Int → Int) (b : Int) : zoneF A b = 0 ∨ zoneF A b = 2 ∨ zoneF A b = 3 := by
  unfold zoneF; (repeat' split) <;> omega
theorem zoneF_0 {A : Int → Int} {b : Int} (h : zoneF A b = 0) : (-720 ≤ b ∧ b ≤ 840) ∧ A 0 < 6 := by
  unfold zoneF at h
  by_cases c : -720 ≤ b ∧ b ≤ 840
  · rw [if_pos c] at h
    by_cases c2 : 6 ≤ A 0
    · rw [if_pos c2] at h; omega
    · exact ⟨c, by omega⟩
  · rw [if_neg c] at h; omega
theorem cs_putZone {M : jT} {A : Int → Int} {b : Int} {Q : Int → jT → Prop} (h : CA M A) (hf : zoneF A b = 0) (kk : ∀ M', PF M M' → CA M' (nZone A b) → Q (A 0) M') : wp_X10_putZone M 0 b Q := by
  obtain ⟨hA, hB, hC⟩ := h
  have a1 := hA.1
  have a2 := hA.2.1
  obtain ⟨hb, h6⟩ : (-720 ≤ b ∧ b ≤ 840) ∧ A 0 < 6 := zoneF_0 hf
  have ok := nZone_ok hA hb h6
  unfold wp_X10_putZone wp_X9_begin
  simp only [Int.zero_add]
  intro x1 e1
  rw [hB.1] at e1; subst e1
  refine ⟨by omega, up_in fun M1 k1 => up_in fun M2 k2 => up_in fun M3 k3 => up_in fun M6 k6 => ?_⟩
  have F : ∀ a, a ≠ 1 → a ≠ 4 * A 0 + 4 → M6 a = M a := fun a c1 c2 => funext fun b => by rw [k6, if_neg (by omega), k3, if_neg (by omega), k2, if_neg (by omega), k1, if_neg (by omega)]
  have b0 : M6 (4 * A 0 + 4) 0 = b := by rw [k6, if_neg (by omega), k3, if_neg (by omega), k2, if_neg (by omega), k1, if_pos ⟨rfl, rfl⟩]
  have b1 : M6 (4 * A 0 + 4) 1 = 0 := by rw [k6, if_neg (by omega), k3, if_neg (by omega), k2, if_pos ⟨rfl, rfl⟩]
  have b2 : M6 (4 * A 0 + 4) 2 = 0 := by rw [k6, if_neg (by omega), k3, if_pos ⟨rfl, rfl⟩]
  have n0 : M6 1 0 = A 0 + 1 := by rw [k6, if_pos ⟨rfl, rfl⟩]
  have n1 : M6 1 1 = A 1 := by rw [k6, if_neg (by omega), k3, if_neg (by omega), k2, if_neg (by omega), k1, if_neg (by omega), hB.2.1]
  have hB6 : BEq M6 1 (nZone A b) := by
    unfold BEq
    rw [nZone_0, nZone_1 hA]
    refine ⟨n0, n1, fun y y0 y1 => ?_, fun m m0 m1 => ?_⟩
    · by_cases c : y = A 0
      · have e : ∀ i, 0 ≤ i → i < 67 → zsl (nZone A b) (A 0) i = if i = 0 then b else 0 := fun i i0 i1 => nZone_n hA ⟨i0, i1⟩
        have e0 := e 0 (by omega) (by omega)
        have e1 := e 1 (by omega) (by omega)
        have e2 := e 2 (by omega) (by omega)
        rw [if_pos rfl] at e0
        rw [if_neg (by omega)] at e1 e2
        rw [c, show 1 + 3 + 4 * A 0 = 4 * A 0 + 4 by omega]
        refine ⟨by rw [b0, e0], by rw [b1, e1], by rw [b2, e2], fun r j r0 r1 => by omega, fun r r0 r1 => by omega⟩
      · rw [nZone_z (by omega)]
        exact (hB.2.2.1 y y0 (by omega)).mv (F _ (by omega) (by omega)) (F _ (by omega) (by omega)) (F _ (by omega) (by omega)) (F _ (by omega) (by omega))
    · rw [nZone_m h6 hA m0]
      exact (hB.2.2.2 m m0 m1).mv (F _ (by omega) (by omega)) (F _ (by omega) (by omega))
  have hC6 : CCA M6 A := hC.mv hA (fun a c1 c2 => F a (by omega) (by omega))
  refine sp_spoil (A := A) (A' := nZone A b) (z := A 0) (by omega) hA ok hC6 (fun y y0 y1 yn => ?_) (nZone_1 hA) (fun m m0 m1 => nZone_m h6 hA m0) fun M8 F8 hC8 => kk M8 (fun a c1 c2 => (F8 a (by omega)).trans (F a (by omega) (by omega))) ⟨ok, hB6.mv ok (fun a c1 c2 => F8 a (by omega)), hC8⟩
  rw [nZone_0] at y1
  exact ⟨by omega, nZone_z ⟨y0, by omega⟩⟩
theorem rs_zoneBy {M : jT} {b : Int} {Q : Int → jT → Prop} (hA : AOk (M 609)) (hb : rg b) (k0 : zoneF (M 609) b = 0 → ∀ M', (∀ a, a ≠ 609 → M' a = M a) → M' 609 = nZone (M 609) b → Q (M 609 0) M') (k1 : zoneF (M 609) b ≠ 0 → Q (1 - zoneF (M 609) b) M) : wp_X11_zoneBy M 608 b Q := by
  have a1 := hA.1
  unfold wp_X11_zoneBy
  simp only [Int.reduceAdd]
  refine ⟨(pgr hb).2.2.2, fun c => ⟨⟨by omega, by omega⟩, fun c6 => ?_, fun c6 => ?_⟩, fun c => ?_⟩
  · have c : -720 ≤ b ∧ b ≤ 840 := c
    have hf : zoneF (M 609) b = 0 := by unfold zoneF; rw [if_pos c, if_neg (by omega)]
    refine ⟨fun n i M8 => 0 ≤ i ∧ i ≤ 67 ∧ (67 - i).toNat ≤ n ∧ ∀ a j, M8 a j = if a = 609 ∧ 2 + 67 * M 609 0 ≤ j ∧ j < 2 + 67 * M 609 0 + i then 0 else M a j, ⟨67, by omega, by omega, by omega, fun a j => by rw [if_neg (by omega)]⟩, ?_⟩
    rintro n10 x7 M8 ⟨i0, i1, i2, h8⟩
    have e0 : M8 609 0 = M 609 0 := by rw [h8, if_neg (by omega)]
    unfold pf_X11_zoneAt
    rw [e0]
    refine ⟨⟨by omega, by omega⟩, fun c => ⟨by omega, up_in fun M16 h16 => up_in fun M17 h17 => ?_⟩, fun c => ⟨by omega, up_in fun M21 h21 => ?_⟩⟩
    · have e16 : M16 609 0 = M 609 0 := by rw [h16, if_neg (by omega), e0]
      rw [e16] at h17 ⊢
      refine k0 hf M17 (fun a ha => funext fun j => by rw [h17, if_neg (by omega), h16, if_neg (by omega), h8, if_neg (by omega)]) (funext fun j => ?_)
      rw [h17, h16, h8]; unfold nZone
      by_cases p1 : j = 0
      · rw [if_pos ⟨rfl, p1⟩, if_pos p1]
      · rw [if_neg (by omega), if_neg p1]
        by_cases p2 : j = 2 + 67 * M 609 0
        · rw [if_pos ⟨rfl, p2⟩, if_pos p2]
        · rw [if_neg (by omega), if_neg p2]
          by_cases p3 : 2 + 67 * M 609 0 ≤ j ∧ j < 69 + 67 * M 609 0
          · rw [if_pos (by omega), if_pos p3]
          · rw [if_neg (by omega), if_neg p3]
    · intro x22 e22
      refine ⟨(67 - x22).toNat, by omega, by omega, by omega, by omega, fun a j => ?_⟩
      rw [h21, h8]
      by_cases p1 : a = 609 ∧ j = 2 + 67 * M 609 0 + x7
      · rw [if_pos p1, if_pos (by omega)]
      · rw [if_neg p1]
        by_cases p2 : a = 609 ∧ 2 + 67 * M 609 0 ≤ j ∧ j < 2 + 67 * M 609 0 + x7
        · rw [if_pos p2, if_pos (by omega)]
        · rw [if_neg p2, if_neg (by omega)]
  · have c : -720 ≤ b ∧ b ≤ 840 := c
    have hf : zoneF (M 609) b = 3 := by unfold zoneF; rw [if_pos c, if_pos (by omega)]
    rw [hf] at k1
    exact k1 (by omega)
  · have c : ¬ (-720 ≤ b ∧ b ≤ 840) := c
    have hf : zoneF (M 609) b = 2 := by unfold zoneF; rw [if_neg c]
    rw [hf] at k1
    exact k1 (by omega)
theorem sim_addZone {M : jT} {b : Int} (h : Inv M) (rb : rg b) : wp_X10_addZone M 0 b (fun v M1 => OKq (wp_X11_addZone M1 608 b) v) (fun e M1 => EXq (wp_X11_addZone M1 608 b) [2, 3] e) := by
  have a1 := h.1.1.1
  obtain ⟨pf, pg⟩ := pf_zf h.1.2 h.1.1 rb
  have hv := zoneF_v (M 609) b
  unfold wp_X10_addZone
  rw [pf]
  refine ⟨pg, refuse (by omega) (fun hf => ?_) (fun hf => ?_)⟩
  · refine c_remember h fun M1 f1 hC1 hX1 hs1 => cs_putZone hC1 hf fun M2 f2 hC2 => ?_
    have f12 := f1.trans f2.mf
    have hX2 := hX1.mv (M' := M2) (fun a ha => f2 a (by omega) (by omega))
    have hs2 := hs1.mv (M' := M2) (by rw [f2 48 (by omega) (by omega)]) (fun a _ _ => f2 a (by omega) (by omega)) (by rw [f2 608 (by omega) (by omega)]) (f2 611 (by omega) (by omega))
    unfold OKq wp_X11_addZone
    refine mut_tries h f12 fun M3 f3 e3 hR3 t3 h12 hr3 => ?_
    refine rs_zoneBy (by rw [e3]; exact h.1.1) rb (fun _ M4 F4 e4 => ?_) (fun q => absurd (by rw [e3]; exact hf) q)
    rw [e3] at e4 ⊢
    refine mut_ends h f12 hC2 hX2 hs2 (f3.trans (RM.of (fun a ha => F4 a (by omega)) (fun b hb => by rw [F4 608 (by omega)]))) (by rw [F4 608 (by omega)]; exact t3) (fun i _ _ => by rw [e4]) (by rw [F4 612 (by omega)]; exact h12) (hr3.mv (by rw [F4 608 (by omega)]) (F4 610 (by omega))) ⟨a1.1, by omega, by omega⟩
  · refine ⟨by rcases hv.resolve_left hf with q | q <;> (rw [q]; decide), ?_⟩
    unfold wp_X11_addZone
    refine tr h fun M3 h3 F3 t3 e12 => ?_
    have e3 : M3 609 = M 609 := F3 609 (by omega) (by omega)
    refine rs_zoneBy h3.1.1 rb (fun q => absurd (by rw [← e3]; exact q) hf) (fun q => ?_)
    rw [e3]
    refine sp_ends_no h3 (by rw [e3]; exact e12) ⟨⟨by omega, by omega⟩, by omega⟩ fun M4 h4 t4 => ⟨?_, h4⟩
    rw [t4]
    rcases hv with q | q | q
    · exact absurd q hf
    · rw [q]; rfl
    · rw [q]; rfl
