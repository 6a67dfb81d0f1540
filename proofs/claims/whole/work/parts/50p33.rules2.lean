theorem rs_ruleBy {M : jT} {z y m dt t s : Int} {Q : Int → jT → Prop} (hA : AOk (M 609)) (rz : rg z) (ry : rg y) (rm : rg m) (rd : rg dt) (rt : rg t) (rs' : rg s)
    (k0 : ruleF (M 609) z y m dt t s = 0 → ∀ M', (∀ a, a ≠ 609 → M' a = M a) → M' 609 = zput (M 609) z (zR (zsl (M 609) z) (w7 y m dt t s)) → Q (zsl (M 609) z 1) M') (k1 : ruleF (M 609) z y m dt t s ≠ 0 → Q (-ruleF (M 609) z y m dt t s) M) : wp_X11_ruleBy M 608 z y m dt t s Q := by
  have a1 := hA.1
  have no : ∀ v : Int, v ≠ 0 → ruleF (M 609) z y m dt t s = v → Q (-v) M := fun v h e => by rw [← e]; exact k1 (by rw [e]; exact h)
  unfold wp_X11_ruleBy
  simp only [Int.reduceAdd]
  refine ⟨pgz hA rz, fun c => ?_, fun c => no 1 (by omega) (by unfold ruleF; rw [if_neg (fun q => c (zi.mpr q))])⟩
  have hz := zi.mp c
  have bad : ¬ okR y m dt t s → Q (-2) M := fun q => no 2 (by omega) (by unfold ruleF; rw [if_pos hz, if_neg q])
  refine ⟨¬ okR y m dt t s, bad, ry, fun q ok => by have := ok.1.1; omega, fun p1 => ⟨rt, fun p2 => ⟨by omega, ?_⟩, fun q ok => by have := ok.2.2.2.1.1; omega⟩⟩
  intro x109 e109 x110 e110
  refine ⟨¬ okR y m dt t s, bad, ⟨by omega, by omega⟩, ⟨by omega, by omega⟩, fun q ok => by have := ok.1; omega, fun p3 => ⟨fun q ok => by have := ok.1; omega, fun p4 => ⟨pg_in rm ⟨by omega, by omega⟩ ⟨by omega, by omega⟩, fun q ok => q ok.2.1, fun p5 => ⟨pg_dt11 rd, fun q ok => q (dt11.mpr ok.2.2.1), fun p6 => ⟨by omega, ⟨by omega, by omega⟩, fun q ok => by have := ok.2.2.2.1; omega, fun p7 => ⟨⟨by omega, by omega⟩, fun q ok => by have := ok.2.2.2.1; omega, fun p8 => ⟨pg_in rs' ⟨by omega, by omega⟩ ⟨by omega, by omega⟩, fun p9 => ?_, fun q ok => q ok.2.2.2.2⟩⟩⟩⟩⟩⟩⟩
  have ok : okR y m dt t s := ⟨⟨p1, by omega, by omega⟩, p5, dt11.mp p6, ⟨p2, p7, p8⟩, p9⟩
  obtain ⟨v0, v1, v2, v3, v4, v5, v6⟩ := w7_v y m dt t s
  intro x180 e180
  rw [zAt] at e180
  have hZ := hA.2.2.1 z hz.1 hz.2
  have n1 := hZ.2.1
  have e1 : M 609 (x180 + 1) = zsl (M 609) z 1 := by rw [e180]; exact (zsl_at (by omega)).symm
  rw [e1]
  refine ⟨by omega, ⟨by omega, by omega⟩, fun c8 => ?_, fun c8 => no 3 (by omega) (by unfold ruleF; rw [if_pos hz, if_pos ok, if_pos (by omega)])⟩
  intro x186 e186
  rw [rAt] at e186
  refine ⟨by omega, up_in fun M188 k1' => ⟨by omega, up_in fun M190 k2 => ⟨by omega, up_in fun M192 k3 => ⟨by omega, up_in fun M194 k4 => ⟨by omega, up_in fun M196 k5 => ⟨by omega, up_in fun M198 k6 => ⟨by omega, up_in fun M200 k7 => up_in fun M201 k8 => ?_⟩⟩⟩⟩⟩⟩⟩
  have n7 : ∀ b, (b < x186 ∨ x186 + 7 ≤ b) → M200 609 b = M 609 b := fun b hb => by
    rw [k7, if_neg (by omega), k6, if_neg (by omega), k5, if_neg (by omega), k4, if_neg (by omega), k3, if_neg (by omega), k2, if_neg (by omega), k1', if_neg (by omega)]
  have e7 : ∀ j, 0 ≤ j → j < 7 → M200 609 (x186 + j) = w7 y m dt t s j := fun j j0 j1 => by
    rcases (show j = 0 ∨ j = 1 ∨ j = 2 ∨ j = 3 ∨ j = 4 ∨ j = 5 ∨ j = 6 by omega) with c | c | c | c | c | c | c
    · rw [c, k7, if_neg (by omega), k6, if_neg (by omega), k5, if_neg (by omega), k4, if_neg (by omega), k3, if_neg (by omega), k2, if_neg (by omega), k1', if_pos ⟨rfl, by omega⟩, v0, e109]
    · rw [c, k7, if_neg (by omega), k6, if_neg (by omega), k5, if_neg (by omega), k4, if_neg (by omega), k3, if_neg (by omega), k2, if_pos ⟨rfl, rfl⟩, v1, e110]
    · rw [c, k7, if_neg (by omega), k6, if_neg (by omega), k5, if_neg (by omega), k4, if_neg (by omega), k3, if_pos ⟨rfl, rfl⟩, v2]
    · rw [c, k7, if_neg (by omega), k6, if_neg (by omega), k5, if_neg (by omega), k4, if_pos ⟨rfl, rfl⟩, v3]
    · rw [c, k7, if_neg (by omega), k6, if_neg (by omega), k5, if_pos ⟨rfl, rfl⟩, v4]
    · rw [c, k7, if_neg (by omega), k6, if_pos ⟨rfl, rfl⟩, v5]
    · rw [c, k7, if_pos ⟨rfl, rfl⟩, v6]
  have F : ∀ a, a ≠ 609 → M200 a = M a := (fun a ha => funext fun b => by rw [k7 a b, if_neg (by omega), k6 a b, if_neg (by omega), k5 a b, if_neg (by omega), k4 a b, if_neg (by omega), k3 a b, if_neg (by omega), k2 a b, if_neg (by omega), k1' a b, if_neg (by omega)])
  rw [n7 _ (by omega), e1] at k8 ⊢
  refine k0 (by unfold ruleF; rw [if_pos hz, if_pos ok, if_neg (by omega)]) M201 (fun a ha => funext fun j => by rw [k8, if_neg (by omega), F a ha]) (funext fun j => ?_)
  by_cases p0 : j < 2 + 67 * z ∨ 69 + 67 * z ≤ j
  · rw [k8, if_neg (by omega), n7 _ (by omega), zput_n p0]
  · rw [zput_i (by omega)]
    by_cases q1 : j = x180 + 1
    · rw [k8, if_pos ⟨rfl, q1⟩, show j - (2 + 67 * z) = 1 by omega, zR_1]
    · rw [k8, if_neg (by omega)]
      by_cases q2 : x186 ≤ j ∧ j < x186 + 7
      · rw [zR_w n1.1 (by omega), show j = x186 + (j - x186) by omega, e7 _ (by omega) (by omega)]; congr 1; omega
      · rw [n7 _ (by omega), zR_n (by omega) (by omega), zsl_at (by omega)]; congr 1; omega
theorem sim_addRule {M : jT} {z y m dt t s : Int} (h : Inv M) (rz : rg z) (ry : rg y) (rm : rg m) (rd : rg dt) (rt : rg t) (rs' : rg s) : wp_X10_addRule M 0 z y m dt t s (fun v M1 => OKq (wp_X11_addRule M1 608 z y m dt t s) v) (fun e M1 => EXq (wp_X11_addRule M1 608 z y m dt t s) [1, 2, 3] e) := by
  have hv := ruleF_v (M 609) z y m dt t s
  unfold wp_X10_addRule
  refine sp_ruleFault h.1.2 h.1.1 rz ry rm rd rt rs' (refuse (by omega) (fun hf => ?_) (fun hf => ?_))
  · obtain ⟨hz, _, h4⟩ := ruleF_0 hf
    have n2 := (h.1.1.2.2.1 z hz.1 hz.2).2.1
    refine c_remember h fun M1 f1 hC1 hX1 hs1 => cs_putRule hC1 hf ry rt fun M2 f2 hC2 => mut_ok h f1 hX1 hs1 f2 hC2 (by omega) fun M3 Q e3 hR3 k => ?_
    refine rs_ruleBy (by rw [e3]; exact h.1.1) rz ry rm rd rt rs' (fun _ M4 F4 e4 => ?_) (fun q => absurd (by rw [e3]; exact hf) q)
    rw [e3] at e4 ⊢
    obtain ⟨g1, g2, g3, g4, g5⟩ := rm9 F4
    exact k M4 g1 g2 g3 g4 g5 e4
  · refine mut_no (k := ruleF (M 609) z y m dt t s) h (by omega) (by rcases hv.resolve_left hf with q | q | q <;> (rw [q]; decide)) (by rcases hv.resolve_left hf with q | q | q <;> (rw [q]; rfl)) fun M3 Q h3 e3 k => ?_
    refine rs_ruleBy h3.1.1 rz ry rm rd rt rs' (fun q => absurd (by rw [← e3]; exact q) hf) (fun q => ?_)
    rw [e3]; exact k M3 h3 rfl rfl
/-! a rule dropped -/
noncomputable def zD (Z : Int → Int) (r : Int) : Int → Int := fun i => if i = 1 then Z 1 - 1 else if 3 + 7 * r ≤ i ∧ i < 3 + 7 * (Z 1 - 1) then Z (i + 7) else Z i
noncomputable def dropF (A : Int → Int) (z r : Int) : Int := if (0 ≤ z ∧ z < A 0) ∧ (0 ≤ r ∧ r < zsl A z 1) then 0 else 1
theorem zD_1 {Z : Int → Int} {r : Int} : zD Z r 1 = Z 1 - 1 := by unfold zD; rw [if_pos rfl]
theorem zD_n {Z : Int → Int} {r i : Int} (h : i ≠ 1) (h2 : i < 3 + 7 * r ∨ 3 + 7 * (Z 1 - 1) ≤ i) : zD Z r i = Z i := by unfold zD; rw [if_neg h, if_neg (by omega)]
theorem zD_w {Z : Int → Int} {r i : Int} (h : i ≠ 1) (h2 : 3 + 7 * r ≤ i ∧ i < 3 + 7 * (Z 1 - 1)) : zD Z r i = Z (i + 7) := by unfold zD; rw [if_neg h, if_pos h2]
theorem zD_o {Z : Int → Int} {r : Int} (hn : 0 ≤ Z 1 ∧ Z 1 ≤ 8) (hr : 0 ≤ r) (h : ∀ i, i < 0 ∨ 67 ≤ i → Z i = 0) : ∀ i, i < 0 ∨ 67 ≤ i → zD Z r i = 0 := fun i hi => by
  rw [zD_n (by omega) (by omega)]; exact h i hi
theorem zD_r {Z : Int → Int} {r i : Int} (hr : 0 ≤ r) (i0 : 0 ≤ i) {j : Int} (j0 : 3 ≤ j) (j1 : j < 10) (i1 : i < Z 1 - 1) : zD Z r (j + 7 * i) = Z (j + 7 * (if i < r then i else i + 1)) := by
  by_cases q : i < r
  · rw [if_pos q, zD_n (by omega) (by omega)]
  · rw [if_neg q, zD_w (by omega) (by omega)]; congr 1; omega
theorem zD_ok {Z : Int → Int} {r : Int} (hZ : ZOk Z) (hr : 0 ≤ r ∧ r < Z 1) : ZOk (zD Z r) := by
  obtain ⟨z0, z1, z2, z3, z4⟩ := hZ
  unfold ZOk
  rw [zD_1, zD_n (i := 0) (by omega) (by omega), zD_n (i := 2) (by omega) (by omega)]
  refine ⟨z0, by omega, z2, fun i i0 i1 => ?_, fun c c0 c1 => ?_⟩
  · rw [zD_r (j := 3) hr.1 i0 (by omega) (by omega) i1, zD_r (j := 4) hr.1 i0 (by omega) (by omega) i1, zD_r (j := 5) hr.1 i0 (by omega) (by omega) i1, zD_r (j := 6) hr.1 i0 (by omega) (by omega) i1, zD_r (j := 7) hr.1 i0 (by omega) (by omega) i1, zD_r (j := 8) hr.1 i0 (by omega) (by omega) i1, zD_r (j := 9) hr.1 i0 (by omega) (by omega) i1]
    have : 0 ≤ (if i < r then i else i + 1) ∧ (if i < r then i else i + 1) < Z 1 := by split <;> omega
    exact z3 _ this.1 this.2
  · rw [zD_n (i := 59 + 2 * c) (by omega) (by omega), zD_n (i := 60 + 2 * c) (by omega) (by omega)]; exact z4 c c0 c1
theorem pf_df {M : jT} {A : Int → Int} {z r : Int} (hB : BEq M 1 A) (hA : AOk A) (rz : rg z) (rr : rg r) : pf_X10_ruleIndexFault M 0 z r = dropF A z r ∧ pg_X10_ruleIndexFault M 0 z r := by
  have a1 := hA.1
  have e1 : 0 ≤ z ∧ z < A 0 → M (4 * z + 4) 1 = zsl A z 1 := fun c => by
    have := (hB.2.2.1 z c.1 c.2).2.1
    rwa [show 1 + 3 + 4 * z = 4 * z + 4 by omega] at this
  unfold pf_X10_ruleIndexFault pg_X10_ruleIndexFault dropF
  simp only [Int.zero_add]
  refine ⟨?_, pgz10 hB hA rz, fun _ => trivial, fun c => ⟨rr, fun _ => trivial, fun _ => ?_⟩⟩
  · by_cases c : 0 ≤ z ∧ z < A 0
    · rw [if_neg (fun q => q ((hz10 hB).mpr c)), e1 c]
      by_cases c2 : r < 0
      · rw [if_pos c2, if_neg (by omega)]
      · rw [if_neg c2]
        by_cases c3 : zsl A z 1 ≤ r
        · rw [if_pos c3, if_neg (by omega)]
        · rw [if_neg c3, if_pos (by omega)]
    · rw [if_pos (fun q => c ((hz10 hB).mp q)), if_neg (fun q => c q.1)]
  · have c := (hz10 hB).mp c
    have n1 := (hA.2.2.1 z c.1 c.2).2.1
    rw [e1 c]
    exact ⟨by omega, ⟨by omega, by omega⟩, fun _ => trivial, fun _ => trivial⟩
theorem dropF_0 {A : Int → Int} {z r : Int} (h : dropF A z r = 0) : (0 ≤ z ∧ z < A 0) ∧ (0 ≤ r ∧ r < zsl A z 1) := by
  unfold dropF at h
  by_cases c : (0 ≤ z ∧ z < A 0) ∧ (0 ≤ r ∧ r < zsl A z 1)
  · exact c
  · rw [if_neg c] at h; omega
theorem dropF_v (A : Int → Int) (z r : Int) : dropF A z r = 0 ∨ dropF A z r = 1 := by
  unfold dropF; split <;> omega
theorem cs_takeRule {M : jT} {A : Int → Int} {z r : Int} {Q : Int → jT → Prop} (h : CA M A) (hf : dropF A z r = 0) (kk : ∀ M', PF M M' → CA M' (zput A z (zD (zsl A z) r)) → Q (zsl A z 1 - 1) M') : wp_X10_takeRule M 0 z r Q := by
  have hA := h.1
  have a1 := hA.1
  obtain ⟨hz, hr⟩ := dropF_0 hf
  have hZ := hA.2.2.1 z hz.1 hz.2
  have n1 := hZ.2.1
  have n2 := hZ.2.2.1
  have ho := zD_o (Z := zsl A z) n1 hr.1 (fun i hi => zsl_o hi)
  have hze := h.2.1.2.2.1 z hz.1 hz.2
  rw [show 1 + 3 + 4 * z = 4 * z + 4 by omega] at hze
  obtain ⟨q0, q1, q2, q3, q4⟩ := hze
  unfold wp_X10_takeRule wp_X9_takeRule
  simp only [Int.zero_add]
  refine ⟨by omega, ?_⟩
  intro x1 e1
  rw [q1]
  refine ⟨by omega, upw_in fun M3 k3 => up_in fun M4 k4 => ?_⟩
  have F3 : ∀ a, a ≠ 4 * z + 4 + 1 → M3 a = M a := (fun a ha => funext fun b => by rw [k3 a b, if_neg (by omega)])
  rw [F3 (4 * z + 4) (by omega), q1] at k4
  have e5 : M4 (4 * z + 4 + 1) = M3 (4 * z + 4 + 1) := funext fun b => by rw [k4, if_neg (by omega)]
  refine cs_zone (Z := zD (zsl A z) r) h hz ho (zD_ok hZ hr) (fun a ha => funext fun j => by rw [k4, if_neg (by omega), F3 a (by omega)]) ⟨?_, ?_, ?_, fun i j r0 r1 j0 j1 => ?_, fun c c0 c1 => ?_⟩ fun M6 f6 g6 hC6 => ?_
  · rw [k4, if_neg (by omega), F3 _ (by omega), zD_n (by omega) (by omega), q0]
  · rw [k4, if_pos ⟨rfl, rfl⟩, zD_1]
  · rw [k4, if_neg (by omega), F3 _ (by omega), zD_n (by omega) (by omega), q2]
  · rw [zD_1] at r1
    rw [e5, show 3 + 7 * i + j = (3 + j) + 7 * i by omega, zD_r hr.1 r0 (by omega) (by omega) r1, k3, if_pos rfl]
    by_cases q : i < r
    · rw [if_pos q, if_neg (by omega), q3 i j r0 (by omega) j0 j1]; congr 1; omega
    · rw [if_neg q, if_pos (by omega), show x1 + (i * 7 + j - r * 7) = (i + 1) * 7 + j by omega, q3 (i + 1) j (by omega) (by omega) j0 j1]; congr 1; omega
  · rw [zD_n (i := 2) (by omega) (by omega)] at c1
    rw [zD_n (i := 59 + 2 * c) (by omega) (by omega), zD_n (i := 60 + 2 * c) (by omega) (by omega)]
    refine ⟨?_, ?_⟩
    · rw [k4, if_neg (by omega), F3 _ (by omega)]; exact (q4 c c0 c1).1
    · rw [k4, if_neg (by omega), F3 _ (by omega)]; exact (q4 c c0 c1).2
  · have v : M6 (4 * z + 4) 1 = zsl A z 1 - 1 := by rw [g6 _ (by omega), k4, if_pos ⟨rfl, rfl⟩]
    rw [v]; exact kk M6 f6 hC6
theorem rs_dropBy {M : jT} {z r : Int} {Q : Int → jT → Prop} (hA : AOk (M 609)) (rz : rg z) (rr : rg r)
    (k0 : dropF (M 609) z r = 0 → ∀ M', (∀ a, a ≠ 609 → M' a = M a) → M' 609 = zput (M 609) z (zD (zsl (M 609) z) r) → Q (zsl (M 609) z 1 - 1) M') (k1 : dropF (M 609) z r ≠ 0 → Q (-dropF (M 609) z r) M) : wp_X11_dropBy M 608 z r Q := by
  have a1 := hA.1
  have no : ¬ ((0 ≤ z ∧ z < M 609 0) ∧ (0 ≤ r ∧ r < zsl (M 609) z 1)) → Q (-1) M := fun q => by
    have e : dropF (M 609) z r = 1 := by unfold dropF; rw [if_neg q]
    rw [e] at k1; exact k1 (by omega)
  have e1 : 0 ≤ z ∧ z < M 609 0 → M 609 (2 + 67 * z + 1) = zsl (M 609) z 1 := fun _ => (zsl_at (by omega)).symm
  have ir : pb_X11_isRule M 608 z r ↔ (0 ≤ z ∧ z < M 609 0) ∧ (0 ≤ r ∧ r < zsl (M 609) z 1) := by
    show (pb_X11_isZone M 608 z ∧ (0 ≤ r ∧ r ≤ M 609 (2 + 67 * z + 1) - 1)) ↔ _
    rw [zi]
    constructor
    · rintro ⟨c, c2⟩; rw [e1 c] at c2; exact ⟨c, by omega⟩
    · rintro ⟨c, c2⟩; rw [e1 c]; exact ⟨c, by omega⟩
  unfold wp_X11_dropBy
  refine ⟨?_, fun c => ?_, fun c => no fun q => c (ir.mpr q)⟩
  · unfold pg_X11_isRule
    refine ⟨pgz hA rz, fun _ => trivial, fun c => ?_⟩
    have c := zi.mp c
    have n1 := (hA.2.2.1 z c.1 c.2).2.1
    rw [zAt]
    simp only [Int.reduceAdd]
    rw [e1 c]
    exact ⟨by omega, pg_in rr ⟨by omega, by omega⟩ ⟨by omega, by omega⟩, fun _ => trivial, fun _ => trivial⟩
  · obtain ⟨hz, hr⟩ := ir.mp c
    have n1 := (hA.2.2.1 z hz.1 hz.2).2.1
    intro x7 e7 x10 e10
    rw [zAt] at e7
    rw [rAt] at e10
    simp only [Int.reduceAdd]
    refine ⟨fun n i M12 => x10 ≤ i ∧ i ≤ 2 + 67 * z + 3 + 7 * (zsl (M 609) z 1 - 1) ∧ (2 + 67 * z + 3 + 7 * (zsl (M 609) z 1 - 1) - i).toNat ≤ n ∧ (∀ a, a ≠ 609 → M12 a = M a) ∧ ∀ j, M12 609 j = if x10 ≤ j ∧ j < i then M 609 (j + 7) else M 609 j, ⟨(2 + 67 * z + 3 + 7 * (zsl (M 609) z 1 - 1) - x10).toNat, by omega, by omega, by omega, fun _ _ => rfl, fun j => by rw [if_neg (by omega)]⟩, ?_⟩
    rintro n14 x11 M12 ⟨i0, i1, i2, F12, h12⟩
    have e12 : M12 609 (x7 + 1) = zsl (M 609) z 1 := by rw [h12, if_neg (by omega), e7, e1 hz]
    rw [e12, rAt]
    refine ⟨by omega, ⟨by omega, by omega⟩, ⟨by omega, by omega⟩, fun c2 => up_in fun M21 k21 => ?_, fun c2 => ⟨by omega, by omega, up_in fun M24 k24 => ?_⟩⟩
    · refine k0 (by unfold dropF; rw [if_pos ⟨hz, hr⟩]) M21 (fun a ha => funext fun j => by rw [k21, if_neg (by omega), F12 a ha]) (funext fun j => ?_)
      by_cases p0 : j < 2 + 67 * z ∨ 69 + 67 * z ≤ j
      · rw [k21, if_neg (by omega), h12, if_neg (by omega), zput_n p0]
      · rw [zput_i (by omega)]
        by_cases q1 : j = x7 + 1
        · rw [k21, if_pos ⟨rfl, q1⟩, show j - (2 + 67 * z) = 1 by omega, zD_1]
        · rw [k21, if_neg (by omega), h12]
          by_cases q2 : x10 ≤ j ∧ j < x11
          · rw [if_pos q2, zD_w (by omega) (by omega), zsl_at (by omega)]; congr 1; omega
          · rw [if_neg q2, zD_n (by omega) (by omega), zsl_at (by omega)]; congr 1; omega
    · intro x25 e25
      refine ⟨(2 + 67 * z + 3 + 7 * (zsl (M 609) z 1 - 1) - x25).toNat, by omega, by omega, by omega, by omega, (fun a ha => by rw [← F12 a ha]; funext b; rw [k24, if_neg (by omega)]), fun j => ?_⟩
      by_cases q : j = x11
      · rw [q, k24, if_pos ⟨rfl, rfl⟩, if_pos (by omega), h12, if_neg (by omega)]
      · rw [k24, if_neg (by omega), h12]
        by_cases q2 : x10 ≤ j ∧ j < x11
        · rw [if_pos q2, if_pos (by omega)]
        · rw [if_neg q2, if_neg (by omega)]
theorem sim_dropRule {M : jT} {z r : Int} (h : Inv M) (rz : rg z) (rr : rg r) : wp_X10_dropRule M 0 z r (fun v M1 => OKq (wp_X11_dropRule M1 608 z r) v) (fun e M1 => EXq (wp_X11_dropRule M1 608 z r) [1] e) := by
  obtain ⟨pf, pg⟩ := pf_df h.1.2 h.1.1 rz rr
  have hv := dropF_v (M 609) z r
  unfold wp_X10_dropRule
  rw [pf]
  refine ⟨pg, refuse (by omega) (fun hf => ?_) (fun hf => ?_)⟩
  · obtain ⟨hz, hr⟩ := dropF_0 hf
    have n2 := (h.1.1.2.2.1 z hz.1 hz.2).2.1
    refine c_remember h fun M1 f1 hC1 hX1 hs1 => cs_takeRule hC1 hf fun M2 f2 hC2 => mut_ok h f1 hX1 hs1 f2 hC2 (by omega) fun M3 Q e3 hR3 k => ?_
    refine rs_dropBy (by rw [e3]; exact h.1.1) rz rr (fun _ M4 F4 e4 => ?_) (fun q => absurd (by rw [e3]; exact hf) q)
    rw [e3] at e4 ⊢
    obtain ⟨g1, g2, g3, g4, g5⟩ := rm9 F4
    exact k M4 g1 g2 g3 g4 g5 e4
  · have q := hv.resolve_left hf
    refine mut_no (k := dropF (M 609) z r) h (by omega) (by rw [q]; decide) (by rw [q]; rfl) fun M3 Q h3 e3 k => ?_
    refine rs_dropBy h3.1.1 rz rr (fun q => absurd (by rw [← e3]; exact q) hf) (fun q => ?_)
    rw [e3]; exact k M3 h3 rfl rfl
