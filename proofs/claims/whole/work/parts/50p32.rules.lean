/-! rules added and dropped -/
noncomputable def w7 (y m dt t s : Int) : Int → Int := fun j => if j = 0 then y / 100 else if j = 1 then y % 100 else if j = 2 then m else if j = 3 then dt else if j = 4 then t / 10 else if j = 5 then t % 10 else s
theorem w7_v (y m dt t s : Int) : w7 y m dt t s 0 = y / 100 ∧ w7 y m dt t s 1 = y % 100 ∧ w7 y m dt t s 2 = m ∧ w7 y m dt t s 3 = dt ∧ w7 y m dt t s 4 = t / 10 ∧ w7 y m dt t s 5 = t % 10 ∧ w7 y m dt t s 6 = s := by
  refine ⟨?_, ?_, ?_, ?_, ?_, ?_, ?_⟩ <;> simp [w7]
noncomputable def zR (Z : Int → Int) (w : Int → Int) : Int → Int := fun i => if i = 1 then Z 1 + 1 else if 3 + 7 * Z 1 ≤ i ∧ i < 10 + 7 * Z 1 then w (i - (3 + 7 * Z 1)) else Z i
def okR (y m dt t s : Int) : Prop := (0 ≤ y ∧ y / 100 ≤ y % 100 ∧ y % 100 ≤ 31) ∧ (1 ≤ m ∧ m ≤ 12) ∧ dtOk dt ∧ (0 ≤ t ∧ t / 10 ≤ 1439 ∧ t % 10 ≤ 2) ∧ (0 ≤ s ∧ s ≤ 120)
noncomputable def ruleF (A : Int → Int) (z y m dt t s : Int) : Int := if 0 ≤ z ∧ z < A 0 then (@ite Int (okR y m dt t s) (Classical.propDecidable _) (if 8 ≤ zsl A z 1 then 3 else 0) 2) else 1
theorem ruleF_v (A : Int → Int) (z y m dt t s : Int) : ruleF A z y m dt t s = 0 ∨ ruleF A z y m dt t s = 1 ∨ ruleF A z y m dt t s = 2 ∨ ruleF A z y m dt t s = 3 := by
  unfold ruleF; (repeat' split) <;> omega
theorem ruleF_0 {A : Int → Int} {z y m dt t s : Int} (h : ruleF A z y m dt t s = 0) : (0 ≤ z ∧ z < A 0) ∧ okR y m dt t s ∧ zsl A z 1 < 8 := by
  unfold ruleF at h
  by_cases c : 0 ≤ z ∧ z < A 0
  · rw [if_pos c] at h
    by_cases c2 : okR y m dt t s
    · rw [if_pos c2] at h
      by_cases c3 : 8 ≤ zsl A z 1
      · rw [if_pos c3] at h; omega
      · exact ⟨c, c2, by omega⟩
    · rw [if_neg c2] at h; omega
  · rw [if_neg c] at h; omega
theorem zR_1 {Z w : Int → Int} : zR Z w 1 = Z 1 + 1 := by unfold zR; rw [if_pos rfl]
theorem zR_n {Z w : Int → Int} {i : Int} (h : i ≠ 1) (h2 : i < 3 + 7 * Z 1 ∨ 10 + 7 * Z 1 ≤ i) : zR Z w i = Z i := by unfold zR; rw [if_neg h, if_neg (by omega)]
theorem zR_w {Z w : Int → Int} {i : Int} (h : 0 ≤ Z 1) (h2 : 3 + 7 * Z 1 ≤ i ∧ i < 10 + 7 * Z 1) : zR Z w i = w (i - (3 + 7 * Z 1)) := by unfold zR; rw [if_neg (by omega), if_pos h2]
theorem zR_o {Z w : Int → Int} (hn : 0 ≤ Z 1 ∧ Z 1 < 8) (h : ∀ i, i < 0 ∨ 67 ≤ i → Z i = 0) : ∀ i, i < 0 ∨ 67 ≤ i → zR Z w i = 0 := fun i hi => by
  rw [zR_n (by omega) (by omega)]; exact h i hi
theorem zR_ok {Z : Int → Int} {y m dt t s : Int} (hZ : ZOk Z) (h8 : Z 1 < 8) (ok : okR y m dt t s) : ZOk (zR Z (w7 y m dt t s)) := by
  obtain ⟨z0, z1, z2, z3, z4⟩ := hZ
  obtain ⟨o1, o2, o3, o4, o5⟩ := ok
  obtain ⟨v0, v1, v2, v3, v4, v5, v6⟩ := w7_v y m dt t s
  unfold ZOk
  rw [zR_1, zR_n (i := 0) (by omega) (by omega), zR_n (i := 2) (by omega) (by omega)]
  refine ⟨z0, by omega, z2, fun r r0 r1 => ?_, fun c c0 c1 => ?_⟩
  · by_cases q : r = Z 1
    · rw [q, zR_w (i := 3 + 7 * Z 1) (by omega) (by omega), zR_w (i := 4 + 7 * Z 1) (by omega) (by omega), zR_w (i := 5 + 7 * Z 1) (by omega) (by omega), zR_w (i := 6 + 7 * Z 1) (by omega) (by omega), zR_w (i := 7 + 7 * Z 1) (by omega) (by omega), zR_w (i := 8 + 7 * Z 1) (by omega) (by omega), zR_w (i := 9 + 7 * Z 1) (by omega) (by omega)]
      rw [show 3 + 7 * Z 1 - (3 + 7 * Z 1) = 0 by omega, show 4 + 7 * Z 1 - (3 + 7 * Z 1) = 1 by omega, show 5 + 7 * Z 1 - (3 + 7 * Z 1) = 2 by omega, show 6 + 7 * Z 1 - (3 + 7 * Z 1) = 3 by omega, show 7 + 7 * Z 1 - (3 + 7 * Z 1) = 4 by omega, show 8 + 7 * Z 1 - (3 + 7 * Z 1) = 5 by omega, show 9 + 7 * Z 1 - (3 + 7 * Z 1) = 6 by omega]
      rw [v0, v1, v2, v3, v4, v5, v6]
      exact ⟨by omega, by omega, by omega, by omega, by omega, o3, by omega, by omega, by omega, by omega, by omega, by omega⟩
    · rw [zR_n (i := 3 + 7 * r) (by omega) (by omega), zR_n (i := 4 + 7 * r) (by omega) (by omega), zR_n (i := 5 + 7 * r) (by omega) (by omega), zR_n (i := 6 + 7 * r) (by omega) (by omega), zR_n (i := 7 + 7 * r) (by omega) (by omega), zR_n (i := 8 + 7 * r) (by omega) (by omega), zR_n (i := 9 + 7 * r) (by omega) (by omega)]
      exact z3 r r0 (by omega)
  · rw [zR_n (i := 59 + 2 * c) (by omega) (by omega), zR_n (i := 60 + 2 * c) (by omega) (by omega)]; exact z4 c c0 c1
theorem dt10 {d : Int} : pb_X10_isDate d ↔ dtOk d := by
  show (100 ≤ d ∧ ((1000 ≤ d ∧ 1010 ≤ d ∧ d ≤ 1316 ∧ d % 10 ≤ 6) ∨ (d < 1000 ∧ d / 100 ≤ 5 ∧ d % 100 ≤ 6))) ∨ (d < 100 ∧ 1 ≤ d ∧ d ≤ 31) ↔ _
  unfold dtOk; omega
theorem dt11 {d : Int} : pb_X11_isDate d ↔ dtOk d := by
  show (1 ≤ d ∧ d ≤ 31) ∨ ((¬ (100 ≤ d ∧ d ≤ 599) ∧ (1010 ≤ d ∧ d ≤ 1319) ∧ d % 10 ≤ 6) ∨ ((100 ≤ d ∧ d ≤ 599) ∧ d % 100 ≤ 6)) ↔ _
  unfold dtOk; omega
theorem pg_dt10 {d : Int} (h : rg d) : pg_X10_isDate d := by
  unfold pg_X10_isDate
  exact ⟨h, fun c => ⟨fun c2 => ⟨fun _ => trivial, fun c3 => ⟨fun _ => trivial, fun c4 => ⟨by omega, ⟨by omega, by omega⟩, fun _ => trivial, fun _ => trivial⟩⟩⟩, fun c2 => ⟨by omega, ⟨by omega, by omega⟩, fun _ => trivial, fun _ => ⟨⟨by omega, by omega⟩, fun _ => trivial, fun _ => trivial⟩⟩⟩, fun c => ⟨fun _ => trivial, fun _ => ⟨fun _ => trivial, fun _ => trivial⟩⟩⟩
theorem pg_dt11 {d : Int} (h : rg d) : pg_X11_isDate d := by
  have i : ∀ a b : Int, rg a → rg b → pg_X11_in d a b := fun a b ha hb => pg_in h ha hb
  unfold pg_X11_isDate
  refine ⟨i _ _ ⟨by omega, by omega⟩ ⟨by omega, by omega⟩, fun _ => ⟨i _ _ ⟨by omega, by omega⟩ ⟨by omega, by omega⟩, fun _ => ⟨i _ _ ⟨by omega, by omega⟩ ⟨by omega, by omega⟩, fun _ => trivial, fun c => ?_⟩, fun c => ?_⟩, fun _ => trivial⟩
  · have c : 1010 ≤ d ∧ d ≤ 1319 := c
    exact ⟨by omega, ⟨by omega, by omega⟩, fun _ => trivial, fun _ => trivial⟩
  · have c : 100 ≤ d ∧ d ≤ 599 := c
    exact ⟨by omega, ⟨by omega, by omega⟩, fun _ => trivial, fun _ => trivial⟩
theorem pgz10 {M : jT} {A : Int → Int} {z : Int} (hB : BEq M 1 A) (hA : AOk A) (rz : rg z) : pg_X10_hasZone M 0 z := by
  have a1 := hA.1
  have e := hB.1
  unfold pg_X10_hasZone
  simp only [Int.zero_add, e]
  exact ⟨rz, fun _ => trivial, fun _ => ⟨⟨by omega, by omega⟩, fun _ => trivial, fun _ => trivial⟩⟩
theorem hz10 {M : jT} {A : Int → Int} {z : Int} (hB : BEq M 1 A) : pb_X10_hasZone M 0 z ↔ 0 ≤ z ∧ z < A 0 := by
  unfold pb_X10_hasZone; rw [Int.zero_add, hB.1]
theorem sp_ruleFault {M : jT} {A : Int → Int} {z y m dt t s : Int} {Q : Int → Prop} (hB : BEq M 1 A) (hA : AOk A) (rz : rg z) (ry : rg y) (rm : rg m) (rd : rg dt) (rt : rg t) (rs' : rg s) (k : Q (ruleF A z y m dt t s)) : wp_X10_ruleFault M 0 z y m dt t s Q := by
  have a1 := hA.1
  have k3 : (0 ≤ z ∧ z < A 0) → okR y m dt t s → 8 ≤ zsl A z 1 → Q 3 := fun c c2 c3 => by unfold ruleF at k; rwa [if_pos c, if_pos c2, if_pos c3] at k
  have k0 : (0 ≤ z ∧ z < A 0) → okR y m dt t s → zsl A z 1 < 8 → Q 0 := fun c c2 c3 => by unfold ruleF at k; rwa [if_pos c, if_pos c2, if_neg (by omega)] at k
  have k2 : (0 ≤ z ∧ z < A 0) → ¬ okR y m dt t s → Q 2 := fun c c2 => by unfold ruleF at k; rwa [if_pos c, if_neg c2] at k
  have k1 : ¬ (0 ≤ z ∧ z < A 0) → Q 1 := fun c => by unfold ruleF at k; rwa [if_neg c] at k
  unfold wp_X10_ruleFault
  simp only [Int.zero_add]
  refine ⟨pgz10 hB hA rz, fun c => ?_, fun c => k1 fun q => c ((hz10 hB).mpr q)⟩
  have c := (hz10 hB).mp c
  have hZ := hA.2.2.1 z c.1 c.2
  have n1 := hZ.2.1
  have e1 : M (4 * z + 4) 1 = zsl A z 1 := by
    have := (hB.2.2.1 z c.1 c.2).2.1
    rwa [show 1 + 3 + 4 * z = 4 * z + 4 by omega] at this
  rw [e1]
  refine ⟨fun x => x = b2i (0 ≤ y ∧ y / 100 ≤ y % 100 ∧ y % 100 ≤ 31), fun x22 e22 => ⟨fun x => x = b2i (0 ≤ t ∧ t / 10 ≤ 1439 ∧ t % 10 ≤ 2), fun x39 e39 => ⟨fun x => x = b2i (0 ≤ s ∧ s ≤ 120), fun x48 e48 => ?_, ¬ (0 ≤ s ∧ s ≤ 120), fun q => (b2i_f q).symm, rs', fun q => by omega, fun q => ⟨fun q2 => by omega, fun q2 => (b2i_t ⟨q, q2⟩).symm⟩⟩, ¬ (0 ≤ t ∧ t / 10 ≤ 1439 ∧ t % 10 ≤ 2), fun q => (b2i_f q).symm, rt, fun q => by omega, fun q => ⟨by omega, ⟨by omega, by omega⟩, fun q2 => by omega, fun q2 => ⟨⟨by omega, by omega⟩, fun q3 => by omega, fun q3 => (b2i_t ⟨q, by omega, q3⟩).symm⟩⟩⟩, ¬ (0 ≤ y ∧ y / 100 ≤ y % 100 ∧ y % 100 ≤ 31), fun q => (b2i_f q).symm, ry, fun q => by omega, fun q => ⟨by omega, ⟨by omega, by omega⟩, fun q2 => by omega, fun q2 => ⟨⟨by omega, by omega⟩, fun q3 => by omega, fun q3 => ⟨fun q4 => by omega, fun q4 => (b2i_t ⟨q, q4, by omega⟩).symm⟩⟩⟩⟩
  have b1 := b2i_rng (0 ≤ y ∧ y / 100 ≤ y % 100 ∧ y % 100 ≤ 31)
  have b2 := b2i_rng (0 ≤ t ∧ t / 10 ≤ 1439 ∧ t % 10 ≤ 2)
  have b3 := b2i_rng (0 ≤ s ∧ s ≤ 120)
  refine ⟨¬ okR y m dt t s, k2 c, ⟨by omega, by omega⟩, fun q ok => ?_, fun q => ⟨(pgd rm).2.2.1, fun q2 ok => q2 ok.2.1, fun q2 => ⟨pg_dt10 rd, fun q3 ok => q3 (dt10.mpr ok.2.2.1), fun q3 => ⟨⟨by omega, by omega⟩, fun q4 ok => ?_, fun q4 => ⟨⟨by omega, by omega⟩, fun q5 => ⟨by omega, ⟨⟨by omega, by omega⟩, fun _ => trivial, fun _ => trivial⟩, fun x91 g1 g2 => ?_⟩, fun q5 ok => ?_⟩⟩⟩⟩⟩
  · rw [e22, b2i_t ok.1] at q; omega
  · rw [e39, b2i_t ok.2.2.2.1] at q4; omega
  · rw [e22] at q; rw [e39] at q4; rw [e48] at q5
    have ok : okR y m dt t s := ⟨b2i_1.mp q, q2, dt10.mp q3, b2i_1.mp q4, b2i_1.mp q5⟩
    by_cases c8 : 8 ≤ zsl A z 1
    · rw [g1 c8]; exact k3 c ok c8
    · rw [g2 (by omega)]; exact k0 c ok (by omega)
  · rw [e48, b2i_t ok.2.2.2.2] at q5; omega
theorem cs_putRule {M : jT} {A : Int → Int} {z y m dt t s : Int} {Q : Int → jT → Prop} (h : CA M A) (hf : ruleF A z y m dt t s = 0) (ry : rg y) (rt : rg t) (kk : ∀ M', PF M M' → CA M' (zput A z (zR (zsl A z) (w7 y m dt t s))) → Q (zsl A z 1) M') : wp_X10_putRule M 0 z y m dt t s Q := by
  have hA := h.1
  have a1 := hA.1
  obtain ⟨hz, ok, h8⟩ := ruleF_0 hf
  have hZ := hA.2.2.1 z hz.1 hz.2
  have n1 := hZ.2.1
  have n2 := hZ.2.2.1
  have ho := zR_o (Z := zsl A z) (w := w7 y m dt t s) ⟨n1.1, h8⟩ (fun i hi => zsl_o hi)
  have hze := h.2.1.2.2.1 z hz.1 hz.2
  rw [show 1 + 3 + 4 * z = 4 * z + 4 by omega] at hze
  obtain ⟨q0, q1, q2, q3, q4⟩ := hze
  have okz := zR_ok hZ h8 ok
  obtain ⟨o1, o2, o3, o4, o5⟩ := ok
  obtain ⟨v0, v1, v2, v3, v4, v5, v6⟩ := w7_v y m dt t s
  unfold wp_X10_putRule wp_X9_putRule
  simp only [Int.zero_add, Int.add_zero]
  refine ⟨by omega, ?_⟩
  intro x1 e1
  rw [q1] at e1
  refine ⟨by omega, by omega, up_in fun M4 k4 => ⟨by omega, up_in fun M6 k6 => ⟨by omega, up_in fun M8 k8 => ⟨by omega, up_in fun M10 k10 => ⟨by omega, by omega, up_in fun M13 k13 => ⟨by omega, up_in fun M15 k15 => ⟨by omega, up_in fun M17 k17 => up_in fun M18 k18 => ?_⟩⟩⟩⟩⟩⟩⟩
  have F17 : ∀ a, a ≠ 4 * z + 4 + 1 → M17 a = M a := (fun a ha => funext fun b => by rw [k17 a b, if_neg (by omega), k15 a b, if_neg (by omega), k13 a b, if_neg (by omega), k10 a b, if_neg (by omega), k8 a b, if_neg (by omega), k6 a b, if_neg (by omega), k4 a b, if_neg (by omega)])
  rw [F17 (4 * z + 4) (by omega), q1] at k18
  have F18 : ∀ b, M18 (4 * z + 4 + 1) b = M17 (4 * z + 4 + 1) b := fun b => by rw [k18, if_neg (by omega)]
  have v : M18 (4 * z + 4) 1 - 1 = zsl A z 1 := by rw [k18, if_pos ⟨rfl, rfl⟩]; omega
  rw [v]
  have e7 : ∀ j, 0 ≤ j → j < 7 → M17 (4 * z + 4 + 1) (x1 + j) = w7 y m dt t s j := fun j j0 j1 => by
    rcases (show j = 0 ∨ j = 1 ∨ j = 2 ∨ j = 3 ∨ j = 4 ∨ j = 5 ∨ j = 6 by omega) with c | c | c | c | c | c | c
    · rw [c, k17, if_neg (by omega), k15, if_neg (by omega), k13, if_neg (by omega), k10, if_neg (by omega), k8, if_neg (by omega), k6, if_neg (by omega), k4, if_pos ⟨rfl, by omega⟩, v0]
    · rw [c, k17, if_neg (by omega), k15, if_neg (by omega), k13, if_neg (by omega), k10, if_neg (by omega), k8, if_neg (by omega), k6, if_pos ⟨rfl, rfl⟩, v1]
    · rw [c, k17, if_neg (by omega), k15, if_neg (by omega), k13, if_neg (by omega), k10, if_neg (by omega), k8, if_pos ⟨rfl, rfl⟩, v2]
    · rw [c, k17, if_neg (by omega), k15, if_neg (by omega), k13, if_neg (by omega), k10, if_pos ⟨rfl, rfl⟩, v3]
    · rw [c, k17, if_neg (by omega), k15, if_neg (by omega), k13, if_pos ⟨rfl, rfl⟩, v4]
    · rw [c, k17, if_neg (by omega), k15, if_pos ⟨rfl, rfl⟩, v5]
    · rw [c, k17, if_pos ⟨rfl, rfl⟩, v6]
  have n7 : ∀ b, b < x1 → M17 (4 * z + 4 + 1) b = M (4 * z + 4 + 1) b := fun b hb => by
    rw [k17, if_neg (by omega), k15, if_neg (by omega), k13, if_neg (by omega), k10, if_neg (by omega), k8, if_neg (by omega), k6, if_neg (by omega), k4, if_neg (by omega)]
  refine cs_zone (Z := zR (zsl A z) (w7 y m dt t s)) h hz ho okz (fun a ha => funext fun j => by rw [k18, if_neg (by omega), F17 a (by omega)]) ⟨?_, ?_, ?_, fun r j r0 r1 j0 j1 => ?_, fun c c0 c1 => ?_⟩ fun M6 f6 g6 hC6 => kk M6 f6 hC6
  · rw [k18, if_neg (by omega), F17 _ (by omega), zR_n (by omega) (by omega), q0]
  · rw [k18, if_pos ⟨rfl, rfl⟩, zR_1]
  · rw [k18, if_neg (by omega), F17 _ (by omega), zR_n (by omega) (by omega), q2]
  · rw [zR_1] at r1
    rw [F18]
    by_cases q : r = zsl A z 1
    · rw [q, zR_w n1.1 (by omega), show zsl A z 1 * 7 + j = x1 + j by omega, e7 j j0 j1]; congr 1; omega
    · rw [n7 _ (by omega), zR_n (by omega) (by omega)]; exact q3 r j r0 (by omega) j0 j1
  · rw [zR_n (i := 2) (by omega) (by omega)] at c1
    rw [zR_n (i := 59 + 2 * c) (by omega) (by omega), zR_n (i := 60 + 2 * c) (by omega) (by omega)]
    refine ⟨?_, ?_⟩
    · rw [k18, if_neg (by omega), F17 _ (by omega)]; exact (q4 c c0 c1).1
    · rw [k18, if_neg (by omega), F17 _ (by omega)]; exact (q4 c c0 c1).2
