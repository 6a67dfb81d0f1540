/-! a zone changed -/
noncomputable def zput (A : Int → Int) (z : Int) (Z : Int → Int) : Int → Int := fun i => if 2 + 67 * z ≤ i ∧ i < 69 + 67 * z then Z (i - (2 + 67 * z)) else A i
theorem zput_n {A Z : Int → Int} {z i : Int} (h : i < 2 + 67 * z ∨ 69 + 67 * z ≤ i) : zput A z Z i = A i := by unfold zput; rw [if_neg (by omega)]
theorem zput_i {A Z : Int → Int} {z i : Int} (h : 2 + 67 * z ≤ i ∧ i < 69 + 67 * z) : zput A z Z i = Z (i - (2 + 67 * z)) := by unfold zput; rw [if_pos h]
theorem zput_0 {A Z : Int → Int} {z : Int} (hz : 0 ≤ z) : zput A z Z 0 = A 0 := zput_n (by omega)
theorem zput_1 {A Z : Int → Int} {z : Int} (hz : 0 ≤ z) : zput A z Z 1 = A 1 := zput_n (by omega)
theorem zput_y {A Z : Int → Int} {z y : Int} (h : y ≠ z) : zsl (zput A z Z) y = zsl A y := zsl_eq fun i i0 i1 => zput_n (by omega)
theorem zput_m {A Z : Int → Int} {z m : Int} (hz : z < 6) (hm : 0 ≤ m) : msl (zput A z Z) m = msl A m := msl_eq fun i i0 i1 => zput_n (by omega)
theorem zput_z {A Z : Int → Int} {z : Int} (h : ∀ i, i < 0 ∨ 67 ≤ i → Z i = 0) : zsl (zput A z Z) z = Z := by
  funext i; unfold zsl
  by_cases c : 0 ≤ i ∧ i < 67
  · rw [if_pos c]; unfold zput; rw [if_pos (by omega)]; congr 1; omega
  · rw [if_neg c, h i (by omega)]
theorem zsl_o {A : Int → Int} {z i : Int} (h : i < 0 ∨ 67 ≤ i) : zsl A z i = 0 := by unfold zsl; rw [if_neg (by omega)]
theorem zput_ok {A Z : Int → Int} {z : Int} (hA : AOk A) (hz : 0 ≤ z ∧ z < A 0) (ho : ∀ i, i < 0 ∨ 67 ≤ i → Z i = 0) (ok : ZOk Z) : AOk (zput A z Z) := by
  have a1 := hA.1
  unfold AOk
  rw [zput_0 hz.1, zput_1 hz.1]
  refine ⟨hA.1, hA.2.1, fun y y0 y1 => ?_, fun m m0 m1 => ?_⟩
  · by_cases c : y = z
    · rw [c, zput_z ho]; exact ok
    · rw [zput_y c]; exact hA.2.2.1 y y0 y1
  · rw [zput_m (by omega) m0]; exact hA.2.2.2 m m0 m1
theorem cs_zone {M M4 : jT} {A Z : Int → Int} {z : Int} {Q : jT → Prop} (h : CA M A) (hz : 0 ≤ z ∧ z < A 0) (ho : ∀ i, i < 0 ∨ 67 ≤ i → Z i = 0) (ok : ZOk Z) (F : ∀ a, a < 4 * z + 4 ∨ 4 * z + 7 < a → M4 a = M a) (hZ : ZEq M4 (4 * z + 4) Z)
    (kk : ∀ M', PF M M' → (∀ a, a < 521 → M' a = M4 a) → CA M' (zput A z Z) → Q M') : wp_X10_spoil M4 0 z Q := by
  obtain ⟨hA, hB, hC⟩ := h
  have a1 := hA.1
  have a2 := hA.2.1
  have ok' := zput_ok hA hz ho ok
  refine sp_spoil (A := A) (A' := zput A z Z) (by omega) hA ok' (hC.mv hA (fun a _ _ => F a (by omega))) (fun y y0 y1 yn => ?_) (zput_1 hz.1) (fun m m0 _ => zput_m (by omega) m0) fun M8 F8 hC8 => kk M8 (fun a _ _ => (F8 a (by omega)).trans (F a (by omega))) (fun a _ => F8 a (by omega)) ⟨ok', BEq.mv (M := M4) ok' ?_ (fun a _ _ => F8 a (by omega)), hC8⟩
  · rw [zput_0 hz.1] at y1; exact ⟨y1, zput_y yn⟩
  · unfold BEq
    rw [zput_0 hz.1, zput_1 hz.1, F 1 (by omega)]
    refine ⟨hB.1, hB.2.1, fun y y0 y1 => ?_, fun m m0 m1 => ?_⟩
    · by_cases c : y = z
      · rw [c, zput_z ho, show 1 + 3 + 4 * z = 4 * z + 4 by omega]; exact hZ
      · rw [zput_y c]
        exact (hB.2.2.1 y y0 y1).mv (F _ (by omega)) (F _ (by omega)) (F _ (by omega)) (F _ (by omega))
    · rw [zput_m (by omega) m0]
      exact (hB.2.2.2 m m0 m1).mv (F _ (by omega)) (F _ (by omega))
/-- class and reference together -/
theorem mut_ok {M M1 M2 : jT} {A' : Int → Int} {v : Int} {By : jT → (Int → jT → Prop) → Prop} (h : Inv M) (f1 : MF M M1) (hX1 : HXc M1 (min (M 48 0 + 1) 8) (pu (M 48 0) (ksl (M 610)) (M 609))) (hs1 : HXs M1) (f2 : PF M1 M2) (hC2 : CA M2 A') (hv : 0 ≤ v ∧ v < 2147483648)
    (hby : ∀ (M3 : jT) (Q : Int → jT → Prop), M3 609 = M 609 → RC M3 → (∀ M4, RM M3 M4 → M4 610 = M3 610 → M4 612 = M3 612 → M4 608 0 = M3 608 0 → M4 608 3 = M3 608 3 → M4 609 = A' → Q v M4) → By M3 Q) :
    OKq (fun Q => wp_X11_tries M2 608 (fun M3 => By M3 (fun z3 M4 => wp_X11_ends M4 608 z3 Q))) v := by
  have f12 := f1.trans f2.mf
  have hX2 := hX1.mv (M' := M2) (fun a ha => f2 a (by omega) (by omega))
  have hs2 := hs1.mv (M' := M2) (by rw [f2 48 (by omega) (by omega)]) (fun a _ _ => f2 a (by omega) (by omega)) (by rw [f2 608 (by omega) (by omega)]) (f2 611 (by omega) (by omega))
  unfold OKq
  refine mut_tries h f12 fun M3 f3 e3 hR3 t3 h12 hr3 => hby M3 _ e3 hR3 fun M4 f4 e610 e612 c0 c3 e9 => ?_
  exact mut_ends h f12 hC2 hX2 hs2 (f3.trans f4) (by rw [c0, t3]) (fun i _ _ => by rw [e9]) (by rw [e612]; exact h12) (hr3.mv c3 e610) ⟨hv.1, by omega, hv.2⟩
theorem mut_no {M : jT} {k : Int} {l : List Nat} {e : Nat} {By : jT → (Int → jT → Prop) → Prop} (h : Inv M) (hk : 0 < k ∧ k ≤ 5) (hl : e ∈ l) (he : kx l e = k)
    (hby : ∀ (M3 : jT) (Q : Int → jT → Prop), Inv M3 → M3 609 = M 609 → (∀ M4, Inv M4 → M4 609 = M3 609 → M4 612 = M3 612 → Q (-k) M4) → By M3 Q) : EXq (fun Q => wp_X11_tries M 608 (fun M3 => By M3 (fun z3 M4 => wp_X11_ends M4 608 z3 Q))) l e := by
  refine ⟨hl, tr h fun M3 h3 F3 t3 e12 => ?_⟩
  have e3 : M3 609 = M 609 := F3 609 (by omega) (by omega)
  refine hby M3 _ h3 e3 fun M4 h4 e49 e412 => sp_ends_no h4 (by rw [e49, e412, e3]; exact e12) ⟨⟨by omega, by omega⟩, by omega⟩ fun M5 h5 t5 => ⟨?_, h5⟩
  rw [t5, he]; omega
theorem rm9 {M M' : jT} (F : ∀ a, a ≠ 609 → M' a = M a) : RM M M' ∧ M' 610 = M 610 ∧ M' 612 = M 612 ∧ M' 608 0 = M 608 0 ∧ M' 608 3 = M 608 3 := by
  have e := F 608 (by omega)
  exact ⟨RM.of (fun a ha => F a (by omega)) (fun b _ => by rw [e]), F _ (by omega), F _ (by omega), by rw [e], by rw [e]⟩
/-! its base changed from a day on -/
noncomputable def zB (Z : Int → Int) (d b : Int) : Int → Int := fun i => if i = 2 then Z 2 + 1 else if i = 60 + 2 * Z 2 then b else if i = 59 + 2 * Z 2 then d else Z i
noncomputable def baseF (A : Int → Int) (z d b : Int) : Int := if 0 ≤ z ∧ z < A 0 then (if (0 ≤ d ∧ d ≤ 11687) ∧ (-720 ≤ b ∧ b ≤ 840) then (if 4 ≤ zsl A z 2 then 3 else 0) else 2) else 1
theorem baseF_v (A : Int → Int) (z d b : Int) : baseF A z d b = 0 ∨ baseF A z d b = 1 ∨ baseF A z d b = 2 ∨ baseF A z d b = 3 := by
  unfold baseF; (repeat' split) <;> omega
theorem baseF_0 {A : Int → Int} {z d b : Int} (h : baseF A z d b = 0) : (0 ≤ z ∧ z < A 0) ∧ (0 ≤ d ∧ d ≤ 11687) ∧ (-720 ≤ b ∧ b ≤ 840) ∧ zsl A z 2 < 4 := by
  unfold baseF at h
  by_cases c : 0 ≤ z ∧ z < A 0
  · rw [if_pos c] at h
    by_cases c2 : (0 ≤ d ∧ d ≤ 11687) ∧ (-720 ≤ b ∧ b ≤ 840)
    · rw [if_pos c2] at h
      by_cases c3 : 4 ≤ zsl A z 2
      · rw [if_pos c3] at h; omega
      · exact ⟨c, c2.1, c2.2, by omega⟩
    · rw [if_neg c2] at h; omega
  · rw [if_neg c] at h; omega
theorem zB_o {Z : Int → Int} {d b : Int} (hn : 0 ≤ Z 2 ∧ Z 2 < 4) (h : ∀ i, i < 0 ∨ 67 ≤ i → Z i = 0) : ∀ i, i < 0 ∨ 67 ≤ i → zB Z d b i = 0 := fun i hi => by
  unfold zB; rw [if_neg (by omega), if_neg (by omega), if_neg (by omega)]; exact h i hi
theorem zB_n {Z : Int → Int} {d b i : Int} (h : i ≠ 2 ∧ i ≠ 60 + 2 * Z 2 ∧ i ≠ 59 + 2 * Z 2) : zB Z d b i = Z i := by
  unfold zB; rw [if_neg h.1, if_neg h.2.1, if_neg h.2.2]
theorem zB_2 {Z : Int → Int} {d b : Int} : zB Z d b 2 = Z 2 + 1 := by unfold zB; rw [if_pos rfl]
theorem zB_d {Z : Int → Int} {d b : Int} (h : 0 ≤ Z 2) : zB Z d b (59 + 2 * Z 2) = d := by unfold zB; rw [if_neg (by omega), if_neg (by omega), if_pos rfl]
theorem zB_b {Z : Int → Int} {d b : Int} (h : 0 ≤ Z 2) : zB Z d b (60 + 2 * Z 2) = b := by unfold zB; rw [if_neg (by omega), if_pos rfl]
theorem zB_ok {Z : Int → Int} {d b : Int} (hZ : ZOk Z) (hd : 0 ≤ d ∧ d ≤ 11687) (hb : -720 ≤ b ∧ b ≤ 840) (h4 : Z 2 < 4) : ZOk (zB Z d b) := by
  obtain ⟨z0, z1, z2, z3, z4⟩ := hZ
  unfold ZOk
  rw [zB_2, zB_n (i := 0) (by omega), zB_n (i := 1) (by omega)]
  refine ⟨z0, z1, by omega, fun r r0 r1 => ?_, fun c c0 c1 => ?_⟩
  · rw [zB_n (i := 3 + 7 * r) (by omega), zB_n (i := 4 + 7 * r) (by omega), zB_n (i := 5 + 7 * r) (by omega), zB_n (i := 6 + 7 * r) (by omega), zB_n (i := 7 + 7 * r) (by omega), zB_n (i := 8 + 7 * r) (by omega), zB_n (i := 9 + 7 * r) (by omega)]
    exact z3 r r0 r1
  · by_cases q : c = Z 2
    · rw [q, zB_d z2.1, zB_b z2.1]; omega
    · rw [zB_n (i := 59 + 2 * c) (by omega), zB_n (i := 60 + 2 * c) (by omega)]; exact z4 c c0 (by omega)
theorem pf_bf {M : jT} {A : Int → Int} {z d b : Int} (hB : BEq M 1 A) (hA : AOk A) (rz : rg z) (rd : rg d) (rb : rg b) : pf_X10_changeFault M 0 z d b = baseF A z d b ∧ pg_X10_changeFault M 0 z d b := by
  have a1 := hA.1
  have e := hB.1
  have hp : pb_X10_hasZone M 0 z ↔ 0 ≤ z ∧ z < A 0 := by
    unfold pb_X10_hasZone; rw [Int.zero_add, e]
  have e2 : 0 ≤ z ∧ z < A 0 → M (4 * z + 4) 2 = zsl A z 2 := fun c => by
    have := (hB.2.2.1 z c.1 c.2).2.2.1
    rwa [show 1 + 3 + 4 * z = 4 * z + 4 by omega] at this
  have pg : pg_X10_hasZone M 0 z := by
    unfold pg_X10_hasZone
    simp only [Int.zero_add, e]
    exact ⟨rz, fun _ => trivial, fun _ => ⟨⟨by omega, by omega⟩, fun _ => trivial, fun _ => trivial⟩⟩
  unfold pf_X10_changeFault baseF pg_X10_changeFault
  simp only [Int.zero_add]
  refine ⟨?_, pg, fun c => ⟨(pgd rd).1, fun _ => trivial, fun _ => ⟨(pgd rb).2.2.2.1, fun _ => ⟨?_, ?_, fun _ => trivial, fun _ => trivial⟩, fun _ => trivial⟩⟩, fun _ => trivial⟩
  · by_cases c : 0 ≤ z ∧ z < A 0
    · rw [if_pos (hp.mpr c), if_pos c, e2 c]
      by_cases c2 : 0 ≤ d ∧ d ≤ 11687
      · rw [if_neg (fun q => q c2)]
        by_cases c3 : -720 ≤ b ∧ b ≤ 840
        · rw [if_pos (show pb_X10_isBase b from c3), if_pos (show (0 ≤ d ∧ d ≤ 11687) ∧ (-720 ≤ b ∧ b ≤ 840) from ⟨c2, c3⟩)]
        · rw [if_neg (show ¬ pb_X10_isBase b from c3), if_neg (fun q => c3 q.2)]
      · rw [if_pos c2, if_neg (fun q => c2 q.1)]
    · rw [if_neg (fun q => c (hp.mp q)), if_neg c]
  · have := hp.mp c; omega
  · have c := hp.mp c
    rw [e2 c]; have := (hA.2.2.1 z c.1 c.2).2.2.1; exact ⟨by omega, by omega⟩
theorem cs_putBase {M : jT} {A : Int → Int} {z d b : Int} {Q : Int → jT → Prop} (h : CA M A) (hf : baseF A z d b = 0) (kk : ∀ M', PF M M' → CA M' (zput A z (zB (zsl A z) d b)) → Q (zsl A z 2) M') : wp_X10_putChange M 0 z d b Q := by
  have hA := h.1
  have a1 := hA.1
  obtain ⟨hz, hd, hb, h4⟩ := baseF_0 hf
  have hZ := hA.2.2.1 z hz.1 hz.2
  have n2 := hZ.2.2.1
  have ho := zB_o (Z := zsl A z) (d := d) (b := b) ⟨n2.1, h4⟩ (fun i hi => zsl_o hi)
  have hze := h.2.1.2.2.1 z hz.1 hz.2
  rw [show 1 + 3 + 4 * z = 4 * z + 4 by omega] at hze
  obtain ⟨q0, q1, q2, q3, q4⟩ := hze
  unfold wp_X10_putChange wp_X9_putChange
  simp only [Int.zero_add]
  refine ⟨by omega, by omega, up_in fun M2 k2 => ?_⟩
  have F2 : ∀ a, a ≠ 4 * z + 6 → M2 a = M a := (fun a ha => funext fun b => by rw [k2 a b, if_neg (by omega)])
  rw [F2 (4 * z + 4) (by omega)]
  refine ⟨by omega, up_in fun M4 k4 => ?_⟩
  have F4 : ∀ a, a ≠ 4 * z + 7 → M4 a = M2 a := (fun a ha => funext fun b => by rw [k4 a b, if_neg (by omega)])
  refine up_in fun M5 k5 => ?_
  rw [F4 (4 * z + 4) (by omega), F2 (4 * z + 4) (by omega)] at k5
  rw [q2] at k2 k4 k5
  have v : M5 (4 * z + 4) 2 - 1 = zsl A z 2 := by rw [k5, if_pos ⟨rfl, rfl⟩]; omega
  rw [v]
  refine cs_zone (Z := zB (zsl A z) d b) h hz ho (zB_ok hZ hd hb h4) (fun a ha => funext fun j => by rw [k5, if_neg (by omega), k4, if_neg (by omega), k2, if_neg (by omega)]) ⟨?_, ?_, ?_, fun r j r0 r1 j0 j1 => ?_, fun c c0 c1 => ?_⟩ fun M6 f6 g6 hC6 => kk M6 f6 hC6
  · rw [k5, if_neg (by omega), k4, if_neg (by omega), k2, if_neg (by omega), zB_n (by omega), q0]
  · rw [k5, if_neg (by omega), k4, if_neg (by omega), k2, if_neg (by omega), zB_n (by omega), q1]
  · rw [k5, if_pos ⟨rfl, rfl⟩, zB_2]
  · rw [zB_n (i := 1) (by omega)] at r1
    have := hZ.2.1
    rw [k5, if_neg (by omega), k4, if_neg (by omega), k2, if_neg (by omega), q3 r j r0 r1 j0 j1, zB_n (by omega)]
  · rw [zB_2] at c1
    by_cases q : c = zsl A z 2
    · rw [q, zB_d n2.1, zB_b n2.1]
      refine ⟨?_, ?_⟩
      · rw [k5, if_neg (by omega), k4, if_neg (by omega), k2, if_pos ⟨by omega, rfl⟩]
      · rw [k5, if_neg (by omega), k4, if_pos ⟨by omega, rfl⟩]
    · rw [zB_n (i := 59 + 2 * c) (by omega), zB_n (i := 60 + 2 * c) (by omega)]
      refine ⟨?_, ?_⟩
      · rw [k5, if_neg (by omega), k4, if_neg (by omega), k2, if_neg (by omega)]; exact (q4 c c0 (by omega)).1
      · rw [k5, if_neg (by omega), k4, if_neg (by omega), k2, if_neg (by omega)]; exact (q4 c c0 (by omega)).2
theorem pgz {M : jT} {z : Int} (hA : AOk (M 609)) (hz : rg z) : pg_X11_isZone M 608 z := by
  have a1 := hA.1
  unfold pg_X11_isZone; simp only [Int.reduceAdd]
  exact ⟨pg_in hz ⟨by omega, by omega⟩ ⟨by omega, by omega⟩, trivial⟩
theorem rs_baseBy {M : jT} {z d b : Int} {Q : Int → jT → Prop} (hA : AOk (M 609)) (rz : rg z) (rd : rg d) (rb : rg b)
    (k0 : baseF (M 609) z d b = 0 → ∀ M', (∀ a, a ≠ 609 → M' a = M a) → M' 609 = zput (M 609) z (zB (zsl (M 609) z) d b) → Q (zsl (M 609) z 2) M') (k1 : baseF (M 609) z d b ≠ 0 → Q (-baseF (M 609) z d b) M) : wp_X11_baseBy M 608 z d b Q := by
  have a1 := hA.1
  have no : ∀ v : Int, v ≠ 0 → baseF (M 609) z d b = v → Q (-v) M := fun v h e => by rw [← e]; exact k1 (by rw [e]; exact h)
  unfold wp_X11_baseBy
  simp only [Int.reduceAdd]
  refine ⟨pgz hA rz, fun c => ?_, fun c => no 1 (by omega) (by unfold baseF; rw [if_neg (fun q => c (zi.mpr q))])⟩
  have hz := zi.mp c
  refine ⟨(pgr rd).1, ¬ ((0 ≤ d ∧ d ≤ 11687) ∧ (-720 ≤ b ∧ b ≤ 840)), fun q => no 2 (by omega) (by unfold baseF; rw [if_pos hz, if_neg q]), fun q q2 => q q2.1, fun cd => ⟨(pgr rb).2.2.2, fun cb => ?_, fun q q2 => q q2.2⟩⟩
  have cd : 0 ≤ d ∧ d ≤ 11687 := cd
  have cb : -720 ≤ b ∧ b ≤ 840 := cb
  intro x32 e32
  rw [zAt] at e32
  have hZ := hA.2.2.1 z hz.1 hz.2
  have n2 := hZ.2.2.1
  have e2 : M 609 (x32 + 2) = zsl (M 609) z 2 := by rw [e32]; exact (zsl_at (by omega)).symm
  rw [e2]
  refine ⟨by omega, ⟨by omega, by omega⟩, fun c4 => ⟨by omega, up_in fun M37 k37 => ?_⟩, fun c4 => no 3 (by omega) (by unfold baseF; rw [if_pos hz, if_pos ⟨cd, cb⟩, if_pos (by omega)])⟩
  have r37 : M37 609 (x32 + 2) = zsl (M 609) z 2 := by rw [k37, if_neg (by omega), e2]
  rw [r37]
  refine ⟨by omega, up_in fun M39 k39 => up_in fun M40 k40 => ?_⟩
  have r39 : M39 609 (x32 + 2) = zsl (M 609) z 2 := by rw [k39, if_neg (by omega), r37]
  rw [r39] at k40 ⊢
  refine k0 (by unfold baseF; rw [if_pos hz, if_pos ⟨cd, cb⟩, if_neg (by omega)]) M40 (fun a ha => funext fun j => by rw [k40, if_neg (by omega), k39, if_neg (by omega), k37, if_neg (by omega)]) (funext fun j => ?_)
  by_cases p0 : j < 2 + 67 * z ∨ 69 + 67 * z ≤ j
  · rw [k40, if_neg (by omega), k39, if_neg (by omega), k37, if_neg (by omega), zput_n p0]
  · rw [zput_i (by omega)]
    by_cases p1 : j = x32 + 2
    · rw [k40, if_pos ⟨rfl, p1⟩, show j - (2 + 67 * z) = 2 by omega, zB_2]
    · by_cases p2 : j = x32 + 59 + 2 * zsl (M 609) z 2 + 1
      · rw [k40, if_neg (by omega), k39, if_pos ⟨rfl, p2⟩, show j - (2 + 67 * z) = 60 + 2 * zsl (M 609) z 2 by omega, zB_b n2.1]
      · by_cases p3 : j = x32 + 59 + 2 * zsl (M 609) z 2
        · rw [k40, if_neg (by omega), k39, if_neg (by omega), k37, if_pos ⟨rfl, p3⟩, show j - (2 + 67 * z) = 59 + 2 * zsl (M 609) z 2 by omega, zB_d n2.1]
        · rw [k40, if_neg (by omega), k39, if_neg (by omega), k37, if_neg (by omega), zB_n (by omega), zsl_at (by omega)]; congr 1; omega
theorem sim_changeBase {M : jT} {z d b : Int} (h : Inv M) (rz : rg z) (rd : rg d) (rb : rg b) : wp_X10_changeBase M 0 z d b (fun v M1 => OKq (wp_X11_changeBase M1 608 z d b) v) (fun e M1 => EXq (wp_X11_changeBase M1 608 z d b) [1, 2, 3] e) := by
  obtain ⟨pf, pg⟩ := pf_bf h.1.2 h.1.1 rz rd rb
  have hv := baseF_v (M 609) z d b
  unfold wp_X10_changeBase
  rw [pf]
  refine ⟨pg, refuse (by omega) (fun hf => ?_) (fun hf => ?_)⟩
  · obtain ⟨hz, _, _, h4⟩ := baseF_0 hf
    have n2 := (h.1.1.2.2.1 z hz.1 hz.2).2.2.1
    refine c_remember h fun M1 f1 hC1 hX1 hs1 => cs_putBase hC1 hf fun M2 f2 hC2 => mut_ok h f1 hX1 hs1 f2 hC2 (by omega) fun M3 Q e3 hR3 k => ?_
    refine rs_baseBy (by rw [e3]; exact h.1.1) rz rd rb (fun _ M4 F4 e4 => ?_) (fun q => absurd (by rw [e3]; exact hf) q)
    rw [e3] at e4 ⊢
    obtain ⟨g1, g2, g3, g4, g5⟩ := rm9 F4
    exact k M4 g1 g2 g3 g4 g5 e4
  · refine mut_no (k := baseF (M 609) z d b) h (by omega) (by rcases hv.resolve_left hf with q | q | q <;> (rw [q]; decide)) (by rcases hv.resolve_left hf with q | q | q <;> (rw [q]; rfl)) fun M3 Q h3 e3 k => ?_
    refine rs_baseBy h3.1.1 rz rd rb (fun q => absurd (by rw [← e3]; exact q) hf) (fun q => ?_)
    rw [e3]; exact k M3 h3 rfl rfl
