/-! the reference: compiles -/
theorem dec_id {t id : Int} (h : idOk id) : (t * 16 + sO id) / 16 = t ∧ (t * 16 + sO id) % 16 = sO id := by
  have := sO_rng h; omega
theorem fold_ref {M : jT} {z : Int} {Z : Int → Int} {Q : jT → Prop} (ho : ZOk Z) (hz : 0 ≤ z ∧ z < 6) (hZ : ZR M z Z) (hn : M 608 15 = nE Z) (hE : EvOk M (nE Z)) (hC : ∀ v, cnt (kM M) (nE Z).toNat v = cE Z v) (hK : ∀ i, 0 ≤ i → i < nE Z → KOk Z (kE Z i))
    {e : Int} (he : 0 ≤ e) (he2 : e < nE Z) : kM M e = kE Z e ∧ M 616 e = kE Z e / 16 ∧ M 617 e = idO (kE Z e % 16) ∧ idOk (M 617 e) := by
  have h1 := kE_eq hE.1 hC he he2
  have h2 := (hE.2 e he he2).1
  have h3 := dec_id (t := M 616 e) h2
  have h4 : kM M e = M 616 e * 16 + sO (M 617 e) := rfl
  rw [h4] at h1
  rw [h1] at h3
  exact ⟨by rw [h4, h1], h3.1.symm, by rw [h3.2, sO_id h2], h2⟩
/-! what the reference reads for an event -/
theorem id_of {Z : Int → Int} {key x : Int} (ho : ZOk Z) (hK : KOk Z key) (e : x = idO (key % 16)) : (0 ≤ x ∧ x ≤ 103) ∧ (x < 100 → ¬ key % 16 < 4 ∧ x = key % 16 - 4 ∧ 0 ≤ x ∧ x < 8 ∧ x < Z 1) ∧ (100 ≤ x → key % 16 < 4 ∧ x = 100 + key % 16 ∧ x ≤ 103 ∧ x - 100 < Z 2) := by
  obtain ⟨q0, q1, q2⟩ := hK
  have := ho.2.1
  unfold idO at e; omega
theorem rd_C {M : jT} {Z : Int → Int} {key x y z : Int} (ho : ZOk Z) (hZ : ZR M z Z) (hK : KOk Z key) (e : x = idO (key % 16)) (a1 : x < 100 → y = M 609 (pf_X11_ruleAt z x + 5)) (a2 : 100 ≤ x → y = 0) : y = eC Z key := by
  obtain ⟨h1, h2, h3⟩ := id_of ho hK e
  unfold eC
  by_cases q : x < 100
  · obtain ⟨b1, b2, b3, b4, b5⟩ := h2 q
    rw [if_neg b1, a1 q, rAt]
    exact (hZ.at' (i := 8 + 7 * x) (by omega) (by omega)).trans (by rw [b2])
  · obtain ⟨b1, b2, b3, b4⟩ := h3 (by omega)
    rw [if_pos b1]; exact a2 (by omega)
theorem rd_B {M : jT} {Z : Int → Int} {key x y z b x7 : Int} (ho : ZOk Z) (hZ : ZR M z Z) (hK : KOk Z key) (e : x = idO (key % 16)) (e7 : x7 = 2 + 67 * z) (a1 : x < 100 → y = b) (a2 : 100 ≤ x → y = M 609 (((x7 + 59) + (2 * (x - 100))) + 1)) : y = eB Z key b := by
  obtain ⟨h1, h2, h3⟩ := id_of ho hK e
  unfold eB
  by_cases q : x < 100
  · obtain ⟨b1, b2, b3, b4, b5⟩ := h2 q
    rw [if_neg b1, a1 q]
  · obtain ⟨b1, b2, b3, b4⟩ := h3 (by omega)
    rw [if_pos b1, a2 (by omega)]
    exact (hZ.at' (i := 60 + 2 * (x - 100)) (by omega) (by omega)).trans (by rw [show x - 100 = key % 16 by omega])
theorem rd_V {M : jT} {Z : Int → Int} {key x y z v : Int} (ho : ZOk Z) (hZ : ZR M z Z) (hK : KOk Z key) (e : x = idO (key % 16)) (a1 : x < 100 → y = M 609 (pf_X11_ruleAt z x + 6)) (a2 : 100 ≤ x → y = v) : y = eV Z key v := by
  obtain ⟨h1, h2, h3⟩ := id_of ho hK e
  unfold eV
  by_cases q : x < 100
  · obtain ⟨b1, b2, b3, b4, b5⟩ := h2 q
    rw [if_neg b1, a1 q, rAt]
    exact (hZ.at' (i := 9 + 7 * x) (by omega) (by omega)).trans (by rw [b2])
  · obtain ⟨b1, b2, b3, b4⟩ := h3 (by omega)
    rw [if_pos b1]; exact a2 (by omega)
theorem rd_S {Z : Int → Int} {key c x y b v : Int} (ec : c = eC Z key) (h1 : c ≠ 0 ∧ c ≠ 1 → x = 0) (h2 : c ≠ 0 ∧ c = 1 → x = b) (h3 : c = 0 → x = b + v) (hc : 0 ≤ c ∧ c ≤ 2) (hy : y = key / 16 - x) : y = eS Z key b v := by
  rw [hy]; unfold eS; rw [← ec]
  by_cases q3 : c = 0
  · rw [if_neg (by omega), if_pos q3, h3 q3]; omega
  · by_cases q4 : c = 1
    · rw [if_neg (by omega), if_neg q3, h2 ⟨q3, q4⟩]; omega
    · rw [if_pos (by omega), if_neg q3, h1 ⟨q3, q4⟩]; omega
set_option maxHeartbeats 40000000 in
theorem sp_compiles {M : jT} {z : Int} {Z : Int → Int} {Q : jT → Prop} (ho : ZOk Z) (hz : 0 ≤ z ∧ z < 6) (hZ : ZR M z Z) (hg : rg (M 608 14)) (hc : M 608 14 = z → Rl M Z)
    (kk : ∀ M', (∀ a, a ≠ 608 → (a < 616 ∨ 625 < a) → M' a = M a) → (∀ b, b ≠ 14 → b ≠ 15 → b ≠ 18 → b ≠ 24 → M' 608 b = M 608 b) → M' 608 14 = z → Rl M' Z → Q M') : wp_X11_compiles M 608 z Q := by
  have hnE := nE_rng ho
  have ho1 := ho.2.1
  have ho2 := ho.2.2.1
  unfold wp_X11_compiles
  simp only [Int.reduceAdd]
  refine ⟨hg, ⟨by omega, by omega⟩, fun c0 => ?_, fun c0 => kk M (fun _ _ _ => rfl) (fun _ _ _ _ _ => rfl) c0 (hc c0)⟩
  refine up_in fun M4 h4 => ?_
  intro x7 e7
  rw [zAt] at e7
  refine up_in fun M8 h8 => ?_
  have B8 : M8 608 14 = z := by rw [h8, if_neg (by omega), h4, if_pos ⟨rfl, rfl⟩]
  have hmv : ∀ M' : jT, (∀ a, a ≠ 608 → (a < 616 ∨ 617 < a) → M' a = M a) → ZR M' z Z := fun M' h => hZ.mv (h 609 (by omega) (by omega))
  -- the events of rules
  refine ⟨fun m x9 M10 => ∃ r : Nat, x9 = r ∧ (r : Int) ≤ Z 1 ∧ (Z 1 - r).toNat ≤ m ∧ (∀ a, a ≠ 608 → (a < 616 ∨ 617 < a) → M10 a = M a) ∧ (∀ b, b ≠ 14 → b ≠ 15 → M10 608 b = M 608 b) ∧ M10 608 14 = z ∧ M10 608 15 = (nR Z r : Int) ∧ EvOk M10 (nR Z r : Int) ∧ ∀ v, cnt (kM M10) (nR Z r) v = cR Z r v, ⟨(Z 1).toNat, 0, rfl, by omega, by omega, fun a ha _ => funext fun b => by rw [h8, if_neg (by omega), h4, if_neg (by omega)], fun b b1 b2 => by rw [h8, if_neg (by omega), h4, if_neg (by omega)], B8, by rw [h8, if_pos ⟨rfl, rfl⟩]; rfl, ⟨fun p q a b c => by simp only [nR] at c; omega, fun i a b => by simp only [nR] at b; omega⟩, fun v => rfl⟩, ?_⟩
  rintro n12 x9 M10 ⟨r, rfl, r1, r2, hF, hF8, h14, h15, hE, hC⟩
  have hZ10 := hmv M10 hF
  rw [hZ10.at' (i := 1) (by omega) (by omega)]
  refine ⟨by omega, ⟨by omega, by omega⟩, ⟨by omega, by omega⟩, fun c => ?_, fun c => ?_⟩
  · -- the changes of the base
    have er : Z 1 = r := by omega
    have hnR := nR_le ho r (by omega)
    refine ⟨fun m x17 M18 => ∃ j : Nat, x17 = j ∧ (j : Int) ≤ Z 2 ∧ (Z 2 - j).toNat ≤ m ∧ (∀ a, a ≠ 608 → (a < 616 ∨ 617 < a) → M18 a = M a) ∧ (∀ b, b ≠ 14 → b ≠ 15 → M18 608 b = M 608 b) ∧ M18 608 14 = z ∧ M18 608 15 = (nR Z r : Int) + j ∧ EvOk M18 ((nR Z r : Int) + j) ∧ ∀ v, cnt (kM M18) ((nR Z r : Int) + j).toNat v = cR Z r v + cC Z j v, ⟨(Z 2).toNat, 0, rfl, by omega, by omega, hF, hF8, h14, by rw [h15]; omega, by simpa using hE, fun v => by have := hC v; simp only [cC]; rw [show ((nR Z r : Int) + ((0 : Nat) : Int)).toNat = nR Z r by omega]; omega⟩, ?_⟩
    rintro n20 x17 M18 ⟨j, rfl, j1, j2, hF, hF8, h14, h15, hE, hC⟩
    have hZ18 := hmv M18 hF
    rw [hZ18.at' (i := 2) (by omega) (by omega)]
    refine ⟨by omega, ⟨by omega, by omega⟩, ⟨by omega, by omega⟩, fun c2 => ?_, fun c2 => ⟨by omega, ?_⟩⟩
    · -- the line
      have ej : Z 2 = j := by omega
      have en : (nR Z r : Int) + j = nE Z := by unfold nE; rw [er, ej]; simp; omega
      rw [en] at h15 hE
      have hCE : ∀ v, cnt (kM M18) (nE Z).toNat v = cE Z v := fun v => by
        rw [← en, hC v]; unfold cE; rw [er, ej]; simp; omega
      have hK : ∀ i, 0 ≤ i → i < nE Z → KOk Z (kE Z i) := fun i i0 i1 => by rw [← kE_eq hE.1 hCE i0 i1]; exact key_ok ho hCE i0 i1
      have fr : ∀ e : Int, 0 ≤ e → e < nE Z → M18 616 e = kE Z e / 16 ∧ M18 617 e = idO (kE Z e % 16) := fun e e0 e1 => by
        obtain ⟨d1, d2, d3, d4⟩ := fold_ref (Q := Q) ho hz hZ18 h15 hE hCE hK (e := e) e0 e1
        exact ⟨d2, d3⟩
      clear hE hC hCE c2 c ej en er j1 j2 r1 r2
      refine up_in fun M25 h25 => up_in fun M26 h26 => ⟨by omega, ?_⟩
      have F26 : ∀ a, a ≠ 608 → M26 a = M18 a := (fun a ha => funext fun b => by rw [h26 a b, if_neg (by omega), h25 a b, if_neg (by omega)])
      have hZ26 : ZR M26 z Z := hZ18.mv (F26 609 (by omega))
      intro x28 e28
      rw [hZ26.at' (i := 0) (by omega) (by omega)] at e28
      refine ⟨fun m b v x31 M32 => ∃ i : Nat, x31 = i ∧ (i : Int) ≤ nE Z ∧ (nE Z - i).toNat ≤ m ∧ b = (f5 Z (kE Z) i).1 ∧ v = (f5 Z (kE Z) i).2.1 ∧ (∀ a, a ≠ 608 → (a < 618 ∨ 625 < a) → M32 a = M18 a) ∧ (∀ b, b ≠ 18 → b ≠ 24 → M32 608 b = M18 608 b) ∧ RlN M32 Z (kE Z) i, ⟨(nE Z).toNat, 0, rfl, by omega, by omega, e28, rfl, fun a ha _ => F26 a ha, fun b b1 b2 => by rw [h26, if_neg (by omega), h25, if_neg (by omega)], ?_⟩, ?_⟩
      · unfold RlN; simp only [f5]
        exact ⟨by rw [h26, if_neg (by omega), h25, if_pos ⟨rfl, rfl⟩], by rw [h26, if_pos ⟨rfl, rfl⟩], fun j a b => by omega, fun j a b => by omega⟩
      · rintro n34 x29 x30 x31 M32 ⟨i, rfl, i1, i2, e29, e30, hF32, hF8', hR⟩
        obtain ⟨t1, t2, t3, t4⟩ := hR
        have g15 : M32 608 15 = nE Z := by rw [hF8' 15 (by omega) (by omega), h15]
        have g14 : M32 608 14 = z := by rw [hF8' 14 (by omega) (by omega), h14]
        rw [g15]
        refine ⟨⟨by omega, by omega⟩, ⟨by omega, by omega⟩, fun c3 => ?_, fun c3 => ⟨by omega, ?_⟩⟩
        · have en2 : (nE Z).toNat = i := by omega
          exact kk M32 (fun a a1 a2 => (hF32 a a1 (by omega)).trans (hF a a1 (by omega))) (fun b b1 b2 b3 b4 => (hF8' b b3 b4).trans (hF8 b b1 b2)) g14 ⟨g15, hK, by rw [en2]; exact ⟨t1, t2, t3, t4⟩⟩
        · obtain ⟨d2, d3⟩ := fr i (by omega) c3
          clear fr
          have hKi := hK i (by omega) c3
          obtain ⟨b1, b2, b3, b4⟩ := f5_lt ho hK c3 hnE.2
          obtain ⟨j1', j2', j3', j4', j5', j6', j7', j8', j9'⟩ := f5_inv ho hK i (by omega)
          obtain ⟨u1, u2, u3, u4, u5, u6⟩ := e_rng ho hKi j1' j2'
          have hZ32 : ZR M32 z Z := hZ18.mv (hF32 609 (by omega) (by omega))
          have k616 : M32 616 i = kE Z i / 16 := by rw [hF32 616 (by omega) (by omega), d2]
          have k617 : M32 617 i = idO (kE Z i % 16) := by rw [hF32 617 (by omega) (by omega), d3]
          intro x39 e39
          rw [k617] at e39
          obtain ⟨hid1, hid2, hid3⟩ := id_of ho hKi e39
          have hid4 : x39 < 100 → 0 ≤ 2 + 67 * z + 3 + 7 * x39 ∧ 2 + 67 * z + 3 + 7 * x39 < 1280 := fun q => by obtain ⟨_, _, _, _, _⟩ := hid2 q; omega
          have hid5 : 100 ≤ x39 → 0 ≤ x7 + 59 + 2 * (x39 - 100) ∧ x7 + 59 + 2 * (x39 - 100) < 1280 := fun q => by obtain ⟨_, _, _, _⟩ := hid3 q; omega
          refine ⟨⟨⟨by omega, by omega⟩, fun q => ⟨by have := hid4 q; rw [rAt]; omega, trivial⟩, fun _ => trivial⟩, ?_⟩
          intro x45 a1 a2
          have e45 : x45 = eC Z (kE Z i) := rd_C ho hZ32 hKi e39 a1 a2
          have r45 : 0 ≤ x45 ∧ x45 ≤ 2 := by rw [e45]; exact u4
          refine ⟨⟨⟨by omega, by omega⟩, fun _ => ⟨fun _ => trivial, fun _ => trivial⟩, fun _ => trivial⟩, ?_⟩
          intro x55 c1' c2' c3'
          rw [k616]
          intro x60 e60
          have hst : x60 = eS Z (kE Z i) x29 x30 := rd_S e45 c1' c2' c3' r45 e60
          clear a1 a2 c1' c2' c3'
          have hsr : -960 ≤ x60 ∧ x60 ≤ 16831439 := by rw [hst, e29, e30]; exact u1
          have es : f5 Z (kE Z) (i + 1) = nx Z (kE Z i) (f5 Z (kE Z) i) := rfl
          refine ⟨fun b v M' => b = (f5 Z (kE Z) (i + 1)).1 ∧ v = (f5 Z (kE Z) (i + 1)).2.1 ∧ (∀ a, a ≠ 608 → (a < 618 ∨ 625 < a) → M' a = M18 a) ∧ (∀ b, b ≠ 18 → b ≠ 24 → M' 608 b = M18 608 b) ∧ RlN M' Z (kE Z) (i + 1), ?_, ?_⟩
          · rintro b v M' ⟨k1, k2, k3, k4, k5⟩
            intro x122 e122
            exact ⟨(nE Z - (i + 1)).toNat, by omega, i + 1, by omega, by omega, by omega, k1, k2, k3, k4, k5⟩
          · refine ⟨¬ (0 < (f5 Z (kE Z) i).2.2.1 ∧ x60 ≤ (f5 Z (kE Z) i).2.2.2.2), ?_, ?_⟩
            · intro hn'
              intro x138 e138
              refine ⟨⟨⟨by omega, by omega⟩, fun q => ⟨by have := hid4 q; rw [rAt]; omega, trivial⟩, fun q => ⟨by have := hid5 q; omega, trivial⟩⟩, ?_⟩
              intro x145 f1 f2 x146 g1 g2
              have e145 : x145 = eB Z (kE Z i) (f5 Z (kE Z) i).1 := by rw [← e29]; exact rd_B ho hZ32 hKi e39 e7 f1 f2
              have e146 : x146 = eV Z (kE Z i) (f5 Z (kE Z) i).2.1 := by rw [← e30]; exact rd_V ho hZ32 hKi e39 g1 g2
              clear f1 f2 g1 g2 hid1 hid2 hid3 hid4 hid5
              refine ⟨⟨by omega, by omega⟩, ⟨by omega, by omega⟩, fun q => ?_, fun q => ?_⟩
              · rcases oc_cases Z (kE Z i) (f5 Z (kE Z) i) with ⟨o1, o2, o3⟩ | ⟨o1, o2, o3, o4⟩ | ⟨o1, o2, o3, o4⟩
                · rw [← e29, ← e30, ← hst] at o3; exact absurd o3 hn'
                · omega
                · have a1 : tS Z (kE Z) (i + 1) = upr (tS Z (kE Z) i) (f5 Z (kE Z) i).2.2.1 x60 := by simp only [tS]; rw [if_pos o1, hst, e29, e30]
                  have a2 : tV Z (kE Z) (i + 1) = upr (tV Z (kE Z) i) (f5 Z (kE Z) i).2.2.1 x146 := by simp only [tV]; rw [if_pos o1, e146]
                  have a3 : tI Z (kE Z) (i + 1) = upr (tI Z (kE Z) i) (f5 Z (kE Z) i).2.2.1 x39 := by simp only [tI]; rw [if_pos o1, e39]
                  have a4 : tF Z (kE Z) (i + 1) = upr (tF Z (kE Z) i) ((f5 Z (kE Z) i).2.2.1 + 1) (x145 + x146) := by simp only [tF]; rw [if_pos o1, e145, e146]
                  have v1 : vT Z (kE Z) (i + 1) = vT Z (kE Z) i := by simp only [vT]; rw [if_neg (by omega)]
                  have v2 : vS Z (kE Z) (i + 1) = vS Z (kE Z) i := by simp only [vS]; rw [if_neg (by omega)]
                  have v3 : vI Z (kE Z) (i + 1) = vI Z (kE Z) i := by simp only [vI]; rw [if_neg (by omega)]
                  rw [t1]
                  refine ⟨by omega, up_in fun M158 h158 => ?_⟩
                  have r1 : M158 608 18 = (f5 Z (kE Z) i).2.2.1 := by rw [h158, if_neg (by omega), t1]
                  rw [r1]
                  refine ⟨by omega, up_in fun M160 h160 => ?_⟩
                  have r2 : M160 608 18 = (f5 Z (kE Z) i).2.2.1 := by rw [h160, if_neg (by omega), r1]
                  rw [r2]
                  refine ⟨by omega, up_in fun M162 h162 => ?_⟩
                  have r3 : M162 608 18 = (f5 Z (kE Z) i).2.2.1 := by rw [h162, if_neg (by omega), r2]
                  rw [r3]
                  refine ⟨by omega, up_in fun M164 h164 => ?_⟩
                  have r4 : M164 608 18 = (f5 Z (kE Z) i).2.2.1 := by rw [h164, if_neg (by omega), r3]
                  rw [r4]
                  refine up_in fun M165 h165 => ⟨by omega, up_in fun M167 h167 => ?_⟩
                  have w : ∀ a b, a < 618 ∨ 625 < a → ¬ (a = 608 ∧ b = 18) → M167 a b = M32 a b := fun a b ha hb => by rw [h167, if_neg (by omega), h165, if_neg (by omega), h164, if_neg (by omega), h162, if_neg (by omega), h160, if_neg (by omega), h158, if_neg (by omega)]
                  have w8 : ∀ a b, 623 ≤ a → M167 a b = M32 a b := fun a b ha => by rw [h167, if_neg (by omega), h165, if_neg (by omega), h164, if_neg (by omega), h162, if_neg (by omega), h160, if_neg (by omega), h158, if_neg (by omega)]
                  refine ⟨by rw [es, o2, e145], by rw [es, o2, e146], fun a a1 a2 => (funext fun b => w a b a2 (by omega)).trans (hF32 a a1 a2), fun b b1 b2 => (w 608 b (by omega) (by omega)).trans (hF8' b b1 b2), ?_⟩
                  unfold RlN
                  rw [es, o2, a1, a2, a3, a4, v1, v2, v3]
                  simp only []
                  refine ⟨by rw [h167, if_neg (by omega), h165, if_pos ⟨rfl, rfl⟩], by rw [w 608 24 (by omega) (by omega), t2], fun j a b => ?_, fun j a b => ?_⟩
                  · unfold upr
                    by_cases qj : j = (f5 Z (kE Z) i).2.2.1
                    · rw [qj]
                      refine ⟨?_, ?_, ?_, ?_, ?_⟩
                      · rw [if_pos rfl, h167, if_neg (by omega), h165, if_neg (by omega), h164, if_neg (by omega), h162, if_neg (by omega), h160, if_neg (by omega), h158, if_pos ⟨rfl, rfl⟩]
                      · rw [if_neg (by omega), j5', h167, if_neg (by omega), h165, if_neg (by omega), h164, if_neg (by omega), h162, if_neg (by omega), h160, if_pos ⟨rfl, rfl⟩, e138, e29, e30]
                      · rw [if_pos rfl, h167, if_neg (by omega), h165, if_neg (by omega), h164, if_neg (by omega), h162, if_pos ⟨rfl, rfl⟩]
                      · rw [if_pos rfl, h167, if_neg (by omega), h165, if_neg (by omega), h164, if_pos ⟨rfl, rfl⟩]
                      · rw [if_pos rfl, h167, if_pos ⟨rfl, rfl⟩]
                    · have := t3 j a (by omega)
                      have w9 : ∀ a, 609 ≤ a → M167 a j = M32 a j := fun a ha => by rw [h167, if_neg (by omega), h165, if_neg (by omega), h164, if_neg (by omega), h162, if_neg (by omega), h160, if_neg (by omega), h158, if_neg (by omega)]
                      rw [w9 618 (by omega), w9 619 (by omega), w9 620 (by omega), w9 621 (by omega), w9 622 (by omega), if_neg qj, if_neg (by omega), if_neg (by omega), if_neg qj, if_neg qj]
                      exact this
                  · rw [w8 623 j (by omega), w8 624 j (by omega), w8 625 j (by omega)]
                    exact t4 j a b
              · rcases oc_cases Z (kE Z i) (f5 Z (kE Z) i) with ⟨o1, o2, o3⟩ | ⟨o1, o2, o3, o4⟩ | ⟨o1, o2, o3, o4⟩
                · rw [← e29, ← e30, ← hst] at o3; exact absurd o3 hn'
                · have a1 : tS Z (kE Z) (i + 1) = tS Z (kE Z) i := by simp only [tS]; rw [if_neg (by omega)]
                  have a2 : tV Z (kE Z) (i + 1) = tV Z (kE Z) i := by simp only [tV]; rw [if_neg (by omega)]
                  have a3 : tI Z (kE Z) (i + 1) = tI Z (kE Z) i := by simp only [tI]; rw [if_neg (by omega)]
                  have a4 : tF Z (kE Z) (i + 1) = tF Z (kE Z) i := by simp only [tF]; rw [if_neg (by omega)]
                  have v1 : vT Z (kE Z) (i + 1) = vT Z (kE Z) i := by simp only [vT]; rw [if_neg (by omega)]
                  have v2 : vS Z (kE Z) (i + 1) = vS Z (kE Z) i := by simp only [vS]; rw [if_neg (by omega)]
                  have v3 : vI Z (kE Z) (i + 1) = vI Z (kE Z) i := by simp only [vI]; rw [if_neg (by omega)]
                  refine ⟨by rw [es, o2, e145], by rw [es, o2, e146], hF32, hF8', ?_⟩
                  unfold RlN
                  rw [es, o2, a1, a2, a3, a4, v1, v2, v3]
                  exact ⟨t1, t2, t3, t4⟩
                · omega
            · rw [t1, t2]
              refine ⟨⟨by omega, by omega⟩, fun q => by omega, fun q => ⟨by omega, ?_⟩⟩
              have hlast : M32 618 ((f5 Z (kE Z) i).2.2.1 - 1) = (f5 Z (kE Z) i).2.2.2.2 := by
                rw [(t3 _ (by omega) (by omega)).1, j4' q]
              have hlr := j6' ((f5 Z (kE Z) i).2.2.1 - 1) (by omega) (by omega)
              rw [hlast]
              rw [← j4' q] at hlr
              refine ⟨⟨by omega, by omega⟩, ⟨by omega, by omega⟩, fun q5 => by omega, fun q5 => ⟨by omega, ?_⟩⟩
              rcases oc_cases Z (kE Z i) (f5 Z (kE Z) i) with ⟨o1, o2, o3⟩ | ⟨o1, o2, o3, o4⟩ | ⟨o1, o2, o3, o4⟩
              · have a1 : tS Z (kE Z) (i + 1) = tS Z (kE Z) i := by simp only [tS]; rw [if_neg (by omega)]
                have a2 : tV Z (kE Z) (i + 1) = tV Z (kE Z) i := by simp only [tV]; rw [if_neg (by omega)]
                have a3 : tI Z (kE Z) (i + 1) = tI Z (kE Z) i := by simp only [tI]; rw [if_neg (by omega)]
                have a4 : tF Z (kE Z) (i + 1) = tF Z (kE Z) i := by simp only [tF]; rw [if_neg (by omega)]
                have v1 : vT Z (kE Z) (i + 1) = upr (vT Z (kE Z) i) (f5 Z (kE Z) i).2.2.2.1 (kE Z i / 16) := by simp only [vT]; rw [if_pos o1]
                have v2 : vS Z (kE Z) (i + 1) = upr (vS Z (kE Z) i) (f5 Z (kE Z) i).2.2.2.1 x60 := by simp only [vS]; rw [if_pos o1, hst, e29, e30]
                have v3 : vI Z (kE Z) (i + 1) = upr (vI Z (kE Z) i) (f5 Z (kE Z) i).2.2.2.1 x39 := by simp only [vI]; rw [if_pos o1, e39]
                refine up_in fun M175 h175 => ?_
                have r1 : M175 608 24 = (f5 Z (kE Z) i).2.2.2.1 := by rw [h175, if_neg (by omega), t2]
                rw [r1]
                refine ⟨by omega, up_in fun M177 h177 => ?_⟩
                have r2 : M177 608 24 = (f5 Z (kE Z) i).2.2.2.1 := by rw [h177, if_neg (by omega), r1]
                rw [r2]
                refine up_in fun M178 h178 => ⟨by omega, up_in fun M180 h180 => ?_⟩
                have w : ∀ a b, a < 623 ∨ 625 < a → ¬ (a = 608 ∧ b = 24) → M180 a b = M32 a b := fun a b ha hb => by rw [h180, if_neg (by omega), h178, if_neg (by omega), h177, if_neg (by omega), h175, if_neg (by omega)]
                refine ⟨by rw [es, o2, e29], by rw [es, o2, e30], fun a a1 a2 => (funext fun b => w a b (by omega) (by omega)).trans (hF32 a a1 a2), fun b b1 b2 => (w 608 b (by omega) (by omega)).trans (hF8' b b1 b2), ?_⟩
                unfold RlN
                rw [es, o2, a1, a2, a3, a4, v1, v2, v3]
                simp only []
                refine ⟨by rw [w 608 18 (by omega) (by omega), t1], by rw [h180, if_neg (by omega), h178, if_pos ⟨rfl, rfl⟩], fun j a b => ?_, fun j a b => ?_⟩
                · rw [w 618 j (by omega) (by omega), w 619 j (by omega) (by omega), w 620 j (by omega) (by omega), w 621 j (by omega) (by omega), w 622 j (by omega) (by omega)]
                  exact t3 j a b
                · unfold upr
                  by_cases qj : j = (f5 Z (kE Z) i).2.2.2.1
                  · rw [qj, if_pos rfl, if_pos rfl, if_pos rfl]
                    refine ⟨?_, ?_, ?_⟩
                    · rw [h180, if_neg (by omega), h178, if_neg (by omega), h177, if_neg (by omega), h175, if_pos ⟨rfl, rfl⟩]
                    · rw [h180, if_neg (by omega), h178, if_neg (by omega), h177, if_pos ⟨rfl, rfl⟩]
                    · rw [h180, if_pos ⟨rfl, rfl⟩]
                  · rw [if_neg qj, if_neg qj, if_neg qj]
                    have w9 : ∀ a, 609 ≤ a → M180 a j = M32 a j := fun a ha => by rw [h180, if_neg (by omega), h178, if_neg (by omega), h177, if_neg (by omega), h175, if_neg (by omega)]
                    rw [w9 623 (by omega), w9 624 (by omega), w9 625 (by omega)]
                    exact t4 j a (by omega)
              · rw [← e29, ← e30, ← hst] at o3; omega
              · rw [← e29, ← e30, ← hst] at o3; omega
    · have hcj := ho.2.2.2.2 j (by omega) c2
      have hd : M18 609 (x7 + 59 + 2 * (j : Int)) = Z (59 + 2 * j) := hZ18.at' (by omega) (by omega)
      rw [hd]
      refine sp_event (n := (nR Z r : Int) + j) h15 (by omega) hE (by omega) (Or.inr (by omega)) (fun M' k1 k2 k3 k4 k5 => ?_)
      intro x184 e184
      refine ⟨(Z 2 - (j + 1)).toNat, by omega, j + 1, by omega, by omega, by omega, fun a a1 a2 => (k1 a a1 (by omega) (by omega)).trans (hF a a1 a2), fun b b1 b2 => (k2 b b2).trans (hF8 b b1 b2), by rw [k2 14 (by omega), h14], by rw [k3]; omega, by rw [show (nR Z r : Int) + ((j + 1 : Nat) : Int) = (nR Z r : Int) + j + 1 by omega]; exact k4, fun v => ?_⟩
      rw [show (nR Z r : Int) + ((j + 1 : Nat) : Int) = (nR Z r : Int) + j + 1 by omega, k5 v, hC v]
      simp only [cC]
      have : 1440 * Z (59 + 2 * j) * 16 + sO (100 + j) = kC Z j := by unfold kC sO; rw [if_pos (by omega)]; omega
      rw [this]; omega
  · have hr := ho.2.2.2.1 r (by omega) c
    intro x188 e188
    rw [rAt] at e188
    refine ⟨by omega, ?_⟩
    intro x190 e190
    rw [hZ10.at' (i := 3 + 7 * r) (by omega) (by omega)] at e190
    have hnR := nR_le ho r (by omega)
    refine ⟨fun m x191 M192 => ∃ j : Nat, x191 = Z (3 + 7 * r) + j ∧ j ≤ lY Z r ∧ lY Z r - j ≤ m ∧ (∀ a, a ≠ 608 → (a < 616 ∨ 617 < a) → M192 a = M a) ∧ (∀ b, b ≠ 14 → b ≠ 15 → M192 608 b = M 608 b) ∧ M192 608 14 = z ∧ M192 608 15 = (nR Z r : Int) + (nY Z r j : Int) ∧ EvOk M192 ((nR Z r : Int) + (nY Z r j : Int)) ∧ ∀ v, cnt (kM M192) ((nR Z r : Int) + (nY Z r j : Int)).toNat v = cR Z r v + cY Z r j v, ⟨lY Z r, 0, by rw [e190]; omega, by omega, by omega, hF, hF8, h14, by rw [h15]; simp only [nY]; omega, by simpa only [nY, Int.natCast_zero, Int.add_zero] using hE, fun v => by have := hC v; simp only [nY, cY]; rw [show ((nR Z r : Int) + ((0 : Nat) : Int)).toNat = nR Z r by omega]; omega⟩, ?_⟩
    rintro n194 x191 M192 ⟨j, rfl, j1, j2, hF, hF8, h14, h15, hE, hC⟩
    have hZ192 := hmv M192 hF
    have hnY := nY_le (Z := Z) (r := r) j
    have hlY : (lY Z r : Int) = Z (4 + 7 * r) + 1 - Z (3 + 7 * r) := by unfold lY; omega
    rw [hZ192.at' (p := x188 + 1) (i := 4 + 7 * r) (by omega) (by omega), hZ192.at' (p := x188 + 3) (i := 6 + 7 * r) (by omega) (by omega), hZ192.at' (p := x188 + 2) (i := 5 + 7 * r) (by omega) (by omega), hZ192.at' (p := x188 + 4) (i := 7 + 7 * r) (by omega) (by omega)]
    refine ⟨by omega, ⟨by omega, by omega⟩, ⟨by omega, by omega⟩, fun c2 => ?_, fun c2 => ⟨by omega, by omega, ?_⟩⟩
    · intro x199 e199
      have ej : j = lY Z r := by omega
      have e1 : (nR Z (r + 1) : Int) = (nR Z r : Int) + (nY Z r j : Int) := by simp only [nR]; rw [ej]; omega
      refine ⟨(Z 1 - (r + 1)).toNat, by omega, r + 1, by omega, by omega, by omega, hF, hF8, h14, by rw [h15, e1], by rw [e1]; exact hE, fun v => ?_⟩
      have := hC v
      rw [show nR Z (r + 1) = ((nR Z r : Int) + (nY Z r j : Int)).toNat by omega, this]
      simp only [cR]; rw [ej]
    · refine sp_dayBy (by omega) (by omega) hr.2.2.2.2.2.1 ?_
      have hd := dR_rng ho (r := r) (y := Z (3 + 7 * r) + j) (by omega) c (by omega)
      have e203 : dB (Z (3 + 7 * r) + j) (Z (5 + 7 * r)) (Z (6 + 7 * r)) = dR Z r (Z (3 + 7 * r) + j) := rfl
      rw [e203]
      refine ⟨fun M' => (∀ a, a ≠ 608 → (a < 616 ∨ 617 < a) → M' a = M a) ∧ (∀ b, b ≠ 14 → b ≠ 15 → M' 608 b = M 608 b) ∧ M' 608 14 = z ∧ M' 608 15 = (nR Z r : Int) + (nY Z r (j + 1) : Int) ∧ EvOk M' ((nR Z r : Int) + (nY Z r (j + 1) : Int)) ∧ ∀ v, cnt (kM M') ((nR Z r : Int) + (nY Z r (j + 1) : Int)).toNat v = cR Z r v + cY Z r (j + 1) v, ?_, ⟨by omega, by omega⟩, fun q => ?_, fun q => ⟨by omega, ?_⟩⟩
      · rintro M' ⟨k1, k2, k3, k4, k5, k6⟩
        intro x212 e212
        exact ⟨lY Z r - (j + 1), by omega, j + 1, by omega, by omega, by omega, k1, k2, k3, k4, k5, k6⟩
      · have e1 : nY Z r (j + 1) = nY Z r j := by simp only [nY]; rw [if_neg (by omega)]; rfl
        rw [e1]
        refine ⟨hF, hF8, h14, h15, hE, fun v => ?_⟩
        rw [hC v]; simp only [cY]; rw [if_neg (by omega)]; omega
      · have e1 : nY Z r (j + 1) = nY Z r j + 1 := by simp only [nY]; rw [if_pos (by omega)]
        refine sp_event (n := (nR Z r : Int) + (nY Z r j : Int)) h15 (by omega) hE (by omega) (Or.inl (by omega)) (fun M' k1 k2 k3 k4 k5 => ?_)
        have e2 : (nR Z r : Int) + ((nY Z r j + 1 : Nat) : Int) = (nR Z r : Int) + (nY Z r j : Int) + 1 := by omega
        rw [e1, e2]
        refine ⟨fun a a1 a2 => (k1 a a1 (by omega) (by omega)).trans (hF a a1 a2), fun b b1 b2 => (k2 b b2).trans (hF8 b b1 b2), by rw [k2 14 (by omega), h14], k3, k4, fun v => ?_⟩
        rw [k5 v, hC v]
        simp only [cY]
        have ek : (1440 * dR Z r (Z (3 + 7 * r) + j) + Z (7 + 7 * r)) * 16 + sO r = kR Z r (Z (3 + 7 * r) + j) := by unfold kR sO; rw [if_neg (by omega)]; omega
        rw [ek]
        by_cases q5 : kR Z r (Z (3 + 7 * r) + j) = v
        · rw [if_pos q5, if_pos ⟨q, q5⟩]; omega
        · rw [if_neg q5, if_neg (fun q6 => q5 q6.2)]; omega
