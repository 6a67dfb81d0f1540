/-! bits -/
theorem lx_nat {x y : Nat} (hx : x < 2 ^ 40) (hy : y < 2 ^ 40) : lxI (x : Int) (y : Int) = ((x ^^^ y : Nat) : Int) := by
  have hz : x ^^^ y < 2 ^ 40 := Nat.xor_lt_two_pow hx hy
  unfold lxI JL
  show (Int64.ofInt (x : Int) ^^^ Int64.ofInt (y : Int)).toBitVec.toInt = _
  rw [Int64.toBitVec_xor, Int64.toBitVec_ofInt, Int64.toBitVec_ofInt, BitVec.ofInt_natCast, BitVec.ofInt_natCast]
  have e : (BitVec.ofNat 64 x ^^^ BitVec.ofNat 64 y).toNat = x ^^^ y := by
    rw [BitVec.toNat_xor, BitVec.toNat_ofNat, BitVec.toNat_ofNat, Nat.mod_eq_of_lt (by omega), Nat.mod_eq_of_lt (by omega)]
  rw [BitVec.toInt_eq_toNat_of_lt (by rw [e]; omega), e]
theorem bS_nat {x n : Nat} : bS (x : Int) (n : Int) ↔ x.testBit n = true := by
  show (x : Int) / 2 ^ (n : Int).toNat % 2 ≠ 0 ↔ _
  rw [Nat.testBit_eq_decide_div_mod_eq, Int.toNat_natCast]
  have : ((x : Int) / 2 ^ n % 2) = ((x / 2 ^ n % 2 : Nat) : Int) := by
    rw [Int.natCast_emod, Int.natCast_ediv, Int.natCast_pow]; rfl
  rw [this, decide_eq_true_iff]
  omega
theorem lx_bit {c o : Int} (hc : 0 ≤ c ∧ c < 2 ^ 40) (ho : 0 ≤ o ∧ o < 40) : (0 ≤ lxI c (2 ^ o.toNat) ∧ lxI c (2 ^ o.toNat) < 2 ^ 40) ∧ ∀ i, 0 ≤ i → i < 40 → (bS (lxI c (2 ^ o.toNat)) i ↔ (if i = o then ¬ bS c i else bS c i)) := by
  obtain ⟨x, rfl⟩ := Int.eq_ofNat_of_zero_le hc.1
  obtain ⟨k, rfl⟩ := Int.eq_ofNat_of_zero_le ho.1
  have hk : (2 : Nat) ^ k < 2 ^ 40 := Nat.pow_lt_pow_right (by omega) (by omega)
  have hx : x < 2 ^ 40 := by omega
  have e : (2 : Int) ^ (k : Int).toNat = ((2 ^ k : Nat) : Int) := by rw [Int.toNat_natCast, Int.natCast_pow]; rfl
  rw [e, lx_nat hx hk]
  have hz : x ^^^ 2 ^ k < 2 ^ 40 := Nat.xor_lt_two_pow hx hk
  refine ⟨⟨by omega, by omega⟩, fun i i0 i1 => ?_⟩
  obtain ⟨n, rfl⟩ := Int.eq_ofNat_of_zero_le i0
  rw [bS_nat, bS_nat, Nat.testBit_xor, Nat.testBit_two_pow]
  by_cases q : n = k
  · rw [if_pos (by omega), q]; simp
  · rw [if_neg (by omega), decide_eq_false (fun h => q h.symm)]; simp
/-! a meeting's slice -/
theorem nD_eq {G G' : Int → Int} (h : ∀ i, 0 ≤ i → i < 9 → G' i = G i) : nD G' = nD G ∧ dO G' = dO G := by
  have e1 := h 1 (by omega) (by omega)
  have e5 := h 5 (by omega) (by omega)
  have e6 := h 6 (by omega) (by omega)
  have e7 := h 7 (by omega) (by omega)
  have e8 := h 8 (by omega) (by omega)
  have k0 : c0 G' = c0 G := funext fun j => by unfold c0; rw [e1, e7]
  have k1 : c1 G' = c1 G := funext fun j => by unfold c1 wkD; rw [e1, e7, e8]
  have kM : cM G' = cM G := funext fun j => by unfold cM ix; rw [e1, e6]
  have k2 : c2 G' = c2 G := funext fun j => by unfold c2 m0; rw [kM, e1, e7]
  have k : cd G' = cd G := by unfold cd; rw [e6, k0, k1, k2]
  unfold nD dO
  rw [k, e5]
  exact ⟨rfl, rfl⟩
noncomputable def mput (A : Int → Int) (m : Int) (G : Int → Int) : Int → Int := fun i => if 404 + 89 * m ≤ i ∧ i < 493 + 89 * m then G (i - (404 + 89 * m)) else A i
theorem mput_n {A G : Int → Int} {m i : Int} (h : i < 404 + 89 * m ∨ 493 + 89 * m ≤ i) : mput A m G i = A i := by unfold mput; rw [if_neg (by omega)]
theorem mput_i {A G : Int → Int} {m i : Int} (h : 404 + 89 * m ≤ i ∧ i < 493 + 89 * m) : mput A m G i = G (i - (404 + 89 * m)) := by unfold mput; rw [if_pos h]
theorem mput_0 {A G : Int → Int} {m : Int} (hm : 0 ≤ m) : mput A m G 0 = A 0 := mput_n (by omega)
theorem mput_1 {A G : Int → Int} {m : Int} (hm : 0 ≤ m) : mput A m G 1 = A 1 := mput_n (by omega)
theorem mput_y {A G : Int → Int} {m y : Int} (h : y ≠ m) : msl (mput A m G) y = msl A y := msl_eq fun i i0 i1 => mput_n (by omega)
theorem mput_z {A G : Int → Int} {m z : Int} (hm : 0 ≤ m) (hz : z < 6) : zsl (mput A m G) z = zsl A z := zsl_eq fun i i0 i1 => mput_n (by omega)
theorem mput_m {A G : Int → Int} {m : Int} (h : ∀ i, i < 0 ∨ 89 ≤ i → G i = 0) : msl (mput A m G) m = G := by
  funext i; unfold msl
  by_cases c : 0 ≤ i ∧ i < 89
  · rw [if_pos c, mput_i (by omega)]; congr 1; omega
  · rw [if_neg c, h i (by omega)]
theorem msl_o {A : Int → Int} {m i : Int} (h : i < 0 ∨ 89 ≤ i) : msl A m i = 0 := by unfold msl; rw [if_neg (by omega)]
theorem mput_ok {A G : Int → Int} {m : Int} (hA : AOk A) (hm : 0 ≤ m ∧ m < A 1) (ho : ∀ i, i < 0 ∨ 89 ≤ i → G i = 0) (ok : GOk G) (hz : 0 ≤ G 0 ∧ G 0 < A 0) : AOk (mput A m G) := by
  have a1 := hA.1
  unfold AOk
  rw [mput_0 hm.1, mput_1 hm.1]
  refine ⟨hA.1, hA.2.1, fun z z0 z1 => ?_, fun y y0 y1 => ?_⟩
  · rw [mput_z hm.1 (by omega)]; exact hA.2.2.1 z z0 z1
  · by_cases c : y = m
    · rw [c, mput_m ho]; exact ⟨ok, hz⟩
    · rw [mput_y c]; exact hA.2.2.2 y y0 y1
theorem mput_b {M M' : jT} {A G : Int → Int} {m : Int} (hA : AOk A) (hB : BEq M 1 A) (hm : 0 ≤ m ∧ m < A 1) (ho : ∀ i, i < 0 ∨ 89 ≤ i → G i = 0) (F : ∀ a, 1 ≤ a → a ≤ 47 → a ≠ 2 * m + 28 → a ≠ 2 * m + 29 → M' a = M a) (hG : GEq M' (2 * m + 28) G) : BEq M' 1 (mput A m G) := by
  have a1 := hA.1
  have a2 := hA.2.1
  unfold BEq
  rw [mput_0 hm.1, mput_1 hm.1, F 1 (by omega) (by omega) (by omega) (by omega)]
  refine ⟨hB.1, hB.2.1, fun z z0 z1 => ?_, fun y y0 y1 => ?_⟩
  · rw [mput_z hm.1 (by omega)]
    exact (hB.2.2.1 z z0 z1).mv (F _ (by omega) (by omega) (by omega) (by omega)) (F _ (by omega) (by omega) (by omega) (by omega)) (F _ (by omega) (by omega) (by omega) (by omega)) (F _ (by omega) (by omega) (by omega) (by omega))
  · by_cases c : y = m
    · rw [c, mput_m ho, show 1 + 27 + 2 * m = 2 * m + 28 by omega]; exact hG
    · rw [mput_y c]
      exact (hB.2.2.2 y y0 y1).mv (F _ (by omega) (by omega) (by omega) (by omega)) (F _ (by omega) (by omega) (by omega) (by omega))
theorem CCA.meet {M : jT} {A G : Int → Int} {m : Int} (hA : AOk A) (hm : 0 ≤ m ∧ m < A 1) (hc : CCA M A) (ho : ∀ i, i < 0 ∨ 89 ≤ i → G i = 0) (h9 : ∀ i, 0 ≤ i → i < 9 → G i = msl A m i) (ht : M (3 * m + 570) 1 ≠ 0 → ∀ i, 0 ≤ i → i < 40 → G (9 + i) = msl A m (9 + i)) : CCA M (mput A m G) := by
  have a1 := hA.1
  have a2 := hA.2.1
  obtain ⟨c1, c2, c3, c4⟩ := hc
  obtain ⟨en, ed⟩ := nD_eq h9
  unfold CCA
  rw [mput_0 hm.1, mput_1 hm.1]
  refine ⟨c1, fun z z0 z1 q => by rw [mput_z hm.1 (by omega)]; exact c2 z z0 z1 q, c3, fun y y0 y1 => ?_⟩
  obtain ⟨hgo, p0, p1⟩ := hA.2.2.2 y y0 y1
  obtain ⟨k1, k2⟩ := c4 y y0 y1
  by_cases c : y = m
  · rw [c] at k1 k2 hgo p0 p1 ⊢
    rw [mput_m ho, h9 0 (by omega) (by omega), mput_z hm.1 (by omega)]
    refine ⟨fun q => ?_, fun q => ?_⟩
    · have := k1 q
      unfold PL; rw [en, ed]; exact this
    · obtain ⟨q1, q2, q3⟩ := k2 q
      refine ⟨q1, q2, fun i i0 i1 => ?_⟩
      rw [mput_m ho, en] at i1
      have hn := nD_rng hgo
      rw [q3 i i0 i1]
      unfold bO bL
      rw [mput_m ho, ed, h9 0 (by omega) (by omega), h9 2 (by omega) (by omega), h9 4 (by omega) (by omega), ht q i i0 (by omega), mput_z hm.1 (by omega)]
  · rw [mput_y c, mput_z hm.1 (by omega)]
    refine ⟨k1, fun q => ?_⟩
    obtain ⟨q1, q2, q3⟩ := k2 q
    refine ⟨q1, q2, fun i i0 i1 => ?_⟩
    rw [mput_y c] at i1
    rw [q3 i i0 i1]
    unfold bO bL
    rw [mput_y c, mput_z hm.1 (by omega)]
/-! what the class keeps ready, told by the row A -/
noncomputable def p9 (M : jT) (A : Int → Int) : jT := fun a => if a = 609 then A else M a
theorem p9_9 {M : jT} {A : Int → Int} : p9 M A 609 = A := by unfold p9; rw [if_pos rfl]
theorem p9_n {M : jT} {A : Int → Int} {a : Int} (h : a ≠ 609) : p9 M A a = M a := by unfold p9; rw [if_neg h]
theorem CCA.cc {M : jT} {A : Int → Int} (hA : AOk A) (h : CCA M A) : CC (p9 M A) := by
  have : CCA (p9 M A) A := h.mv hA (fun a _ _ => p9_n (by omega))
  unfold CC; rw [p9_9]; exact this
theorem CCA.of {M : jT} {A : Int → Int} (hA : AOk A) (h : CC (p9 M A)) : CCA M A := by
  have : CCA (p9 M A) A := by unfold CC at h; rw [p9_9] at h; exact h
  exact this.mv hA (fun a _ _ => (p9_n (by omega)).symm)
theorem p9_d {M : jT} {A : Int → Int} (hA : AOk A) (hB : BEq M 1 A) : D1 (p9 M A) := by
  unfold D1; rw [p9_9]; exact ⟨hA, hB.mv hA (fun a _ _ => p9_n (by omega))⟩
theorem CFr.ca {M M' : jT} {A : Int → Int} (f : CFr M M') (h : CA M A) (hc : CCA M' A) : CA M' A := ⟨h.1, h.2.1.mv h.1 (fun a _ _ => f a (by omega)), hc⟩
theorem ca_laidOut {M : jT} {A : Int → Int} {m : Int} {Q : Int → jT → Prop} (h : CA M A) (hm : 0 ≤ m ∧ m < A 1)
    (kk : ∀ M', CFr M M' → CA M' A → M' (3 * m + 570) 0 ≠ 0 → PL M' (3 * m + 570) (msl A m) → Q (3 * m + 570) M') : wp_X10_laidOut M 0 m Q := by
  obtain ⟨hA, hB, hC⟩ := h
  have a2 := hA.2.1
  have hge := hB.2.2.2 m hm.1 hm.2
  have hgo := (hA.2.2.2 m hm.1 hm.2).1
  have h3 := hC.2.2.1 m hm.1 (by omega)
  have h4 := hC.2.2.2 m hm.1 hm.2
  refine sp_laidOut (G := msl A m) (by omega) (by rw [show 2 * m + 28 = 1 + 27 + 2 * m by omega]; exact hge) hgo h3.1 h4.1 (fun M' F G hs hr h0 hP => ?_)
  have f : CFr M M' := fun a ha => F a (by omega) (by omega)
  refine kk M' f (f.ca ⟨hA, hB, hC⟩ (CCA.of hA ((hC.cc hA).plan (M' := p9 M' A) (p9_d hA hB) (m := m) (by omega) (by rw [p9_9, p9_9]) (fun a b1 b2 b3 => by rw [p9_n (by omega), p9_n (by omega)]; exact F a (by omega) (by omega)) ⟨by rw [p9_n (by omega)]; exact hr, by rw [p9_n (by omega), G 1 (by omega) (by omega)]; exact h3.2⟩ (fun _ => ?_)))) h0 hP
  rw [p9_9, p9_n (by omega)]
  refine ⟨fun _ => hP.mv (by rw [p9_n (by omega)]) (p9_n (by omega)), fun q => ⟨h0, ?_, fun i i0 i1 => ?_⟩⟩
  · rw [G 1 (by omega) (by omega)] at q; exact (h4.2 q).2.1
  · rw [G 1 (by omega) (by omega)] at q
    rw [p9_n (by omega), F (3 * m + 572) (by omega) (by omega)]; exact (h4.2 q).2.2 i i0 i1
