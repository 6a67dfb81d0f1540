theorem JL_bv (a : Int) : (JL a).toBitVec = BitVec.ofInt 64 a := rfl
theorem JL_sm : ∀ k, k < 63 → ((nI k).toInt64 &&& 63).toBitVec.smod 64 = BitVec.ofNat 64 k := by decide +kernel
theorem JL_shr {x : Int} (h : rl x) (n : Nat) (hn : n < 63) : JL x >>> ((J (n : Int)).toInt64 &&& 63) = JL (x / 2 ^ n) := by
  apply Int64.toInt_inj.mp
  have e : (J (n : Int)) = nI n := by rw [J_nI (by omega)]; rfl
  have h2 : (0 : Int) < 2 ^ n := Int.pow_pos (by omega)
  have b1 : x / 2 ^ n ≤ x ∨ x / 2 ^ n ≤ 0 := by
    by_cases h0 : 0 ≤ x
    · exact Or.inl (Int.ediv_le_self _ h0)
    · exact Or.inr (Int.le_of_lt (Int.ediv_neg_of_neg_of_pos (by omega) h2))
  have b2 : x ≤ x / 2 ^ n ∨ 0 ≤ x / 2 ^ n := by
    by_cases h0 : 0 ≤ x
    · exact Or.inr (Int.ediv_nonneg h0 (by omega))
    · left
      have h4 : x * 2 ^ n ≤ x * 1 := Int.mul_le_mul_of_nonpos_left (by omega) (by omega)
      exact (Int.le_ediv_iff_mul_le h2).mpr (by omega)
  have h5 : ((2 ^ n : Nat) : Int) = (2 : Int) ^ n := by norm_cast
  obtain ⟨q1, q2⟩ := h
  rw [JL_toInt (z := x / 2 ^ n) ⟨by omega, by omega⟩]
  have e3 : (JL x >>> ((J (n : Int)).toInt64 &&& 63)).toInt = (JL x).toInt >>> n := by
    rw [e]
    show ((JL x).toBitVec.sshiftRight (((nI n).toInt64 &&& 63).toBitVec.smod 64).toNat).toInt = _
    rw [JL_sm n hn, BitVec.toInt_sshiftRight, BitVec.toNat_ofNat, Nat.mod_eq_of_lt (by omega)]
    rfl
  rw [e3, JL_toInt ⟨q1, q2⟩, Int.shiftRight_eq_div_pow, h5]
theorem JL_shl (n : Nat) (hn : n < 63) : JL 1 <<< ((J (n : Int)).toInt64 &&& 63) = JL (2 ^ n) := by
  have e : (J (n : Int)) = nI n := by rw [J_nI (by omega)]; rfl
  rw [e]
  exact (by decide +kernel : ∀ k, k < 63 → JL 1 <<< ((nI k).toInt64 &&& 63) = JL (2 ^ k)) n hn
theorem JL_and1 (x : Int) : JL x &&& JL 1 = JL (x % 2) := by
  apply Int64.toBitVec_inj.mp
  show (JL x).toBitVec &&& (JL 1).toBitVec = (JL (x % 2)).toBitVec
  rw [JL_bv, JL_bv, JL_bv]
  apply BitVec.eq_of_toNat_eq
  rw [BitVec.toNat_and, BitVec.toNat_ofInt, BitVec.toNat_ofInt, BitVec.toNat_ofInt]
  have e1 : ((1 : Int) % ((2 ^ 64 : Nat) : Int)).toNat = 1 := by decide
  rw [e1, Nat.and_one_is_mod]
  omega
section JN
variable {p : Program} {l : Launch} {e : Env} {R : Room} {s : State} {m : MethodId} {args : Array Value} {below : List Frame} {meth : Method} {c : Code} {H H0 : Heap} {locs : List Loc} {cells slots : Nat} {Q : State → Prop} {cc : ByteArray} {pc : Nat} {ls : Array Slot} {rest : List Value} {D : va_G} {cy : Nat → ClassId} {o : Nat} {M : jT}
theorem j_mmax (hx : p.tables.exec = Jvm.exec) (hb : c.code = cc) (hml : c.maxLocals = ls.size) {own : String} {index : Nat} (hown : s.vm.findClass own = some m.cls) (hlink : (Cond.methodLink own index Lib.Math.max.name).before args s = true) (hstat : (Cond.static Lib.Math.max.name).before args s = true) (hini : (Cond.initialized "java/lang/Math").before args s = true) (hcode : (Cond.code Lib.Math.max.name Lib.Math.max.code 2 (some .int)).before args s = true)
    (hframes : 1 ≤ R.frames) (hlocals : (rest.map fun v => v.category).sum + 13 ≤ R.locals) (hc : cells ≤ R.cells) (hs : slots ≤ R.slots) {x y : Int} (h1 : rg x) (h2 : rg y) (hdg : decode cc pc = .ok (.invokestatic index, 3))
    (kk : W p l e R s m args below meth c H locs cells slots Q (F0 m (pc + 3) ls (.int (J (max x y)) :: rest))) : W p l e R s m args below meth c H locs cells slots Q (F0 m pc ls (.int (J y) :: .int (J x) :: rest)) := by
  refine va_mmax hx hb hml hown hlink hstat hini hcode hframes hlocals hc hs hdg ?_
  have : (if J x < J y then J y else J x) = J (max x y) := by
    by_cases q : x < y
    · rw [if_pos ((J_lt h1 h2).mpr q)]; congr 1; omega
    · rw [if_neg (fun q2 => q ((J_lt h1 h2).mp q2))]; congr 1; omega
  rw [this]; exact kk
theorem j_mmin (hx : p.tables.exec = Jvm.exec) (hb : c.code = cc) (hml : c.maxLocals = ls.size) {own : String} {index : Nat} (hown : s.vm.findClass own = some m.cls) (hlink : (Cond.methodLink own index Lib.Math.min.name).before args s = true) (hstat : (Cond.static Lib.Math.min.name).before args s = true) (hini : (Cond.initialized "java/lang/Math").before args s = true) (hcode : (Cond.code Lib.Math.min.name Lib.Math.min.code 2 (some .int)).before args s = true)
    (hframes : 1 ≤ R.frames) (hlocals : (rest.map fun v => v.category).sum + 13 ≤ R.locals) (hc : cells ≤ R.cells) (hs : slots ≤ R.slots) {x y : Int} (h1 : rg x) (h2 : rg y) (hdg : decode cc pc = .ok (.invokestatic index, 3))
    (kk : W p l e R s m args below meth c H locs cells slots Q (F0 m (pc + 3) ls (.int (J (min x y)) :: rest))) : W p l e R s m args below meth c H locs cells slots Q (F0 m pc ls (.int (J y) :: .int (J x) :: rest)) := by
  refine va_mmin hx hb hml hown hlink hstat hini hcode hframes hlocals hc hs hdg ?_
  have : (if J y < J x then J y else J x) = J (min x y) := by
    by_cases q : y < x
    · rw [if_pos ((J_lt h2 h1).mpr q)]; congr 1; omega
    · rw [if_neg (fun q2 => q ((J_lt h2 h1).mp q2))]; congr 1; omega
  first | (rw [this]; exact kk) | (simp only [gt_iff_lt]; rw [this]; exact kk)
theorem j_ti (hx : p.tables.exec = Jvm.exec) (hb : c.code = cc) {o : Nat} {t N : Nat} (hT : va_T .int t N (fun j => .int (J (msV.getD j 0))) (oA o) s s.heap) (hS : va_S (oA o) s.heap H locs) {i : Int} (hi : 0 ≤ i ∧ i < N) (hN : N < 2 ^ 31) (hdg : decode cc pc = .ok (.iaload, 1))
    (kk : W p l e R s m args below meth c H locs cells slots Q (F0 m (pc + 1) ls (.int (J (msF i)) :: rest))) : W p l e R s m args below meth c H locs cells slots Q (F0 m pc ls (.int (J i) :: .ref t :: rest)) :=
  va_ti hx hb hT hS (J_in hi.1 hi.2 hN) (v := .int (J (msF i))) (by rw [J_cl hi.1 (by omega)]; rfl) hdg kk
theorem j_lshr (hx : p.tables.exec = Jvm.exec) (hb : c.code = cc) {x : Int} (n : Nat) {y : Int} (hy : y = (n : Int)) (hdg : decode cc pc = .ok (.lshr, 1)) (h0 : rl x) (h1 : n < 63) (k : W p l e R s m args below meth c H locs cells slots Q (F0 m (pc + 1) ls (.long (JL (x / 2 ^ n)) :: rest))) : W p l e R s m args below meth c H locs cells slots Q (F0 m pc ls (.int (J y) :: .long (JL x) :: rest)) := by
  subst hy
  exact lv_lshr hx hb hdg (JL_shr h0 n h1) k
theorem j_lshl1 (hx : p.tables.exec = Jvm.exec) (hb : c.code = cc) (n : Nat) {y : Int} (hy : y = (n : Int)) (hdg : decode cc pc = .ok (.lshl, 1)) (h1 : n < 63) (k : W p l e R s m args below meth c H locs cells slots Q (F0 m (pc + 1) ls (.long (JL (2 ^ n)) :: rest))) : W p l e R s m args below meth c H locs cells slots Q (F0 m pc ls (.int (J y) :: .long (JL 1) :: rest)) := by
  subst hy
  exact lv_lshl hx hb hdg (JL_shl n h1) k
theorem j_land1 (hx : p.tables.exec = Jvm.exec) (hb : c.code = cc) {x : Int} (hdg : decode cc pc = .ok (.land, 1)) (k : W p l e R s m args below meth c H locs cells slots Q (F0 m (pc + 1) ls (.long (JL (x % 2)) :: rest))) : W p l e R s m args below meth c H locs cells slots Q (F0 m pc ls (.long (JL 1) :: .long (JL x) :: rest)) :=
  lv_land hx hb hdg (by rw [JL_and1]; exact k)
theorem j_lxor (hx : p.tables.exec = Jvm.exec) (hb : c.code = cc) {x y : Int} (hdg : decode cc pc = .ok (.lxor, 1)) (k : W p l e R s m args below meth c H locs cells slots Q (F0 m (pc + 1) ls (.long (JL (lxI x y)) :: rest))) : W p l e R s m args below meth c H locs cells slots Q (F0 m pc ls (.long (JL y) :: .long (JL x) :: rest)) :=
  lv_lxor hx hb hdg (by have : JL x ^^^ JL y = JL (lxI x y) := (JL_of _).symm; rw [this]; exact k)
theorem wsM_setw (cy : Nat → ClassId) (o : Nat) (M : jT) {k : Int} (h0 : 0 ≤ k) (h1 : k < 630) (r : Int → Int) {e : va_E} (he : e = ce cy o k r) : (wsM cy o M).set k.toNat (rA o k, e) = wsM cy o (upw M k r) := by
  obtain ⟨n, rfl⟩ := Int.eq_ofNat_of_zero_le h0
  have hn : n < 630 := by omega
  apply List.ext_getElem?
  intro i
  by_cases hi : i < 630
  · rw [List.getElem?_set]
    by_cases e1 : n = i
    · subst e1
      have : (Int.toNat (n : Int)) = n := by omega
      simp only [this, if_true, wsM_len, hn]
      simp [wsM, List.getElem?_map, List.getElem?_range, hn, he, upw, rA]
    · have : (Int.toNat (n : Int)) = n := by omega
      have e2 : ¬ ((i : Int) = (n : Int)) := by omega
      simp only [this, e1, if_false]
      simp [wsM, List.getElem?_map, List.getElem?_range, hi, upw, e2]
  · rw [List.getElem?_eq_none (by rw [List.length_set, wsM_len]; omega), List.getElem?_eq_none (by rw [wsM_len]; omega)]
theorem j_copyi (hx : p.tables.exec = Jvm.exec) (hb : c.code = cc) (hml : c.maxLocals = ls.size) {own : String} {index : Nat} (hown : s.vm.findClass own = some m.cls) (hlink : (Cond.methodLink own index arraycopyName).before args s = true) (hnat : (Cond.native arraycopyName).before args s = true) (hstat : (Cond.static arraycopyName).before args s = true) (hini : (Cond.initialized "java/lang/System").before args s = true)
    (hK : va_K D jCl (tysF cy) s) (hG : GM D cy o M H0 H locs) {k0 k1 sp dp n : Int} {n0 n1 : Nat} (hk0 : kd k0 = 1000 + n0) (hk1 : kd k1 = 1000 + n1) (hn0 : n0 < 99000) (hn1 : n1 < 99000) (hg : 0 ≤ sp ∧ 0 ≤ dp ∧ 0 ≤ n ∧ sp + n ≤ n0 ∧ dp + n ≤ n1)
    (hframes : 1 ≤ R.frames) (hlocals : (rest.map fun v => v.category).sum + (nativeFrameWords "java/lang/System" "arraycopy" 5 + 11) ≤ R.locals) (hdg : decode cc pc = .ok (.invokestatic index, 3))
    (kk : ∀ M1 : jT, M1 = upw M k1 (cpy (M k0) (M k1) sp dp n) → ∀ (H : Heap) (locs : List Loc), GM D cy o M1 H0 H locs → W p l e R s m args below meth c H locs cells slots Q (F0 m (pc + 3) ls rest)) : W p l e R s m args below meth c H locs cells slots Q (F0 m pc ls (.int (J n) :: .int (J dp) :: .ref (rA o k1) :: .int (J sp) :: .ref (rA o k0) :: rest)) := by
  obtain ⟨g1, g2, g3, g4, g5⟩ := hg
  have r0 := kd_rng (k := k0) (by omega)
  have r1 := kd_rng (k := k1) (by omega)
  have w0 := wsM_get cy o M r0.1 r0.2
  have w1 := wsM_get cy o M r1.1 r1.2
  rw [ce_i hk0 hn0] at w0
  rw [ce_i hk1 hn1] at w1
  have nn : ∀ z : Int, 0 ≤ z → z < 2147483648 → ¬ J z < 0 := fun z q1 q2 q3 => by
    have := (J_lt (a := z) (b := 0) ⟨by omega, by omega⟩ ⟨by omega, by omega⟩).mp q3
    omega
  refine va_copyi hx hb hml hown hlink hnat hstat hini hK hG.1 (wsM_D cy o M) hG.2 k0.toNat k1.toNat 0 0 w0 w1 rfl rfl rfl (nn sp g1 (by omega)) (nn dp g2 (by omega)) (nn n g3 (by omega)) (by rw [J_cl g1 (by omega), J_cl g3 (by omega)]; omega) (by rw [J_cl g2 (by omega), J_cl g3 (by omega)]; omega) (fun i _ => rfl) hframes hlocals hdg (fun H1 locs1 hP hD hS => kk _ rfl H1 locs1 ⟨?_, hS⟩)
  rw [wsM_setw cy o M r1.1 r1.2 (cpy (M k0) (M k1) sp dp n)] at hP
  · exact hP
  · rw [ce_i hk1 hn1, J_cl g1 (by omega), J_cl g2 (by omega), J_cl g3 (by omega)]
    have e9 : va_cpy (fun i : Nat => J (M k0 (i : Int))) (fun i : Nat => J (M k1 (i : Int))) sp.toNat dp.toNat n.toNat = fun i : Nat => J (cpy (M k0) (M k1) sp dp n (i : Int)) := by
      funext j
      unfold va_cpy cpy
      by_cases q : dp ≤ (j : Int) ∧ (j : Int) < dp + n
      · rw [if_pos q, if_pos (by omega)]
        have : ((sp.toNat + (j - dp.toNat) : Nat) : Int) = sp + ((j : Int) - dp) := by omega
        show J (M k0 ((sp.toNat + (j - dp.toNat) : Nat) : Int)) = _
        rw [this]
      · rw [if_neg q, if_neg (by omega)]
    rw [e9]
theorem j_alen_i (hx : p.tables.exec = Jvm.exec) (hb : c.code = cc) (hK : va_K D jCl (tysF cy) s) (hG : GM D cy o M H0 H locs) {k : Int} {n : Nat} (hk : kd k = 1000 + n) (hn : n < 99000) (hdg : decode cc pc = .ok (.arraylength, 1))
    (kk : W p l e R s m args below meth c H locs cells slots Q (F0 m (pc + 1) ls (.int (J (n : Int)) :: rest))) : W p l e R s m args below meth c H locs cells slots Q (F0 m pc ls (.ref (rA o k) :: rest)) := by
  have hr := kd_rng (k := k) (by omega)
  have hw := wsM_get cy o M hr.1 hr.2
  rw [ce_i hk hn] at hw
  exact va_alen (v := J (n : Int)) hx hb hK hG.1 k.toNat 0 hw rfl Int32.ofInt_eq_ofNat.symm hdg kk
theorem j_alen_l (hx : p.tables.exec = Jvm.exec) (hb : c.code = cc) (hK : va_K D jCl (tysF cy) s) (hG : GM D cy o M H0 H locs) {k : Int} {n : Nat} (hk : kd k = 100000 + n) (hn : n < 100000) (hdg : decode cc pc = .ok (.arraylength, 1))
    (kk : W p l e R s m args below meth c H locs cells slots Q (F0 m (pc + 1) ls (.int (J (n : Int)) :: rest))) : W p l e R s m args below meth c H locs cells slots Q (F0 m pc ls (.ref (rA o k) :: rest)) := by
  have hr := kd_rng (k := k) (by omega)
  have hw := wsM_get cy o M hr.1 hr.2
  rw [ce_l hk hn] at hw
  exact va_alen (v := J (n : Int)) hx hb hK hG.1 k.toNat 1 hw rfl Int32.ofInt_eq_ofNat.symm hdg kk
theorem j_alen_c (hx : p.tables.exec = Jvm.exec) (hb : c.code = cc) (hK : va_K D jCl (tysF cy) s) (hG : GM D cy o M H0 H locs) {k : Int} {n : Nat} (hk : kd k = 200000 + n) (hn : n < 100000) (hdg : decode cc pc = .ok (.arraylength, 1))
    (kk : W p l e R s m args below meth c H locs cells slots Q (F0 m (pc + 1) ls (.int (J (n : Int)) :: rest))) : W p l e R s m args below meth c H locs cells slots Q (F0 m pc ls (.ref (rA o k) :: rest)) := by
  have hr := kd_rng (k := k) (by omega)
  have hw := wsM_get cy o M hr.1 hr.2
  rw [ce_c hk] at hw
  exact va_alen (v := J (n : Int)) hx hb hK hG.1 k.toNat 2 hw rfl Int32.ofInt_eq_ofNat.symm hdg kk
end JN
