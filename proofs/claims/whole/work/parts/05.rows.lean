noncomputable section
end
theorem J_ls (k : Nat) (h : k < 32) : ((J (k : Int) &&& 31).toBitVec.smod 32).toNat = k := by
  rw [J_nI (by omega)]
  exact (by decide +kernel : ∀ n, n < 32 → ((nI n &&& 31).toBitVec.smod 32).toNat = n) k h
theorem J_us (k : Nat) (h : k < 32) : (((J (k : Int)).toUInt32 &&& Int32.toUInt32 31).toBitVec % 32).toNat = k := by
  rw [J_nI (by omega)]
  exact (by decide +kernel : ∀ n, n < 32 → (((nI n).toUInt32 &&& Int32.toUInt32 31).toBitVec % 32).toNat = n) k h
theorem J_shr {a : Int} (ha : rg a) (k : Nat) (h : k < 32) : J a >>> (J (k : Int) &&& 31) = J (a / 2 ^ k) := by
  apply Int32.toInt_inj.mp
  rw [pk_shr _ _ k (J_ls k h), J_toInt ha, Int.shiftRight_eq_div_pow]
  have h2 : (0 : Int) < 2 ^ k := Int.pow_pos (by omega)
  have h1 : a / 2 ^ k ≤ a ∨ a / 2 ^ k ≤ 0 := by
    by_cases h0 : 0 ≤ a
    · exact Or.inl (Int.ediv_le_self _ h0)
    · exact Or.inr (Int.le_of_lt (Int.ediv_neg_of_neg_of_pos (by omega) h2))
  have h3 : a ≤ a / 2 ^ k ∨ 0 ≤ a / 2 ^ k := by
    by_cases h0 : 0 ≤ a
    · exact Or.inr (Int.ediv_nonneg h0 (by omega))
    · left
      have h4 : a * 2 ^ k ≤ a * 1 := Int.mul_le_mul_of_nonpos_left (by omega) (by omega)
      exact (Int.le_ediv_iff_mul_le h2).mpr (by omega)
  have h5 : ((2 ^ k : Nat) : Int) = (2 : Int) ^ k := by norm_cast
  rw [h5]
  obtain ⟨q1, q2⟩ := ha
  rw [J_toInt ⟨by omega, by omega⟩]
theorem J_bv (a : Int) : (J a).toBitVec.toNat = (a % 4294967296).toNat := by
  unfold J
  rw [show (Int32.ofInt a).toBitVec = BitVec.ofInt 32 a from rfl, BitVec.toNat_ofInt]
  rfl
theorem J_and (a : Int) (k : Nat) (hk : k < 31) : J a &&& J (2 ^ k - 1) = J (a % 2 ^ k) := by
  have h2 : (0 : Int) < 2 ^ k := Int.pow_pos (by omega)
  have h3 : (2 : Int) ^ k ≤ 2 ^ 30 := by
    have : (2:Nat) ^ k ≤ 2 ^ 30 := Nat.pow_le_pow_right (by omega) (by omega)
    exact_mod_cast this
  have hm : (J (2 ^ k - 1)).toBitVec.toNat = 2 ^ k - 1 := by
    rw [J_bv, Int.emod_eq_of_lt (by omega) (by omega)]
    have : ((2 ^ k : Nat) : Int) = (2 : Int) ^ k := by norm_cast
    omega
  rw [pk_and (J a) k hm, J_bv]
  have h4 : 0 ≤ a % 2 ^ k := Int.emod_nonneg _ (by omega)
  rw [J_nI h4]
  congr 1
  have h5 : ((2 ^ k : Nat) : Int) = (2 : Int) ^ k := by norm_cast
  have h6 : ((((a % 4294967296).toNat % 2 ^ k : Nat)) : Int) = a % 2 ^ k := by
    rw [Int.natCast_emod, h5, Int.toNat_of_nonneg (Int.emod_nonneg _ (by omega))]
    have h7 : (4294967296 : Int) = 2 ^ k * 2 ^ (32 - k) := by
      rw [← Int.pow_add, show k + (32 - k) = 32 by omega]; rfl
    exact Int.emod_emod_of_dvd a ⟨_, h7⟩
  omega
theorem J_ushr (a : Int) (k : Nat) (h : k < 32) : ((J a).toUInt32 >>> ((J (k : Int)).toUInt32 &&& Int32.toUInt32 31)).toInt32 = J (a % 4294967296 / 2 ^ k) := by
  have h1 := pk_ushr (J a) (J (k : Int)) k (J_us k h)
  have h0 : 0 ≤ a % 4294967296 := Int.emod_nonneg _ (by omega)
  have h9 : a % 4294967296 < 4294967296 := Int.emod_lt_of_pos _ (by omega)
  have h5 : ((2 ^ k : Nat) : Int) = (2 : Int) ^ k := by norm_cast
  have h2 : (0 : Int) < 2 ^ k := Int.pow_pos (by omega)
  apply Int32.toBitVec_inj.mp
  apply BitVec.eq_of_toNat_eq
  rw [h1, J_bv, J_bv]
  have h3 : 0 ≤ a % 4294967296 / 2 ^ k := Int.ediv_nonneg h0 (by omega)
  have h4 : a % 4294967296 / 2 ^ k ≤ a % 4294967296 := Int.ediv_le_self _ h0
  rw [Int.emod_eq_of_lt h3 (by omega), ← toNat_ed h0 h2]
  congr 1
noncomputable section
end
theorem J_i2c {x : Int} (h0 : 0 ≤ x) (h1 : x < 65536) : ((J x).toUInt32 % 65536).toInt32 = J x := by
  rw [pk_char, J_bv, Int.emod_eq_of_lt h0 (by omega), J_nI h0, Nat.mod_eq_of_lt (by omega)]
theorem J_cmp {x y : Int} (hx : rl x) (hy : rl y) : lg_cmp (JL x) (JL y) = J (if y < x then 1 else if x < y then -1 else 0) := by
  have e2 := JL_lt hy hx
  have e3 := JL_eq hx hy
  unfold lg_cmp
  by_cases h1 : y < x
  · rw [if_pos h1, if_pos (e2.mpr h1)]; rfl
  · rw [if_neg h1, if_neg (fun q => h1 (e2.mp q))]
    by_cases h2 : x < y
    · rw [if_pos h2, if_neg (fun q => by have := e3.mp q; omega)]; rfl
    · rw [if_neg h2, if_pos (e3.mpr (by omega))]; rfl
section JR3
variable {p : Program} {l : Launch} {e : Env} {R : Room} {s : State} {m : MethodId} {args : Array Value} {below : List Frame} {meth : Method} {c : Code} {H H0 : Heap} {locs : List Loc} {cells slots : Nat} {Q : State → Prop} {cc : ByteArray} {pc : Nat} {ls : Array Slot} {rest : List Value} {D : va_G} {cy : Nat → ClassId} {o : Nat} {M : jT}
theorem j_iadd (hx : p.tables.exec = Jvm.exec) (hb : c.code = cc) {x y : Int} (hdg : decode cc pc = .ok (.iadd, 1)) (k : W p l e R s m args below meth c H locs cells slots Q (F0 m (pc + 1) ls (.int (J (x + y)) :: rest))) : W p l e R s m args below meth c H locs cells slots Q (F0 m pc ls (.int (J y) :: .int (J x) :: rest)) := lv_iadd hx hb hdg (by rw [J_add]; exact k)
theorem j_isub (hx : p.tables.exec = Jvm.exec) (hb : c.code = cc) {x y : Int} (hdg : decode cc pc = .ok (.isub, 1)) (k : W p l e R s m args below meth c H locs cells slots Q (F0 m (pc + 1) ls (.int (J (x - y)) :: rest))) : W p l e R s m args below meth c H locs cells slots Q (F0 m pc ls (.int (J y) :: .int (J x) :: rest)) := lv_isub hx hb hdg (by rw [J_sub]; exact k)
theorem j_imul (hx : p.tables.exec = Jvm.exec) (hb : c.code = cc) {x y : Int} (hdg : decode cc pc = .ok (.imul, 1)) (k : W p l e R s m args below meth c H locs cells slots Q (F0 m (pc + 1) ls (.int (J (x * y)) :: rest))) : W p l e R s m args below meth c H locs cells slots Q (F0 m pc ls (.int (J y) :: .int (J x) :: rest)) := lv_imul hx hb hdg (by rw [J_mul]; exact k)
theorem j_ladd (hx : p.tables.exec = Jvm.exec) (hb : c.code = cc) {x y : Int} (hdg : decode cc pc = .ok (.ladd, 1)) (k : W p l e R s m args below meth c H locs cells slots Q (F0 m (pc + 1) ls (.long (JL (x + y)) :: rest))) : W p l e R s m args below meth c H locs cells slots Q (F0 m pc ls (.long (JL y) :: .long (JL x) :: rest)) := lv_ladd hx hb hdg (by rw [JL_add]; exact k)
theorem j_lsub (hx : p.tables.exec = Jvm.exec) (hb : c.code = cc) {x y : Int} (hdg : decode cc pc = .ok (.lsub, 1)) (k : W p l e R s m args below meth c H locs cells slots Q (F0 m (pc + 1) ls (.long (JL (x - y)) :: rest))) : W p l e R s m args below meth c H locs cells slots Q (F0 m pc ls (.long (JL y) :: .long (JL x) :: rest)) := lv_lsub hx hb hdg (by rw [JL_sub]; exact k)
theorem j_lmul (hx : p.tables.exec = Jvm.exec) (hb : c.code = cc) {x y : Int} (hdg : decode cc pc = .ok (.lmul, 1)) (k : W p l e R s m args below meth c H locs cells slots Q (F0 m (pc + 1) ls (.long (JL (x * y)) :: rest))) : W p l e R s m args below meth c H locs cells slots Q (F0 m pc ls (.long (JL y) :: .long (JL x) :: rest)) := lv_lmul hx hb hdg (by rw [JL_mul]; exact k)
theorem j_ineg (hx : p.tables.exec = Jvm.exec) (hb : c.code = cc) {x : Int} (hdg : decode cc pc = .ok (.ineg, 1)) (k : W p l e R s m args below meth c H locs cells slots Q (F0 m (pc + 1) ls (.int (J (-x)) :: rest))) : W p l e R s m args below meth c H locs cells slots Q (F0 m pc ls (.int (J x) :: rest)) := lv_ineg hx hb hdg (by rw [J_neg]; exact k)
theorem j_idiv (hx : p.tables.exec = Jvm.exec) (hb : c.code = cc) {x y : Int} (hdg : decode cc pc = .ok (.idiv, 1)) (h0 : 0 ≤ x ∧ x < 2147483648) (h1 : 0 < y ∧ y < 2147483648) (k : W p l e R s m args below meth c H locs cells slots Q (F0 m (pc + 1) ls (.int (J (x / y)) :: rest))) : W p l e R s m args below meth c H locs cells slots Q (F0 m pc ls (.int (J y) :: .int (J x) :: rest)) := lv_idiv hx hb hdg (J_ne0 ⟨by omega, by omega⟩ (by omega)) (by rw [J_div h0.1 h0.2 h1.1 h1.2]; exact k)
theorem j_irem (hx : p.tables.exec = Jvm.exec) (hb : c.code = cc) {x y : Int} (hdg : decode cc pc = .ok (.irem, 1)) (h0 : 0 ≤ x ∧ x < 2147483648) (h1 : 0 < y ∧ y < 2147483648) (k : W p l e R s m args below meth c H locs cells slots Q (F0 m (pc + 1) ls (.int (J (x % y)) :: rest))) : W p l e R s m args below meth c H locs cells slots Q (F0 m pc ls (.int (J y) :: .int (J x) :: rest)) := lv_irem hx hb hdg (J_ne0 ⟨by omega, by omega⟩ (by omega)) (by rw [J_rem h0.1 h0.2 h1.1 h1.2]; exact k)
theorem j_ldiv (hx : p.tables.exec = Jvm.exec) (hb : c.code = cc) {x y : Int} (hdg : decode cc pc = .ok (.ldiv, 1)) (h0 : 0 ≤ x ∧ x < 9223372036854775808) (h1 : 0 < y ∧ y < 9223372036854775808) (k : W p l e R s m args below meth c H locs cells slots Q (F0 m (pc + 1) ls (.long (JL (x / y)) :: rest))) : W p l e R s m args below meth c H locs cells slots Q (F0 m pc ls (.long (JL y) :: .long (JL x) :: rest)) := lv_ldiv hx hb hdg (JL_ne0 ⟨by omega, by omega⟩ (by omega)) (by rw [JL_div h0.1 h0.2 h1.1 h1.2]; exact k)
theorem j_lrem (hx : p.tables.exec = Jvm.exec) (hb : c.code = cc) {x y : Int} (hdg : decode cc pc = .ok (.lrem, 1)) (h0 : 0 ≤ x ∧ x < 9223372036854775808) (h1 : 0 < y ∧ y < 9223372036854775808) (k : W p l e R s m args below meth c H locs cells slots Q (F0 m (pc + 1) ls (.long (JL (x % y)) :: rest))) : W p l e R s m args below meth c H locs cells slots Q (F0 m pc ls (.long (JL y) :: .long (JL x) :: rest)) := lv_lrem hx hb hdg (JL_ne0 ⟨by omega, by omega⟩ (by omega)) (by rw [JL_rem h0.1 h0.2 h1.1 h1.2]; exact k)
theorem j_i2l (hx : p.tables.exec = Jvm.exec) (hb : c.code = cc) {x : Int} (hdg : decode cc pc = .ok (.i2l, 1)) (h0 : rg x) (k : W p l e R s m args below meth c H locs cells slots Q (F0 m (pc + 1) ls (.long (JL x) :: rest))) : W p l e R s m args below meth c H locs cells slots Q (F0 m pc ls (.int (J x) :: rest)) := lv_i2l hx hb hdg (J_toL h0) k
theorem j_l2i (hx : p.tables.exec = Jvm.exec) (hb : c.code = cc) {x : Int} (hdg : decode cc pc = .ok (.l2i, 1)) (k : W p l e R s m args below meth c H locs cells slots Q (F0 m (pc + 1) ls (.int (J x) :: rest))) : W p l e R s m args below meth c H locs cells slots Q (F0 m pc ls (.long (JL x) :: rest)) := lv_l2i hx hb hdg (JL_toI x) k
theorem j_i2c (hx : p.tables.exec = Jvm.exec) (hb : c.code = cc) {x : Int} (hdg : decode cc pc = .ok (.i2c, 1)) (h0 : 0 ≤ x ∧ x < 65536) (k : W p l e R s m args below meth c H locs cells slots Q (F0 m (pc + 1) ls (.int (J x) :: rest))) : W p l e R s m args below meth c H locs cells slots Q (F0 m pc ls (.int (J x) :: rest)) := lv_i2c hx hb hdg (J_i2c h0.1 h0.2) k
theorem j_ishr (hx : p.tables.exec = Jvm.exec) (hb : c.code = cc) {x : Int} (n : Nat) {y : Int} (hy : y = (n : Int)) (hdg : decode cc pc = .ok (.ishr, 1)) (h0 : rg x) (h1 : n < 32) (k : W p l e R s m args below meth c H locs cells slots Q (F0 m (pc + 1) ls (.int (J (x / 2 ^ n)) :: rest))) : W p l e R s m args below meth c H locs cells slots Q (F0 m pc ls (.int (J y) :: .int (J x) :: rest)) := by
  subst hy
  exact lv_ishr hx hb hdg (by rw [J_shr h0 n h1]; exact k)
theorem j_iushr (hx : p.tables.exec = Jvm.exec) (hb : c.code = cc) {x : Int} (n : Nat) {y : Int} (hy : y = (n : Int)) (hdg : decode cc pc = .ok (.iushr, 1)) (h1 : n < 32) (k : W p l e R s m args below meth c H locs cells slots Q (F0 m (pc + 1) ls (.int (J (x % 4294967296 / 2 ^ n)) :: rest))) : W p l e R s m args below meth c H locs cells slots Q (F0 m pc ls (.int (J y) :: .int (J x) :: rest)) := by
  subst hy
  exact lv_iushr hx hb hdg (J_ushr x n h1) k
theorem j_iand (hx : p.tables.exec = Jvm.exec) (hb : c.code = cc) {x y : Int} (n : Nat) (hy : y = 2 ^ n - 1) (hdg : decode cc pc = .ok (.iand, 1)) (h1 : n < 31) (k : W p l e R s m args below meth c H locs cells slots Q (F0 m (pc + 1) ls (.int (J (x % 2 ^ n)) :: rest))) : W p l e R s m args below meth c H locs cells slots Q (F0 m pc ls (.int (J y) :: .int (J x) :: rest)) := by
  subst hy
  exact lv_iand hx hb hdg (by rw [J_and x n h1]; exact k)
theorem j_topi {x : Int} (k : ∀ y : Int, y = x → W p l e R s m args below meth c H locs cells slots Q (F0 m pc ls (.int (J y) :: rest))) : W p l e R s m args below meth c H locs cells slots Q (F0 m pc ls (.int (J x) :: rest)) := k x rfl
theorem j_topl {x : Int} (k : ∀ y : Int, y = x → W p l e R s m args below meth c H locs cells slots Q (F0 m pc ls (.long (JL y) :: rest))) : W p l e R s m args below meth c H locs cells slots Q (F0 m pc ls (.long (JL x) :: rest)) := k x rfl
theorem j_iinc (hx : p.tables.exec = Jvm.exec) (hb : c.code = cc) {i nL k : Nat} {n x : Int} {lv : List (Nat × Value)} (hdg : decode cc pc = .ok (.iinc i n, 3)) (h : lv_has ls nL lv) (hk : lv[k]? = some (i, .int (J x))) (hn : i < nL) (kk : ∀ y : Int, y = x + n → ∀ ls : Array Slot, lv_has ls nL ((i, Value.int (J y)) :: lv.filter (fun q => !(q.1 == i) && !(q.1 + 1 == i && q.2.category == 2))) → W p l e R s m args below meth c H locs cells slots Q (F0 m (pc + 3) ls rest)) : W p l e R s m args below meth c H locs cells slots Q (F0 m pc ls rest) := lv_iinc hx hb hdg h hk (v := J (x + n)) (by show J x + J n = _; rw [J_add]) hn rfl (fun ls hl => kk _ rfl ls hl)
theorem j_icmp_eq (hx : p.tables.exec = Jvm.exec) (hb : c.code = cc) {x y : Int} {off : Int} {tgt : Nat} (hdg : decode cc pc = .ok (.if_icmp .eq off, 3)) (ht : (pc : Int) + off = (tgt : Int)) (hx1 : rg x) (hx2 : rg y) (kt : x = y → W p l e R s m args below meth c H locs cells slots Q (F0 m tgt ls rest)) (kf : x ≠ y → W p l e R s m args below meth c H locs cells slots Q (F0 m (pc + 3) ls rest)) : W p l e R s m args below meth c H locs cells slots Q (F0 m pc ls (.int (J y) :: .int (J x) :: rest)) := lv_icmp_eq hx hb hdg ht (fun q => kt ((J_eq hx1 hx2).mp q)) (fun q => kf (fun q2 => q ((J_eq hx1 hx2).mpr q2)))
theorem j_if_eq (hx : p.tables.exec = Jvm.exec) (hb : c.code = cc) {x : Int} {off : Int} {tgt : Nat} (hdg : decode cc pc = .ok (.ifCond .eq off, 3)) (ht : (pc : Int) + off = (tgt : Int)) (hx1 : rg x) (kt : x = 0 → W p l e R s m args below meth c H locs cells slots Q (F0 m tgt ls rest)) (kf : x ≠ 0 → W p l e R s m args below meth c H locs cells slots Q (F0 m (pc + 3) ls rest)) : W p l e R s m args below meth c H locs cells slots Q (F0 m pc ls (.int (J x) :: rest)) := lv_if_eq hx hb hdg ht (fun q => kt ((J_eq (a := x) (b := 0) hx1 ⟨by omega, by omega⟩).mp q)) (fun q => kf (fun q2 => q ((J_eq (a := x) (b := 0) hx1 ⟨by omega, by omega⟩).mpr q2)))
theorem j_icmp_ne (hx : p.tables.exec = Jvm.exec) (hb : c.code = cc) {x y : Int} {off : Int} {tgt : Nat} (hdg : decode cc pc = .ok (.if_icmp .ne off, 3)) (ht : (pc : Int) + off = (tgt : Int)) (hx1 : rg x) (hx2 : rg y) (kt : x ≠ y → W p l e R s m args below meth c H locs cells slots Q (F0 m tgt ls rest)) (kf : x = y → W p l e R s m args below meth c H locs cells slots Q (F0 m (pc + 3) ls rest)) : W p l e R s m args below meth c H locs cells slots Q (F0 m pc ls (.int (J y) :: .int (J x) :: rest)) := lv_icmp_ne hx hb hdg ht (fun q => kt (fun q2 => q ((J_eq hx1 hx2).mpr q2))) (fun q => kf ((J_eq hx1 hx2).mp q))
theorem j_if_ne (hx : p.tables.exec = Jvm.exec) (hb : c.code = cc) {x : Int} {off : Int} {tgt : Nat} (hdg : decode cc pc = .ok (.ifCond .ne off, 3)) (ht : (pc : Int) + off = (tgt : Int)) (hx1 : rg x) (kt : x ≠ 0 → W p l e R s m args below meth c H locs cells slots Q (F0 m tgt ls rest)) (kf : x = 0 → W p l e R s m args below meth c H locs cells slots Q (F0 m (pc + 3) ls rest)) : W p l e R s m args below meth c H locs cells slots Q (F0 m pc ls (.int (J x) :: rest)) := lv_if_ne hx hb hdg ht (fun q => kt (fun q2 => q ((J_eq (a := x) (b := 0) hx1 ⟨by omega, by omega⟩).mpr q2))) (fun q => kf ((J_eq (a := x) (b := 0) hx1 ⟨by omega, by omega⟩).mp q))
theorem j_icmp_lt (hx : p.tables.exec = Jvm.exec) (hb : c.code = cc) {x y : Int} {off : Int} {tgt : Nat} (hdg : decode cc pc = .ok (.if_icmp .lt off, 3)) (ht : (pc : Int) + off = (tgt : Int)) (hx1 : rg x) (hx2 : rg y) (kt : x < y → W p l e R s m args below meth c H locs cells slots Q (F0 m tgt ls rest)) (kf : y ≤ x → W p l e R s m args below meth c H locs cells slots Q (F0 m (pc + 3) ls rest)) : W p l e R s m args below meth c H locs cells slots Q (F0 m pc ls (.int (J y) :: .int (J x) :: rest)) := lv_icmp_lt hx hb hdg ht (fun q => kt ((J_lt hx1 hx2).mp q)) (fun q => kf (by have q9 : ¬ (x < y) := fun q2 => q ((J_lt hx1 hx2).mpr q2); omega))
theorem j_if_lt (hx : p.tables.exec = Jvm.exec) (hb : c.code = cc) {x : Int} {off : Int} {tgt : Nat} (hdg : decode cc pc = .ok (.ifCond .lt off, 3)) (ht : (pc : Int) + off = (tgt : Int)) (hx1 : rg x) (kt : x < 0 → W p l e R s m args below meth c H locs cells slots Q (F0 m tgt ls rest)) (kf : 0 ≤ x → W p l e R s m args below meth c H locs cells slots Q (F0 m (pc + 3) ls rest)) : W p l e R s m args below meth c H locs cells slots Q (F0 m pc ls (.int (J x) :: rest)) := lv_if_lt hx hb hdg ht (fun q => kt ((J_lt (a := x) (b := 0) hx1 ⟨by omega, by omega⟩).mp q)) (fun q => kf (by have q9 : ¬ (x < 0) := fun q2 => q ((J_lt (a := x) (b := 0) hx1 ⟨by omega, by omega⟩).mpr q2); omega))
theorem j_icmp_ge (hx : p.tables.exec = Jvm.exec) (hb : c.code = cc) {x y : Int} {off : Int} {tgt : Nat} (hdg : decode cc pc = .ok (.if_icmp .ge off, 3)) (ht : (pc : Int) + off = (tgt : Int)) (hx1 : rg x) (hx2 : rg y) (kt : y ≤ x → W p l e R s m args below meth c H locs cells slots Q (F0 m tgt ls rest)) (kf : x < y → W p l e R s m args below meth c H locs cells slots Q (F0 m (pc + 3) ls rest)) : W p l e R s m args below meth c H locs cells slots Q (F0 m pc ls (.int (J y) :: .int (J x) :: rest)) := lv_icmp_ge hx hb hdg ht (fun q => kt ((J_le hx2 hx1).mp q)) (fun q => kf (by have q9 : ¬ (y ≤ x) := fun q2 => q ((J_le hx2 hx1).mpr q2); omega))
theorem j_if_ge (hx : p.tables.exec = Jvm.exec) (hb : c.code = cc) {x : Int} {off : Int} {tgt : Nat} (hdg : decode cc pc = .ok (.ifCond .ge off, 3)) (ht : (pc : Int) + off = (tgt : Int)) (hx1 : rg x) (kt : 0 ≤ x → W p l e R s m args below meth c H locs cells slots Q (F0 m tgt ls rest)) (kf : x < 0 → W p l e R s m args below meth c H locs cells slots Q (F0 m (pc + 3) ls rest)) : W p l e R s m args below meth c H locs cells slots Q (F0 m pc ls (.int (J x) :: rest)) := lv_if_ge hx hb hdg ht (fun q => kt ((J_le (a := 0) (b := x) ⟨by omega, by omega⟩ hx1).mp q)) (fun q => kf (by have q9 : ¬ (0 ≤ x) := fun q2 => q ((J_le (a := 0) (b := x) ⟨by omega, by omega⟩ hx1).mpr q2); omega))
theorem j_icmp_gt (hx : p.tables.exec = Jvm.exec) (hb : c.code = cc) {x y : Int} {off : Int} {tgt : Nat} (hdg : decode cc pc = .ok (.if_icmp .gt off, 3)) (ht : (pc : Int) + off = (tgt : Int)) (hx1 : rg x) (hx2 : rg y) (kt : y < x → W p l e R s m args below meth c H locs cells slots Q (F0 m tgt ls rest)) (kf : x ≤ y → W p l e R s m args below meth c H locs cells slots Q (F0 m (pc + 3) ls rest)) : W p l e R s m args below meth c H locs cells slots Q (F0 m pc ls (.int (J y) :: .int (J x) :: rest)) := lv_icmp_gt hx hb hdg ht (fun q => kt ((J_lt hx2 hx1).mp q)) (fun q => kf (by have q9 : ¬ (y < x) := fun q2 => q ((J_lt hx2 hx1).mpr q2); omega))
theorem j_if_gt (hx : p.tables.exec = Jvm.exec) (hb : c.code = cc) {x : Int} {off : Int} {tgt : Nat} (hdg : decode cc pc = .ok (.ifCond .gt off, 3)) (ht : (pc : Int) + off = (tgt : Int)) (hx1 : rg x) (kt : 0 < x → W p l e R s m args below meth c H locs cells slots Q (F0 m tgt ls rest)) (kf : x ≤ 0 → W p l e R s m args below meth c H locs cells slots Q (F0 m (pc + 3) ls rest)) : W p l e R s m args below meth c H locs cells slots Q (F0 m pc ls (.int (J x) :: rest)) := lv_if_gt hx hb hdg ht (fun q => kt ((J_lt (a := 0) (b := x) ⟨by omega, by omega⟩ hx1).mp q)) (fun q => kf (by have q9 : ¬ (0 < x) := fun q2 => q ((J_lt (a := 0) (b := x) ⟨by omega, by omega⟩ hx1).mpr q2); omega))
theorem j_icmp_le (hx : p.tables.exec = Jvm.exec) (hb : c.code = cc) {x y : Int} {off : Int} {tgt : Nat} (hdg : decode cc pc = .ok (.if_icmp .le off, 3)) (ht : (pc : Int) + off = (tgt : Int)) (hx1 : rg x) (hx2 : rg y) (kt : x ≤ y → W p l e R s m args below meth c H locs cells slots Q (F0 m tgt ls rest)) (kf : y < x → W p l e R s m args below meth c H locs cells slots Q (F0 m (pc + 3) ls rest)) : W p l e R s m args below meth c H locs cells slots Q (F0 m pc ls (.int (J y) :: .int (J x) :: rest)) := lv_icmp_le hx hb hdg ht (fun q => kt ((J_le hx1 hx2).mp q)) (fun q => kf (by have q9 : ¬ (x ≤ y) := fun q2 => q ((J_le hx1 hx2).mpr q2); omega))
theorem j_if_le (hx : p.tables.exec = Jvm.exec) (hb : c.code = cc) {x : Int} {off : Int} {tgt : Nat} (hdg : decode cc pc = .ok (.ifCond .le off, 3)) (ht : (pc : Int) + off = (tgt : Int)) (hx1 : rg x) (kt : x ≤ 0 → W p l e R s m args below meth c H locs cells slots Q (F0 m tgt ls rest)) (kf : 0 < x → W p l e R s m args below meth c H locs cells slots Q (F0 m (pc + 3) ls rest)) : W p l e R s m args below meth c H locs cells slots Q (F0 m pc ls (.int (J x) :: rest)) := lv_if_le hx hb hdg ht (fun q => kt ((J_le (a := x) (b := 0) hx1 ⟨by omega, by omega⟩).mp q)) (fun q => kf (by have q9 : ¬ (x ≤ 0) := fun q2 => q ((J_le (a := x) (b := 0) hx1 ⟨by omega, by omega⟩).mpr q2); omega))
theorem j_if_eq_b (hx : p.tables.exec = Jvm.exec) (hb : c.code = cc) {P : Prop} {off : Int} {tgt : Nat} (hdg : decode cc pc = .ok (.ifCond .eq off, 3)) (ht : (pc : Int) + off = (tgt : Int)) (kt : ¬ P → W p l e R s m args below meth c H locs cells slots Q (F0 m tgt ls rest)) (kf : P → W p l e R s m args below meth c H locs cells slots Q (F0 m (pc + 3) ls rest)) : W p l e R s m args below meth c H locs cells slots Q (F0 m pc ls (.int (J (b2i P)) :: rest)) := j_if_eq hx hb hdg ht ⟨by have := b2i_rng P; omega, by have := b2i_rng P; omega⟩ (fun q => kt (b2i_0.mp q)) (fun q => kf (b2i_1.mp q))
theorem j_if_ne_b (hx : p.tables.exec = Jvm.exec) (hb : c.code = cc) {P : Prop} {off : Int} {tgt : Nat} (hdg : decode cc pc = .ok (.ifCond .ne off, 3)) (ht : (pc : Int) + off = (tgt : Int)) (kt : P → W p l e R s m args below meth c H locs cells slots Q (F0 m tgt ls rest)) (kf : ¬ P → W p l e R s m args below meth c H locs cells slots Q (F0 m (pc + 3) ls rest)) : W p l e R s m args below meth c H locs cells slots Q (F0 m pc ls (.int (J (b2i P)) :: rest)) := j_if_ne hx hb hdg ht ⟨by have := b2i_rng P; omega, by have := b2i_rng P; omega⟩ (fun q => kt (b2i_1.mp q)) (fun q => kf (b2i_0.mp q))
theorem j_lcmp_eq (hx : p.tables.exec = Jvm.exec) (hb : c.code = cc) {x y : Int} {off : Int} {tgt : Nat} (hd1 : decode cc pc = .ok (.lcmp, 1)) (hdg : decode cc (pc + 1) = .ok (.ifCond .eq off, 3)) (ht : ((pc + 1 : Nat) : Int) + off = (tgt : Int)) (hx1 : rl x) (hx2 : rl y) (kt : x = y → W p l e R s m args below meth c H locs cells slots Q (F0 m tgt ls rest)) (kf : x ≠ y → W p l e R s m args below meth c H locs cells slots Q (F0 m (pc + 1 + 3) ls rest)) : W p l e R s m args below meth c H locs cells slots Q (F0 m pc ls (.long (JL y) :: .long (JL x) :: rest)) := by
  refine W.lcmp hx hb hd1 ?_
  rw [J_cmp hx1 hx2]
  refine j_if_eq hx hb hdg ht ?_ (fun q => kt ?_) (fun q => kf ?_) <;> (split at * <;> (try split at *) <;> omega)
theorem j_lcmp_ne (hx : p.tables.exec = Jvm.exec) (hb : c.code = cc) {x y : Int} {off : Int} {tgt : Nat} (hd1 : decode cc pc = .ok (.lcmp, 1)) (hdg : decode cc (pc + 1) = .ok (.ifCond .ne off, 3)) (ht : ((pc + 1 : Nat) : Int) + off = (tgt : Int)) (hx1 : rl x) (hx2 : rl y) (kt : x ≠ y → W p l e R s m args below meth c H locs cells slots Q (F0 m tgt ls rest)) (kf : x = y → W p l e R s m args below meth c H locs cells slots Q (F0 m (pc + 1 + 3) ls rest)) : W p l e R s m args below meth c H locs cells slots Q (F0 m pc ls (.long (JL y) :: .long (JL x) :: rest)) := by
  refine W.lcmp hx hb hd1 ?_
  rw [J_cmp hx1 hx2]
  refine j_if_ne hx hb hdg ht ?_ (fun q => kt ?_) (fun q => kf ?_) <;> (split at * <;> (try split at *) <;> omega)
theorem j_lcmp_lt (hx : p.tables.exec = Jvm.exec) (hb : c.code = cc) {x y : Int} {off : Int} {tgt : Nat} (hd1 : decode cc pc = .ok (.lcmp, 1)) (hdg : decode cc (pc + 1) = .ok (.ifCond .lt off, 3)) (ht : ((pc + 1 : Nat) : Int) + off = (tgt : Int)) (hx1 : rl x) (hx2 : rl y) (kt : x < y → W p l e R s m args below meth c H locs cells slots Q (F0 m tgt ls rest)) (kf : y ≤ x → W p l e R s m args below meth c H locs cells slots Q (F0 m (pc + 1 + 3) ls rest)) : W p l e R s m args below meth c H locs cells slots Q (F0 m pc ls (.long (JL y) :: .long (JL x) :: rest)) := by
  refine W.lcmp hx hb hd1 ?_
  rw [J_cmp hx1 hx2]
  refine j_if_lt hx hb hdg ht ?_ (fun q => kt ?_) (fun q => kf ?_) <;> (split at * <;> (try split at *) <;> omega)
theorem j_lcmp_ge (hx : p.tables.exec = Jvm.exec) (hb : c.code = cc) {x y : Int} {off : Int} {tgt : Nat} (hd1 : decode cc pc = .ok (.lcmp, 1)) (hdg : decode cc (pc + 1) = .ok (.ifCond .ge off, 3)) (ht : ((pc + 1 : Nat) : Int) + off = (tgt : Int)) (hx1 : rl x) (hx2 : rl y) (kt : y ≤ x → W p l e R s m args below meth c H locs cells slots Q (F0 m tgt ls rest)) (kf : x < y → W p l e R s m args below meth c H locs cells slots Q (F0 m (pc + 1 + 3) ls rest)) : W p l e R s m args below meth c H locs cells slots Q (F0 m pc ls (.long (JL y) :: .long (JL x) :: rest)) := by
  refine W.lcmp hx hb hd1 ?_
  rw [J_cmp hx1 hx2]
  refine j_if_ge hx hb hdg ht ?_ (fun q => kt ?_) (fun q => kf ?_) <;> (split at * <;> (try split at *) <;> omega)
theorem j_lcmp_gt (hx : p.tables.exec = Jvm.exec) (hb : c.code = cc) {x y : Int} {off : Int} {tgt : Nat} (hd1 : decode cc pc = .ok (.lcmp, 1)) (hdg : decode cc (pc + 1) = .ok (.ifCond .gt off, 3)) (ht : ((pc + 1 : Nat) : Int) + off = (tgt : Int)) (hx1 : rl x) (hx2 : rl y) (kt : y < x → W p l e R s m args below meth c H locs cells slots Q (F0 m tgt ls rest)) (kf : x ≤ y → W p l e R s m args below meth c H locs cells slots Q (F0 m (pc + 1 + 3) ls rest)) : W p l e R s m args below meth c H locs cells slots Q (F0 m pc ls (.long (JL y) :: .long (JL x) :: rest)) := by
  refine W.lcmp hx hb hd1 ?_
  rw [J_cmp hx1 hx2]
  refine j_if_gt hx hb hdg ht ?_ (fun q => kt ?_) (fun q => kf ?_) <;> (split at * <;> (try split at *) <;> omega)
theorem j_lcmp_le (hx : p.tables.exec = Jvm.exec) (hb : c.code = cc) {x y : Int} {off : Int} {tgt : Nat} (hd1 : decode cc pc = .ok (.lcmp, 1)) (hdg : decode cc (pc + 1) = .ok (.ifCond .le off, 3)) (ht : ((pc + 1 : Nat) : Int) + off = (tgt : Int)) (hx1 : rl x) (hx2 : rl y) (kt : x ≤ y → W p l e R s m args below meth c H locs cells slots Q (F0 m tgt ls rest)) (kf : y < x → W p l e R s m args below meth c H locs cells slots Q (F0 m (pc + 1 + 3) ls rest)) : W p l e R s m args below meth c H locs cells slots Q (F0 m pc ls (.long (JL y) :: .long (JL x) :: rest)) := by
  refine W.lcmp hx hb hd1 ?_
  rw [J_cmp hx1 hx2]
  refine j_if_le hx hb hdg ht ?_ (fun q => kt ?_) (fun q => kf ?_) <;> (split at * <;> (try split at *) <;> omega)
end JR3
