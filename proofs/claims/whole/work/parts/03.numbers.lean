/-! whole numbers of the machine, told by unbounded ones -/
theorem J_toInt {z : Int} (h : rg z) : (J z).toInt = z := by
  unfold J
  rw [Int32.toInt_ofInt]
  obtain ⟨h1, h2⟩ := h
  exact Int.bmod_eq_of_le (m := 4294967296) (by omega) (by omega)
theorem JL_toInt {z : Int} (h : rl z) : (JL z).toInt = z := by
  unfold JL
  rw [Int64.toInt_ofInt]
  obtain ⟨h1, h2⟩ := h
  exact Int.bmod_eq_of_le (m := 18446744073709551616) (by omega) (by omega)
theorem J_of (x : Int32) : J x.toInt = x := Int32.ofInt_toInt x
theorem JL_of (x : Int64) : JL x.toInt = x := Int64.ofInt_toInt x
theorem rg_of (x : Int32) : rg x.toInt := ⟨Int32.le_toInt x, Int32.toInt_lt x⟩
theorem J_add (a b : Int) : J a + J b = J (a + b) := (Int32.ofInt_add a b).symm
theorem J_sub (a b : Int) : J a - J b = J (a - b) := (Int32.ofInt_sub a b).symm
theorem J_mul (a b : Int) : J a * J b = J (a * b) := (Int32.ofInt_mul a b).symm
theorem J_neg (a : Int) : -J a = J (-a) := (Int32.ofInt_neg a).symm
theorem JL_add (a b : Int) : JL a + JL b = JL (a + b) := (Int64.ofInt_add a b).symm
theorem JL_sub (a b : Int) : JL a - JL b = JL (a - b) := (Int64.ofInt_sub a b).symm
theorem JL_mul (a b : Int) : JL a * JL b = JL (a * b) := (Int64.ofInt_mul a b).symm
theorem J_lt {a b : Int} (ha : rg a) (hb : rg b) : J a < J b ↔ a < b := by
  rw [Int32.lt_iff_toInt_lt, J_toInt ha, J_toInt hb]
theorem J_le {a b : Int} (ha : rg a) (hb : rg b) : J a ≤ J b ↔ a ≤ b := by
  rw [Int32.le_iff_toInt_le, J_toInt ha, J_toInt hb]
theorem J_eq {a b : Int} (ha : rg a) (hb : rg b) : J a = J b ↔ a = b := by
  rw [← Int32.toInt_inj, J_toInt ha, J_toInt hb]
theorem JL_lt {a b : Int} (ha : rl a) (hb : rl b) : JL a < JL b ↔ a < b := by
  rw [Int64.lt_iff_toInt_lt, JL_toInt ha, JL_toInt hb]
theorem JL_le {a b : Int} (ha : rl a) (hb : rl b) : JL a ≤ JL b ↔ a ≤ b := by
  rw [Int64.le_iff_toInt_le, JL_toInt ha, JL_toInt hb]
theorem JL_eq {a b : Int} (ha : rl a) (hb : rl b) : JL a = JL b ↔ a = b := by
  rw [← Int64.toInt_inj, JL_toInt ha, JL_toInt hb]
theorem toNat_ed {a b : Int} (h0 : 0 ≤ a) (h2 : 0 < b) : a.toNat / b.toNat = (a / b).toNat := by
  obtain ⟨x, rfl⟩ := Int.eq_ofNat_of_zero_le h0
  obtain ⟨y, rfl⟩ := Int.eq_ofNat_of_zero_le (Int.le_of_lt h2)
  rw [← Int.natCast_ediv]; rfl
theorem J_nI {z : Int} (h0 : 0 ≤ z) : J z = nI z.toNat := by
  obtain ⟨n, rfl⟩ := Int.eq_ofNat_of_zero_le h0
  show Int32.ofInt (n : Int) = Int32.ofNat n
  exact Int32.ofInt_eq_ofNat
theorem JL_lN {z : Int} (h0 : 0 ≤ z) : JL z = lN z.toNat := by
  obtain ⟨n, rfl⟩ := Int.eq_ofNat_of_zero_le h0
  show Int64.ofInt (n : Int) = Int64.ofNat n
  exact Int64.ofInt_eq_ofNat
theorem J_cl {z : Int} (h0 : 0 ≤ z) (h1 : z < 2147483648) : (J z).toNatClampNeg = z.toNat := by
  rw [J_nI h0]; exact nI_clamp (by omega)
theorem J_in {z : Int} {n : Nat} (h0 : 0 ≤ z) (h1 : z < n) (hn : n < 2 ^ 31) : vp_in (J z) n := by
  rw [vp_in_iff, J_toInt ⟨by omega, by omega⟩]; exact ⟨h0, h1⟩
theorem J_div {a b : Int} (h0 : 0 ≤ a) (h1 : a < 2147483648) (h2 : 0 < b) (h3 : b < 2147483648) : J a / J b = J (a / b) := by
  rw [J_nI h0, J_nI (Int.le_of_lt h2), pk_div (by omega) (by omega) (by omega), J_nI (Int.ediv_nonneg h0 (Int.le_of_lt h2))]
  congr 1
  exact toNat_ed h0 h2
theorem J_rem {a b : Int} (h0 : 0 ≤ a) (h1 : a < 2147483648) (h2 : 0 < b) (h3 : b < 2147483648) : J a - J a / J b * J b = J (a % b) := by
  rw [J_div h0 h1 h2 h3, J_mul, J_sub]
  congr 1
  rw [Int.emod_def, Int.mul_comm]
theorem JL_div {a b : Int} (h0 : 0 ≤ a) (h1 : a < 9223372036854775808) (h2 : 0 < b) (h3 : b < 9223372036854775808) : JL a / JL b = JL (a / b) := by
  rw [JL_lN h0, JL_lN (Int.le_of_lt h2), pk_lDiv (by omega) (by omega) (by omega), JL_lN (Int.ediv_nonneg h0 (Int.le_of_lt h2))]
  congr 1
  exact toNat_ed h0 h2
theorem JL_rem {a b : Int} (h0 : 0 ≤ a) (h1 : a < 9223372036854775808) (h2 : 0 < b) (h3 : b < 9223372036854775808) : JL a - JL a / JL b * JL b = JL (a % b) := by
  rw [JL_div h0 h1 h2 h3, JL_mul, JL_sub]
  congr 1
  rw [Int.emod_def, Int.mul_comm]
theorem J_ne0 {a : Int} (ha : rg a) (h : a ≠ 0) : ¬ J a = 0 := fun q => h ((J_eq ha (by omega)).mp q)
theorem JL_ne0 {a : Int} (ha : rl a) (h : a ≠ 0) : ¬ JL a = 0 := fun q => h ((JL_eq ha (by omega)).mp q)
theorem J_toL {a : Int} (h : rg a) : (J a).toInt64 = JL a := by
  apply Int64.toInt_inj.mp
  rw [Int32.toInt_toInt64, J_toInt h, JL_toInt ⟨by omega, by omega⟩]
theorem JL_toI (a : Int) : (JL a).toInt32 = J a := by
  show (Int64.ofInt a).toInt32 = Int32.ofInt a
  exact Int64.toInt32_ofInt
