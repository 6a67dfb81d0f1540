noncomputable section
theorem i_objInit : Cond.instanceMethod objectInit ∈ TB := tk1 33 (by decide +kernel) rfl
theorem k_objInit : Cond.code objectInit ⟨#[0xb1]⟩ 1 none ∈ TB := tk1 34 (by decide +kernel) rfl
theorem ac_int : Cond.arrayClass .int ∈ TB := tk1 74 (by decide +kernel) rfl
theorem ac_long : Cond.arrayClass .long ∈ TB := tk2 133 (by decide +kernel) rfl
theorem ac_char : Cond.arrayClass .char ∈ TB := tk2 89 (by decide +kernel) rfl
theorem cl_RL_8 : Cond.classLink RL 8 RX10 ∈ TB := tk1 27 (by decide +kernel) rfl
theorem it_RX10 : Cond.instantiable RX10 9 ∈ TB := tk1 28 (by decide +kernel) rfl
theorem mo_RX10 : Cond.methodLink RX10 3 objectInit ∈ TB := tk1 32 (by decide +kernel) rfl
theorem cl_RX10_9 : Cond.classLink RX10 9 RX0 ∈ TB := tk1 35 (by decide +kernel) rfl
theorem it_RX0 : Cond.instantiable RX0 4 ∈ TB := tk1 36 (by decide +kernel) rfl
theorem mo_RX0 : Cond.methodLink RX0 3 objectInit ∈ TB := tk1 40 (by decide +kernel) rfl
theorem cl_RX0_9 : Cond.classLink RX0 9 RX9 ∈ TB := tk1 41 (by decide +kernel) rfl
theorem cl_RX0_17 : Cond.classLink RX0 17 RX4 ∈ TB := tk1 43 (by decide +kernel) rfl
theorem it_RX9 : Cond.instantiable RX9 6 ∈ TB := tk1 45 (by decide +kernel) rfl
theorem mo_RX9 : Cond.methodLink RX9 3 objectInit ∈ TB := tk1 49 (by decide +kernel) rfl
theorem it_RX4 : Cond.instantiable RX4 11 ∈ TB := tk1 75 (by decide +kernel) rfl
theorem mo_RX4 : Cond.methodLink RX4 3 objectInit ∈ TB := tk1 79 (by decide +kernel) rfl
theorem cl_RX10_16 : Cond.classLink RX10 16 RX3 ∈ TB := tk1 149 (by decide +kernel) rfl
theorem it_RX3 : Cond.instantiable RX3 5 ∈ TB := tk1 150 (by decide +kernel) rfl
theorem mo_RX3 : Cond.methodLink RX3 3 objectInit ∈ TB := tk1 154 (by decide +kernel) rfl
theorem cl_RX3_9 : Cond.classLink RX3 9 RX0 ∈ TB := tk1 155 (by decide +kernel) rfl
theorem cl_RX10_23 : Cond.classLink RX10 23 RX7 ∈ TB := tk1 176 (by decide +kernel) rfl
theorem it_RX7 : Cond.instantiable RX7 16 ∈ TB := tk1 178 (by decide +kernel) rfl
theorem mo_RX7 : Cond.methodLink RX7 3 objectInit ∈ TB := tk1 182 (by decide +kernel) rfl
theorem cl_RX10_30 : Cond.classLink RX10 30 RX5 ∈ TB := tk2 5 (by decide +kernel) rfl
theorem it_RX5 : Cond.instantiable RX5 5 ∈ TB := tk2 7 (by decide +kernel) rfl
theorem mo_RX5 : Cond.methodLink RX5 3 objectInit ∈ TB := tk2 11 (by decide +kernel) rfl
theorem cl_RX10_37 : Cond.classLink RX10 37 RX2 ∈ TB := tk2 33 (by decide +kernel) rfl
theorem it_RX2 : Cond.instantiable RX2 5 ∈ TB := tk2 34 (by decide +kernel) rfl
theorem mo_RX2 : Cond.methodLink RX2 3 objectInit ∈ TB := tk2 38 (by decide +kernel) rfl
theorem cl_RX10_44 : Cond.classLink RX10 44 RX6 ∈ TB := tk2 61 (by decide +kernel) rfl
theorem it_RX6 : Cond.instantiable RX6 6 ∈ TB := tk2 62 (by decide +kernel) rfl
theorem mo_RX6 : Cond.methodLink RX6 5 objectInit ∈ TB := tk2 66 (by decide +kernel) rfl
theorem cl_RX10_51 : Cond.classLink RX10 51 RX8 ∈ TB := tk2 90 (by decide +kernel) rfl
theorem it_RX8 : Cond.instantiable RX8 2 ∈ TB := tk2 91 (by decide +kernel) rfl
theorem mo_RX8 : Cond.methodLink RX8 3 objectInit ∈ TB := tk2 95 (by decide +kernel) rfl
theorem cl_RL_144 : Cond.classLink RL 144 RX11 ∈ TB := tk6 160 (by decide +kernel) rfl
theorem it_RX11 : Cond.instantiable RX11 37 ∈ TB := tk6 161 (by decide +kernel) rfl
theorem mo_RX11 : Cond.methodLink RX11 3 objectInit ∈ TB := tk6 165 (by decide +kernel) rfl
def M0 : jT := fun a b => if (a = 601 ∧ b = 2) ∨ (a = 608 ∧ (b = 10 ∨ b = 14)) then -1 else 0
def fin (cy : Nat → ClassId) (o : Nat) (i : Nat) : va_E := ce cy o (i : Int) (M0 (i : Int))
theorem M0_z {i : Nat} (h : i ≠ 601 ∧ i ≠ 608) : M0 (i : Int) = fun _ => 0 := by
  funext b; unfold M0; rw [if_neg (by omega)]
theorem kn_ne {i t : Nat} (h : kdN i = t) (ht : t ≠ 6 ∧ t ≠ 11) : i ≠ 601 ∧ i ≠ 608 := by
  refine ⟨fun q => ?_, fun q => ?_⟩
  · subst q; exact ht.1 (h.symm.trans (by decide))
  · subst q; exact ht.2 (h.symm.trans (by decide))
theorem fin_I {cy : Nat → ClassId} {o i N : Nat} (h : kdN i = 1000 + N) (hN : N < 99000) : fin cy o i = .inl (cy 0, (N, .inl fun _ => J 0)) := by
  unfold fin; rw [ce_i (by rw [kd_nat, h]) hN, M0_z (kn_ne h (by omega))]
theorem fin_L {cy : Nat → ClassId} {o i N : Nat} (h : kdN i = 100000 + N) (hN : N < 100000) : fin cy o i = .inl (cy 1, (N, .inr (.inl fun _ => JL 0))) := by
  unfold fin; rw [ce_l (by rw [kd_nat, h]) hN, M0_z (kn_ne h (by omega))]
theorem fin_C {cy : Nat → ClassId} {o i N : Nat} (h : kdN i = 200000 + N) : fin cy o i = .inl (cy 2, (N, .inl fun _ => J 0)) := by
  unfold fin; rw [ce_c (by rw [kd_nat, h]), M0_z (kn_ne h (by omega))]
theorem fin_Q {cy : Nat → ClassId} {o i t : Nat} (h : kdN i = t) (h20 : 20 ≤ t) (ht : t < 1000) : fin cy o i = .inl (cy (t - 17), ((ra t).1, .inr (.inr (.inr (.inr fun j => some (rA o ((i : Int) + (ra t).2.1 + (ra t).2.2 * (j : Int)))))))) := by
  unfold fin; rw [ce_r (by rw [kd_nat, h]) h20 ht]
theorem fin_O {cy : Nat → ClassId} {o i t : Nat} {r : Int → Int} {fs : List Value} (h : kdN i = t) (ht : t < 20) (hr : M0 (i : Int) = r) (hf : fl o r t (i : Int) = fs) : fin cy o i = .inr (t - 1, fs) := by
  unfold fin ce; rw [kd_nat, h, if_pos ht, hr, hf]
theorem fv_i {o t j : Nat} {r : Int → Int} {k : Int} (h : ft t j = 0) : fv o r t k j = .int (J (r j)) := by unfold fv; rw [if_pos h]
theorem fv_l {o t j : Nat} {r : Int → Int} {k : Int} (h : ft t j = 1) : fv o r t k j = .long (JL (r j)) := by unfold fv; rw [if_neg (by omega), if_pos h]
theorem fv_r {o t j : Nat} {r : Int → Int} {i d : Nat} (h : ft t j = 2) (hd : dl t j = (d : Int)) : fv o r t (i : Int) j = .ref (o + (i + d)) := by
  unfold fv; rw [if_neg (by omega), if_neg (by omega), hd]; unfold rA; congr 1 <;> omega
def CX (n : Nat) (C : Nat → va_E) (e : va_E) (F : Nat → va_E) : Nat → va_E := fun i => if i < n then C i else if i = n then e else F i
theorem CX_new {n m : Nat} {C F : Nat → va_E} {e x : va_E} (h : n < m) (hf : F m = x) : ∀ i, i < m + 1 → upC (CX n C e F) m x i = CX n C e F i := by
  intro i _
  unfold upC CX
  by_cases c : i = m
  · rw [if_pos c, if_neg (by omega), if_neg (by omega), c, hf]
  · rw [if_neg c]
theorem CX_put {n m : Nat} {C F : Nat → va_E} {e e' : va_E} : ∀ i, i < m → upC (CX n C e F) n e' i = CX n C e' F i := by
  intro i _
  unfold upC CX
  by_cases c : i = n
  · rw [if_pos c, if_neg (by omega), if_pos c]
  · simp only [if_neg c]
theorem CX_in {n : Nat} {C F : Nat → va_E} {e : va_E} (h : C n = e) : ∀ i, i < n + 1 → C i = CX n C e F i := by
  intro i hi
  unfold CX
  by_cases c : i < n
  · rw [if_pos c]
  · rw [if_neg c, if_pos (by omega), ← h, show i = n by omega]
theorem CX_out {n m : Nat} {C F G : Nat → va_E} {e : va_E} (h : G n = e) (hF : ∀ i, n < i → i < m → F i = G i) : ∀ i, i < m → CX n C e F i = if i < n then C i else G i := by
  intro i hi
  unfold CX
  by_cases c : i < n
  · rw [if_pos c, if_pos c]
  · rw [if_neg c, if_neg c]
    by_cases c2 : i = n
    · rw [if_pos c2, c2, h]
    · rw [if_neg c2]; exact hF i (by omega) hi
theorem CX_at {n : Nat} {C F : Nat → va_E} {e : va_E} : CX n C e F n = e := by unfold CX; rw [if_neg (by omega), if_pos rfl]

theorem fO_X9 {cy : Nat → ClassId} {o n : Nat} (h : kdN n = 9) : fin cy o n = .inr (8, [.int (J 0), .int (J 0), .int (J 0), .ref (o + (n + 1)), .ref (o + (n + 2)), .ref (o + (n + 3))]) := by
  refine fin_O (r := (fun _ => 0)) (t := 9) h (by omega) (M0_z (kn_ne h (by omega))) ?_
  show [fv o (fun _ => 0) 9 ((n : Nat) : Int) 0, fv o (fun _ => 0) 9 ((n : Nat) : Int) 1, fv o (fun _ => 0) 9 ((n : Nat) : Int) 2, fv o (fun _ => 0) 9 ((n : Nat) : Int) 3, fv o (fun _ => 0) 9 ((n : Nat) : Int) 4, fv o (fun _ => 0) 9 ((n : Nat) : Int) 5] = _
  rw [fv_i (show ft 9 0 = 0 from rfl), fv_i (show ft 9 1 = 0 from rfl), fv_i (show ft 9 2 = 0 from rfl), fv_r (d := 1) (show ft 9 3 = 2 from rfl) (show dl 9 3 = ((1 : Nat) : Int) from rfl), fv_r (d := 2) (show ft 9 4 = 2 from rfl) (show dl 9 4 = ((2 : Nat) : Int) from rfl), fv_r (d := 3) (show ft 9 5 = 2 from rfl) (show dl 9 5 = ((3 : Nat) : Int) from rfl)]

theorem fO_X4 {cy : Nat → ClassId} {o n : Nat} (h : kdN n = 4) : fin cy o n = .inr (3, [.int (J 0), .int (J 0), .int (J 0), .int (J 0), .int (J 0), .int (J 0), .int (J 0), .int (J 0), .int (J 0), .long (JL 0), .ref (o + (n + 1))]) := by
  refine fin_O (r := (fun _ => 0)) (t := 4) h (by omega) (M0_z (kn_ne h (by omega))) ?_
  show [fv o (fun _ => 0) 4 ((n : Nat) : Int) 0, fv o (fun _ => 0) 4 ((n : Nat) : Int) 1, fv o (fun _ => 0) 4 ((n : Nat) : Int) 2, fv o (fun _ => 0) 4 ((n : Nat) : Int) 3, fv o (fun _ => 0) 4 ((n : Nat) : Int) 4, fv o (fun _ => 0) 4 ((n : Nat) : Int) 5, fv o (fun _ => 0) 4 ((n : Nat) : Int) 6, fv o (fun _ => 0) 4 ((n : Nat) : Int) 7, fv o (fun _ => 0) 4 ((n : Nat) : Int) 8, fv o (fun _ => 0) 4 ((n : Nat) : Int) 9, fv o (fun _ => 0) 4 ((n : Nat) : Int) 10] = _
  rw [fv_i (show ft 4 0 = 0 from rfl), fv_i (show ft 4 1 = 0 from rfl), fv_i (show ft 4 2 = 0 from rfl), fv_i (show ft 4 3 = 0 from rfl), fv_i (show ft 4 4 = 0 from rfl), fv_i (show ft 4 5 = 0 from rfl), fv_i (show ft 4 6 = 0 from rfl), fv_i (show ft 4 7 = 0 from rfl), fv_i (show ft 4 8 = 0 from rfl), fv_l (show ft 4 9 = 1 from rfl), fv_r (d := 1) (show ft 4 10 = 2 from rfl) (show dl 4 10 = ((1 : Nat) : Int) from rfl)]

theorem fO_X0 {cy : Nat → ClassId} {o n : Nat} (h : kdN n = 1) : fin cy o n = .inr (0, [.int (J 0), .int (J 0), .ref (o + (n + 1)), .ref (o + (n + 2))]) := by
  refine fin_O (r := (fun _ => 0)) (t := 1) h (by omega) (M0_z (kn_ne h (by omega))) ?_
  show [fv o (fun _ => 0) 1 ((n : Nat) : Int) 0, fv o (fun _ => 0) 1 ((n : Nat) : Int) 1, fv o (fun _ => 0) 1 ((n : Nat) : Int) 2, fv o (fun _ => 0) 1 ((n : Nat) : Int) 3] = _
  rw [fv_i (show ft 1 0 = 0 from rfl), fv_i (show ft 1 1 = 0 from rfl), fv_r (d := 1) (show ft 1 2 = 2 from rfl) (show dl 1 2 = ((1 : Nat) : Int) from rfl), fv_r (d := 2) (show ft 1 3 = 2 from rfl) (show dl 1 3 = ((2 : Nat) : Int) from rfl)]

theorem fO_X3 {cy : Nat → ClassId} {o n : Nat} (h : kdN n = 3) : fin cy o n = .inr (2, [.int (J 0), .int (J 0), .ref (o + (n + 1)), .int (J 0), .ref (o + (n + 48))]) := by
  refine fin_O (r := (fun _ => 0)) (t := 3) h (by omega) (M0_z (kn_ne h (by omega))) ?_
  show [fv o (fun _ => 0) 3 ((n : Nat) : Int) 0, fv o (fun _ => 0) 3 ((n : Nat) : Int) 1, fv o (fun _ => 0) 3 ((n : Nat) : Int) 2, fv o (fun _ => 0) 3 ((n : Nat) : Int) 3, fv o (fun _ => 0) 3 ((n : Nat) : Int) 4] = _
  rw [fv_i (show ft 3 0 = 0 from rfl), fv_i (show ft 3 1 = 0 from rfl), fv_r (d := 1) (show ft 3 2 = 2 from rfl) (show dl 3 2 = ((1 : Nat) : Int) from rfl), fv_i (show ft 3 3 = 0 from rfl), fv_r (d := 48) (show ft 3 4 = 2 from rfl) (show dl 3 4 = ((48 : Nat) : Int) from rfl)]

theorem fO_X7 {cy : Nat → ClassId} {o n : Nat} (h : kdN n = 7) : fin cy o n = .inr (6, [.int (J 0), .int (J 0), .int (J 0), .int (J 0), .int (J 0), .int (J 0), .ref (o + (n + 1)), .ref (o + (n + 2)), .ref (o + (n + 3)), .ref (o + (n + 4)), .ref (o + (n + 5)), .ref (o + (n + 6)), .ref (o + (n + 7)), .int (J 0), .int (J 0), .int (J 0)]) := by
  refine fin_O (r := (fun _ => 0)) (t := 7) h (by omega) (M0_z (kn_ne h (by omega))) ?_
  show [fv o (fun _ => 0) 7 ((n : Nat) : Int) 0, fv o (fun _ => 0) 7 ((n : Nat) : Int) 1, fv o (fun _ => 0) 7 ((n : Nat) : Int) 2, fv o (fun _ => 0) 7 ((n : Nat) : Int) 3, fv o (fun _ => 0) 7 ((n : Nat) : Int) 4, fv o (fun _ => 0) 7 ((n : Nat) : Int) 5, fv o (fun _ => 0) 7 ((n : Nat) : Int) 6, fv o (fun _ => 0) 7 ((n : Nat) : Int) 7, fv o (fun _ => 0) 7 ((n : Nat) : Int) 8, fv o (fun _ => 0) 7 ((n : Nat) : Int) 9, fv o (fun _ => 0) 7 ((n : Nat) : Int) 10, fv o (fun _ => 0) 7 ((n : Nat) : Int) 11, fv o (fun _ => 0) 7 ((n : Nat) : Int) 12, fv o (fun _ => 0) 7 ((n : Nat) : Int) 13, fv o (fun _ => 0) 7 ((n : Nat) : Int) 14, fv o (fun _ => 0) 7 ((n : Nat) : Int) 15] = _
  rw [fv_i (show ft 7 0 = 0 from rfl), fv_i (show ft 7 1 = 0 from rfl), fv_i (show ft 7 2 = 0 from rfl), fv_i (show ft 7 3 = 0 from rfl), fv_i (show ft 7 4 = 0 from rfl), fv_i (show ft 7 5 = 0 from rfl), fv_r (d := 1) (show ft 7 6 = 2 from rfl) (show dl 7 6 = ((1 : Nat) : Int) from rfl), fv_r (d := 2) (show ft 7 7 = 2 from rfl) (show dl 7 7 = ((2 : Nat) : Int) from rfl), fv_r (d := 3) (show ft 7 8 = 2 from rfl) (show dl 7 8 = ((3 : Nat) : Int) from rfl), fv_r (d := 4) (show ft 7 9 = 2 from rfl) (show dl 7 9 = ((4 : Nat) : Int) from rfl), fv_r (d := 5) (show ft 7 10 = 2 from rfl) (show dl 7 10 = ((5 : Nat) : Int) from rfl), fv_r (d := 6) (show ft 7 11 = 2 from rfl) (show dl 7 11 = ((6 : Nat) : Int) from rfl), fv_r (d := 7) (show ft 7 12 = 2 from rfl) (show dl 7 12 = ((7 : Nat) : Int) from rfl), fv_i (show ft 7 13 = 0 from rfl), fv_i (show ft 7 14 = 0 from rfl), fv_i (show ft 7 15 = 0 from rfl)]

theorem fO_X5 {cy : Nat → ClassId} {o n : Nat} (h : kdN n = 5) : fin cy o n = .inr (4, [.int (J 0), .int (J 0), .int (J 0), .ref (o + (n + 1)), .ref (o + (n + 2))]) := by
  refine fin_O (r := (fun _ => 0)) (t := 5) h (by omega) (M0_z (kn_ne h (by omega))) ?_
  show [fv o (fun _ => 0) 5 ((n : Nat) : Int) 0, fv o (fun _ => 0) 5 ((n : Nat) : Int) 1, fv o (fun _ => 0) 5 ((n : Nat) : Int) 2, fv o (fun _ => 0) 5 ((n : Nat) : Int) 3, fv o (fun _ => 0) 5 ((n : Nat) : Int) 4] = _
  rw [fv_i (show ft 5 0 = 0 from rfl), fv_i (show ft 5 1 = 0 from rfl), fv_i (show ft 5 2 = 0 from rfl), fv_r (d := 1) (show ft 5 3 = 2 from rfl) (show dl 5 3 = ((1 : Nat) : Int) from rfl), fv_r (d := 2) (show ft 5 4 = 2 from rfl) (show dl 5 4 = ((2 : Nat) : Int) from rfl)]

theorem fO_X2 {cy : Nat → ClassId} {o n : Nat} (h : kdN n = 2) : fin cy o n = .inr (1, [.int (J 0), .int (J 0), .int (J 0), .int (J 0), .int (J 0)]) := by
  refine fin_O (r := (fun _ => 0)) (t := 2) h (by omega) (M0_z (kn_ne h (by omega))) ?_
  show [fv o (fun _ => 0) 2 ((n : Nat) : Int) 0, fv o (fun _ => 0) 2 ((n : Nat) : Int) 1, fv o (fun _ => 0) 2 ((n : Nat) : Int) 2, fv o (fun _ => 0) 2 ((n : Nat) : Int) 3, fv o (fun _ => 0) 2 ((n : Nat) : Int) 4] = _
  rw [fv_i (show ft 2 0 = 0 from rfl), fv_i (show ft 2 1 = 0 from rfl), fv_i (show ft 2 2 = 0 from rfl), fv_i (show ft 2 3 = 0 from rfl), fv_i (show ft 2 4 = 0 from rfl)]

theorem fO_X6 {cy : Nat → ClassId} {o : Nat} : fin cy o 601 = .inr (5, [.int (J 0), .int (J 0), .int (J (-1)), .int (J 0), .ref (o + (601 + 1)), .ref (o + (601 + 2))]) := by
  refine fin_O (r := (M0 601)) (t := 6) (by decide) (by omega) rfl ?_
  show [fv o (M0 601) 6 ((601 : Nat) : Int) 0, fv o (M0 601) 6 ((601 : Nat) : Int) 1, fv o (M0 601) 6 ((601 : Nat) : Int) 2, fv o (M0 601) 6 ((601 : Nat) : Int) 3, fv o (M0 601) 6 ((601 : Nat) : Int) 4, fv o (M0 601) 6 ((601 : Nat) : Int) 5] = _
  rw [fv_i (show ft 6 0 = 0 from rfl), fv_i (show ft 6 1 = 0 from rfl), fv_i (show ft 6 2 = 0 from rfl), fv_i (show ft 6 3 = 0 from rfl), fv_r (d := 1) (show ft 6 4 = 2 from rfl) (show dl 6 4 = ((1 : Nat) : Int) from rfl), fv_r (d := 2) (show ft 6 5 = 2 from rfl) (show dl 6 5 = ((2 : Nat) : Int) from rfl)]
  rfl

theorem fO_X8 {cy : Nat → ClassId} {o n : Nat} (h : kdN n = 8) : fin cy o n = .inr (7, [.int (J 0), .ref (o + (n + 1))]) := by
  refine fin_O (r := (fun _ => 0)) (t := 8) h (by omega) (M0_z (kn_ne h (by omega))) ?_
  show [fv o (fun _ => 0) 8 ((n : Nat) : Int) 0, fv o (fun _ => 0) 8 ((n : Nat) : Int) 1] = _
  rw [fv_i (show ft 8 0 = 0 from rfl), fv_r (d := 1) (show ft 8 1 = 2 from rfl) (show dl 8 1 = ((1 : Nat) : Int) from rfl)]

theorem fO_X10 {cy : Nat → ClassId} {o n : Nat} (h : kdN n = 10) : fin cy o n = .inr (9, [.ref (o + (n + 1)), .ref (o + (n + 48)), .ref (o + (n + 520)), .ref (o + (n + 569)), .ref (o + (n + 600)), .ref (o + (n + 601)), .ref (o + (n + 604)), .ref (o + (n + 606)), .ref (o + (n + 607))]) := by
  refine fin_O (r := (fun _ => 0)) (t := 10) h (by omega) (M0_z (kn_ne h (by omega))) ?_
  show [fv o (fun _ => 0) 10 ((n : Nat) : Int) 0, fv o (fun _ => 0) 10 ((n : Nat) : Int) 1, fv o (fun _ => 0) 10 ((n : Nat) : Int) 2, fv o (fun _ => 0) 10 ((n : Nat) : Int) 3, fv o (fun _ => 0) 10 ((n : Nat) : Int) 4, fv o (fun _ => 0) 10 ((n : Nat) : Int) 5, fv o (fun _ => 0) 10 ((n : Nat) : Int) 6, fv o (fun _ => 0) 10 ((n : Nat) : Int) 7, fv o (fun _ => 0) 10 ((n : Nat) : Int) 8] = _
  rw [fv_r (d := 1) (show ft 10 0 = 2 from rfl) (show dl 10 0 = ((1 : Nat) : Int) from rfl), fv_r (d := 48) (show ft 10 1 = 2 from rfl) (show dl 10 1 = ((48 : Nat) : Int) from rfl), fv_r (d := 520) (show ft 10 2 = 2 from rfl) (show dl 10 2 = ((520 : Nat) : Int) from rfl), fv_r (d := 569) (show ft 10 3 = 2 from rfl) (show dl 10 3 = ((569 : Nat) : Int) from rfl), fv_r (d := 600) (show ft 10 4 = 2 from rfl) (show dl 10 4 = ((600 : Nat) : Int) from rfl), fv_r (d := 601) (show ft 10 5 = 2 from rfl) (show dl 10 5 = ((601 : Nat) : Int) from rfl), fv_r (d := 604) (show ft 10 6 = 2 from rfl) (show dl 10 6 = ((604 : Nat) : Int) from rfl), fv_r (d := 606) (show ft 10 7 = 2 from rfl) (show dl 10 7 = ((606 : Nat) : Int) from rfl), fv_r (d := 607) (show ft 10 8 = 2 from rfl) (show dl 10 8 = ((607 : Nat) : Int) from rfl)]

theorem fO_X11 {cy : Nat → ClassId} {o : Nat} : fin cy o 608 = .inr (10, [.int (J 0), .ref (o + (608 + 1)), .ref (o + (608 + 2)), .int (J 0), .ref (o + (608 + 3)), .int (J 0), .ref (o + (608 + 4)), .ref (o + (608 + 5)), .int (J 0), .int (J 0), .int (J (-1)), .ref (o + (608 + 6)), .int (J 0), .ref (o + (608 + 7)), .int (J (-1)), .int (J 0), .ref (o + (608 + 8)), .ref (o + (608 + 9)), .int (J 0), .ref (o + (608 + 10)), .ref (o + (608 + 11)), .ref (o + (608 + 12)), .ref (o + (608 + 13)), .ref (o + (608 + 14)), .int (J 0), .ref (o + (608 + 15)), .ref (o + (608 + 16)), .ref (o + (608 + 17)), .int (J 0), .int (J 0), .int (J 0), .ref (o + (608 + 18)), .ref (o + (608 + 19)), .int (J 0), .ref (o + (608 + 20)), .ref (o + (608 + 21)), .int (J 0)]) := by
  refine fin_O (r := (M0 608)) (t := 11) (by decide) (by omega) rfl ?_
  show [fv o (M0 608) 11 ((608 : Nat) : Int) 0, fv o (M0 608) 11 ((608 : Nat) : Int) 1, fv o (M0 608) 11 ((608 : Nat) : Int) 2, fv o (M0 608) 11 ((608 : Nat) : Int) 3, fv o (M0 608) 11 ((608 : Nat) : Int) 4, fv o (M0 608) 11 ((608 : Nat) : Int) 5, fv o (M0 608) 11 ((608 : Nat) : Int) 6, fv o (M0 608) 11 ((608 : Nat) : Int) 7, fv o (M0 608) 11 ((608 : Nat) : Int) 8, fv o (M0 608) 11 ((608 : Nat) : Int) 9, fv o (M0 608) 11 ((608 : Nat) : Int) 10, fv o (M0 608) 11 ((608 : Nat) : Int) 11, fv o (M0 608) 11 ((608 : Nat) : Int) 12, fv o (M0 608) 11 ((608 : Nat) : Int) 13, fv o (M0 608) 11 ((608 : Nat) : Int) 14, fv o (M0 608) 11 ((608 : Nat) : Int) 15, fv o (M0 608) 11 ((608 : Nat) : Int) 16, fv o (M0 608) 11 ((608 : Nat) : Int) 17, fv o (M0 608) 11 ((608 : Nat) : Int) 18, fv o (M0 608) 11 ((608 : Nat) : Int) 19, fv o (M0 608) 11 ((608 : Nat) : Int) 20, fv o (M0 608) 11 ((608 : Nat) : Int) 21, fv o (M0 608) 11 ((608 : Nat) : Int) 22, fv o (M0 608) 11 ((608 : Nat) : Int) 23, fv o (M0 608) 11 ((608 : Nat) : Int) 24, fv o (M0 608) 11 ((608 : Nat) : Int) 25, fv o (M0 608) 11 ((608 : Nat) : Int) 26, fv o (M0 608) 11 ((608 : Nat) : Int) 27, fv o (M0 608) 11 ((608 : Nat) : Int) 28, fv o (M0 608) 11 ((608 : Nat) : Int) 29, fv o (M0 608) 11 ((608 : Nat) : Int) 30, fv o (M0 608) 11 ((608 : Nat) : Int) 31, fv o (M0 608) 11 ((608 : Nat) : Int) 32, fv o (M0 608) 11 ((608 : Nat) : Int) 33, fv o (M0 608) 11 ((608 : Nat) : Int) 34, fv o (M0 608) 11 ((608 : Nat) : Int) 35, fv o (M0 608) 11 ((608 : Nat) : Int) 36] = _
  rw [fv_i (show ft 11 0 = 0 from rfl), fv_r (d := 1) (show ft 11 1 = 2 from rfl) (show dl 11 1 = ((1 : Nat) : Int) from rfl), fv_r (d := 2) (show ft 11 2 = 2 from rfl) (show dl 11 2 = ((2 : Nat) : Int) from rfl), fv_i (show ft 11 3 = 0 from rfl), fv_r (d := 3) (show ft 11 4 = 2 from rfl) (show dl 11 4 = ((3 : Nat) : Int) from rfl), fv_i (show ft 11 5 = 0 from rfl), fv_r (d := 4) (show ft 11 6 = 2 from rfl) (show dl 11 6 = ((4 : Nat) : Int) from rfl), fv_r (d := 5) (show ft 11 7 = 2 from rfl) (show dl 11 7 = ((5 : Nat) : Int) from rfl), fv_i (show ft 11 8 = 0 from rfl), fv_i (show ft 11 9 = 0 from rfl), fv_i (show ft 11 10 = 0 from rfl), fv_r (d := 6) (show ft 11 11 = 2 from rfl) (show dl 11 11 = ((6 : Nat) : Int) from rfl), fv_i (show ft 11 12 = 0 from rfl), fv_r (d := 7) (show ft 11 13 = 2 from rfl) (show dl 11 13 = ((7 : Nat) : Int) from rfl), fv_i (show ft 11 14 = 0 from rfl), fv_i (show ft 11 15 = 0 from rfl), fv_r (d := 8) (show ft 11 16 = 2 from rfl) (show dl 11 16 = ((8 : Nat) : Int) from rfl), fv_r (d := 9) (show ft 11 17 = 2 from rfl) (show dl 11 17 = ((9 : Nat) : Int) from rfl), fv_i (show ft 11 18 = 0 from rfl), fv_r (d := 10) (show ft 11 19 = 2 from rfl) (show dl 11 19 = ((10 : Nat) : Int) from rfl), fv_r (d := 11) (show ft 11 20 = 2 from rfl) (show dl 11 20 = ((11 : Nat) : Int) from rfl), fv_r (d := 12) (show ft 11 21 = 2 from rfl) (show dl 11 21 = ((12 : Nat) : Int) from rfl), fv_r (d := 13) (show ft 11 22 = 2 from rfl) (show dl 11 22 = ((13 : Nat) : Int) from rfl), fv_r (d := 14) (show ft 11 23 = 2 from rfl) (show dl 11 23 = ((14 : Nat) : Int) from rfl), fv_i (show ft 11 24 = 0 from rfl), fv_r (d := 15) (show ft 11 25 = 2 from rfl) (show dl 11 25 = ((15 : Nat) : Int) from rfl), fv_r (d := 16) (show ft 11 26 = 2 from rfl) (show dl 11 26 = ((16 : Nat) : Int) from rfl), fv_r (d := 17) (show ft 11 27 = 2 from rfl) (show dl 11 27 = ((17 : Nat) : Int) from rfl), fv_i (show ft 11 28 = 0 from rfl), fv_i (show ft 11 29 = 0 from rfl), fv_i (show ft 11 30 = 0 from rfl), fv_r (d := 18) (show ft 11 31 = 2 from rfl) (show dl 11 31 = ((18 : Nat) : Int) from rfl), fv_r (d := 19) (show ft 11 32 = 2 from rfl) (show dl 11 32 = ((19 : Nat) : Int) from rfl), fv_i (show ft 11 33 = 0 from rfl), fv_r (d := 20) (show ft 11 34 = 2 from rfl) (show dl 11 34 = ((20 : Nat) : Int) from rfl), fv_r (d := 21) (show ft 11 35 = 2 from rfl) (show dl 11 35 = ((21 : Nat) : Int) from rfl), fv_i (show ft 11 36 = 0 from rfl)]
  rfl

abbrev rm_X9_init : Room := { frames := 1, cells := 3, slots := 64, locals := 12 }
set_option maxRecDepth 100000 in
set_option maxHeartbeats 4000000 in
theorem K_X9 (l : Launch) {D : va_G} {cy : Nat → ClassId} {o n : Nat} {C : Nat → va_E} (hk : kd (n : Int) = 9) (hC : C n = .inr (8, [.int (J 0), .int (J 0), .int (J 0), .null, .null, .null])) : CoK l yX9_init (wj yX9_init cX9_init 1 none) rm_X9_init D cy o [.ref (o + n)] (n + 1) C (n + 4) (fun i => if i < n then C i else fin cy o i) := by
  refine k_ofW (cc := cX9_init) (maxL := 1) (ret := none) (by decide) rfl (Nat.le_of_ble_eq_true rfl) ?_
  intro p e s m args below meth c hx hb hr hlocks hml hin2 hown hts hK hNX H locs hG ls hl Qf hQf
  have hown : s.vm.findClass RX9 = some m.cls := hown
  have hl : lv_has ls 1 [(0, .ref (o + n))] := hl
  refine lv_aload_n hx hb dX9_init_0 rfl (lv_at hl 0 rfl) ?_
  refine W.objInit hx hb hown (hts _ (List.mem_cons_of_mem _ mo_RX9)) (hts _ (List.mem_cons_of_mem _ i_objInit)) (hts _ (List.mem_cons_of_mem _ k_objInit)) rfl (by rw [hml]; exact hl.1) rfl dX9_init_1 (Nat.le_of_ble_eq_true rfl) (Nat.le_of_ble_eq_true rfl) ?_
  refine W.eq (g2 := F0 m 4 ls []) rfl ?_
  have hG : GC D o (CX n C (.inr (8, [.int (J 0), .int (J 0), .int (J 0), .null, .null, .null])) (fin cy o)) (n + 1) s H locs 0 := hG.congr (CX_in hC)
  refine lv_aload_n hx hb dX9_init_4 rfl (lv_at hl 0 rfl) ?_
  refine lv_bipush (v := J 56) hx hb dX9_init_5 (by decide) ?_
  refine k_newI (cy := cy) (N := 56) hx hb (hts _ (List.mem_cons_of_mem _ ac_int)) hK hG rfl (by omega) (by exact Nat.le_of_ble_eq_true rfl) (by exact Nat.le_of_ble_eq_true rfl) dX9_init_7 (fun H hG => ?_)
  have hG : GC D o (CX n C (.inr (8, [.int (J 0), .int (J 0), .int (J 0), .null, .null, .null])) (fin cy o)) (n + 2) s H locs 1 := hG.congr (CX_new (by omega) (fin_I (N := 56) (by have q9 := kf_9_3 hk; rw [← kd_nat]; exact_mod_cast q9) (by omega)))
  refine W.widen (k := 1) (n := 56) (by omega) (by omega) ?_
  refine k_putF (v := .ref (o + (n + 1))) (k := n) hx hb hts (fun w h => List.mem_cons_of_mem _ (u_X9 w h)) tyX9 tyX9_ok nmX9 hown hK hG (by omega) CX_at (ci := 8) rfl 3 ⟨by decide, by decide, Nat.le_of_ble_eq_true rfl⟩ hin2 rfl (hts _ (List.mem_cons_of_mem _ fl_RX9_9)) (hd := rfl) (hn := rfl) (hfit := rfl) (hdg := dX9_init_9) (fun H locs hG => ?_)
  have hG : GC D o (CX n C (.inr (8, [.int (J 0), .int (J 0), .int (J 0), .ref (o + (n + 1)), .null, .null])) (fin cy o)) (n + 2) s H locs 1 := hG.congr CX_put
  refine lv_aload_n hx hb dX9_init_12 rfl (lv_at hl 0 rfl) ?_
  refine lv_iconst (v := J 4) hx hb dX9_init_13 (by decide) ?_
  refine k_newI (cy := cy) (N := 4) hx hb (hts _ (List.mem_cons_of_mem _ ac_int)) hK hG rfl (by omega) (by exact Nat.le_of_ble_eq_true rfl) (by exact Nat.le_of_ble_eq_true rfl) dX9_init_14 (fun H hG => ?_)
  have hG : GC D o (CX n C (.inr (8, [.int (J 0), .int (J 0), .int (J 0), .ref (o + (n + 1)), .null, .null])) (fin cy o)) (n + 3) s H locs 2 := hG.congr (CX_new (by omega) (fin_I (N := 4) (by have q9 := kf_9_4 hk; rw [← kd_nat]; exact_mod_cast q9) (by omega)))
  refine W.widen (k := 2) (n := 60) (by omega) (by omega) ?_
  refine k_putF (v := .ref (o + (n + 2))) (k := n) hx hb hts (fun w h => List.mem_cons_of_mem _ (u_X9 w h)) tyX9 tyX9_ok nmX9 hown hK hG (by omega) CX_at (ci := 8) rfl 4 ⟨by decide, by decide, Nat.le_of_ble_eq_true rfl⟩ hin2 rfl (hts _ (List.mem_cons_of_mem _ fl_RX9_15)) (hd := rfl) (hn := rfl) (hfit := rfl) (hdg := dX9_init_16) (fun H locs hG => ?_)
  have hG : GC D o (CX n C (.inr (8, [.int (J 0), .int (J 0), .int (J 0), .ref (o + (n + 1)), .ref (o + (n + 2)), .null])) (fin cy o)) (n + 3) s H locs 2 := hG.congr CX_put
  refine lv_aload_n hx hb dX9_init_19 rfl (lv_at hl 0 rfl) ?_
  refine lv_iconst (v := J 4) hx hb dX9_init_20 (by decide) ?_
  refine k_newI (cy := cy) (N := 4) hx hb (hts _ (List.mem_cons_of_mem _ ac_int)) hK hG rfl (by omega) (by exact Nat.le_of_ble_eq_true rfl) (by exact Nat.le_of_ble_eq_true rfl) dX9_init_21 (fun H hG => ?_)
  have hG : GC D o (CX n C (.inr (8, [.int (J 0), .int (J 0), .int (J 0), .ref (o + (n + 1)), .ref (o + (n + 2)), .null])) (fin cy o)) (n + 4) s H locs 3 := hG.congr (CX_new (by omega) (fin_I (N := 4) (by have q9 := kf_9_5 hk; rw [← kd_nat]; exact_mod_cast q9) (by omega)))
  refine W.widen (k := 3) (n := 64) (by omega) (by omega) ?_
  refine k_putF (v := .ref (o + (n + 3))) (k := n) hx hb hts (fun w h => List.mem_cons_of_mem _ (u_X9 w h)) tyX9 tyX9_ok nmX9 hown hK hG (by omega) CX_at (ci := 8) rfl 5 ⟨by decide, by decide, Nat.le_of_ble_eq_true rfl⟩ hin2 rfl (hts _ (List.mem_cons_of_mem _ fl_RX9_18)) (hd := rfl) (hn := rfl) (hfit := rfl) (hdg := dX9_init_23) (fun H locs hG => ?_)
  have hG : GC D o (CX n C (.inr (8, [.int (J 0), .int (J 0), .int (J 0), .ref (o + (n + 1)), .ref (o + (n + 2)), .ref (o + (n + 3))])) (fin cy o)) (n + 4) s H locs 3 := hG.congr CX_put
  rw [hQf]
  exact k_vret hx hb hr hlocks hG rfl (CX_out (fO_X9 (by rw [← kd_nat]; exact hk)) (fun _ _ _ => rfl)) (by decide) dX9_init_26

abbrev rm_X4_init : Room := { frames := 1, cells := 1, slots := 40, locals := 12 }
set_option maxRecDepth 100000 in
set_option maxHeartbeats 4000000 in
theorem K_X4 (l : Launch) {D : va_G} {cy : Nat → ClassId} {o n : Nat} {C : Nat → va_E} (hk : kd (n : Int) = 4) (hC : C n = .inr (3, [.int (J 0), .int (J 0), .int (J 0), .int (J 0), .int (J 0), .int (J 0), .int (J 0), .int (J 0), .int (J 0), .long (JL 0), .null])) : CoK l yX4_init (wj yX4_init cX4_init 1 none) rm_X4_init D cy o [.ref (o + n)] (n + 1) C (n + 2) (fun i => if i < n then C i else fin cy o i) := by
  refine k_ofW (cc := cX4_init) (maxL := 1) (ret := none) (by decide) rfl (Nat.le_of_ble_eq_true rfl) ?_
  intro p e s m args below meth c hx hb hr hlocks hml hin2 hown hts hK hNX H locs hG ls hl Qf hQf
  have hown : s.vm.findClass RX4 = some m.cls := hown
  have hl : lv_has ls 1 [(0, .ref (o + n))] := hl
  refine lv_aload_n hx hb dX4_init_0 rfl (lv_at hl 0 rfl) ?_
  refine W.objInit hx hb hown (hts _ (List.mem_cons_of_mem _ mo_RX4)) (hts _ (List.mem_cons_of_mem _ i_objInit)) (hts _ (List.mem_cons_of_mem _ k_objInit)) rfl (by rw [hml]; exact hl.1) rfl dX4_init_1 (Nat.le_of_ble_eq_true rfl) (Nat.le_of_ble_eq_true rfl) ?_
  refine W.eq (g2 := F0 m 4 ls []) rfl ?_
  have hG : GC D o (CX n C (.inr (3, [.int (J 0), .int (J 0), .int (J 0), .int (J 0), .int (J 0), .int (J 0), .int (J 0), .int (J 0), .int (J 0), .long (JL 0), .null])) (fin cy o)) (n + 1) s H locs 0 := hG.congr (CX_in hC)
  refine lv_aload_n hx hb dX4_init_4 rfl (lv_at hl 0 rfl) ?_
  refine lv_bipush (v := J 40) hx hb dX4_init_5 (by decide) ?_
  refine k_newI (cy := cy) (N := 40) hx hb (hts _ (List.mem_cons_of_mem _ ac_int)) hK hG rfl (by omega) (by exact Nat.le_of_ble_eq_true rfl) (by exact Nat.le_of_ble_eq_true rfl) dX4_init_7 (fun H hG => ?_)
  have hG : GC D o (CX n C (.inr (3, [.int (J 0), .int (J 0), .int (J 0), .int (J 0), .int (J 0), .int (J 0), .int (J 0), .int (J 0), .int (J 0), .long (JL 0), .null])) (fin cy o)) (n + 2) s H locs 1 := hG.congr (CX_new (by omega) (fin_I (N := 40) (by have q9 := kf_4_10 hk; rw [← kd_nat]; exact_mod_cast q9) (by omega)))
  refine W.widen (k := 1) (n := 40) (by omega) (by omega) ?_
  refine k_putF (v := .ref (o + (n + 1))) (k := n) hx hb hts (fun w h => List.mem_cons_of_mem _ (u_X4 w h)) tyX4 tyX4_ok nmX4 hown hK hG (by omega) CX_at (ci := 3) rfl 10 ⟨by decide, by decide, Nat.le_of_ble_eq_true rfl⟩ hin2 rfl (hts _ (List.mem_cons_of_mem _ fl_RX4_9)) (hd := rfl) (hn := rfl) (hfit := rfl) (hdg := dX4_init_9) (fun H locs hG => ?_)
  have hG : GC D o (CX n C (.inr (3, [.int (J 0), .int (J 0), .int (J 0), .int (J 0), .int (J 0), .int (J 0), .int (J 0), .int (J 0), .int (J 0), .long (JL 0), .ref (o + (n + 1))])) (fin cy o)) (n + 2) s H locs 1 := hG.congr CX_put
  rw [hQf]
  exact k_vret hx hb hr hlocks hG rfl (CX_out (fO_X4 (by rw [← kd_nat]; exact hk)) (fun _ _ _ => rfl)) (by decide) dX4_init_12

abbrev rm_X7_init : Room := { frames := 1, cells := 7, slots := 1821, locals := 12 }
set_option maxRecDepth 100000 in
set_option maxHeartbeats 4000000 in
theorem K_X7 (l : Launch) {D : va_G} {cy : Nat → ClassId} {o n : Nat} {C : Nat → va_E} (hk : kd (n : Int) = 7) (hC : C n = .inr (6, [.int (J 0), .int (J 0), .int (J 0), .int (J 0), .int (J 0), .int (J 0), .null, .null, .null, .null, .null, .null, .null, .int (J 0), .int (J 0), .int (J 0)])) : CoK l yX7_init (wj yX7_init cX7_init 1 none) rm_X7_init D cy o [.ref (o + n)] (n + 1) C (n + 8) (fun i => if i < n then C i else fin cy o i) := by
  refine k_ofW (cc := cX7_init) (maxL := 1) (ret := none) (by decide) rfl (Nat.le_of_ble_eq_true rfl) ?_
  intro p e s m args below meth c hx hb hr hlocks hml hin2 hown hts hK hNX H locs hG ls hl Qf hQf
  have hown : s.vm.findClass RX7 = some m.cls := hown
  have hl : lv_has ls 1 [(0, .ref (o + n))] := hl
  refine lv_aload_n hx hb dX7_init_0 rfl (lv_at hl 0 rfl) ?_
  refine W.objInit hx hb hown (hts _ (List.mem_cons_of_mem _ mo_RX7)) (hts _ (List.mem_cons_of_mem _ i_objInit)) (hts _ (List.mem_cons_of_mem _ k_objInit)) rfl (by rw [hml]; exact hl.1) rfl dX7_init_1 (Nat.le_of_ble_eq_true rfl) (Nat.le_of_ble_eq_true rfl) ?_
  refine W.eq (g2 := F0 m 4 ls []) rfl ?_
  have hG : GC D o (CX n C (.inr (6, [.int (J 0), .int (J 0), .int (J 0), .int (J 0), .int (J 0), .int (J 0), .null, .null, .null, .null, .null, .null, .null, .int (J 0), .int (J 0), .int (J 0)])) (fin cy o)) (n + 1) s H locs 0 := hG.congr (CX_in hC)
  refine lv_aload_n hx hb dX7_init_4 rfl (lv_at hl 0 rfl) ?_
  refine lv_sipush (v := J 260) hx hb dX7_init_5 (by decide) ?_
  refine k_newI (cy := cy) (N := 260) hx hb (hts _ (List.mem_cons_of_mem _ ac_int)) hK hG rfl (by omega) (by exact Nat.le_of_ble_eq_true rfl) (by exact Nat.le_of_ble_eq_true rfl) dX7_init_8 (fun H hG => ?_)
  have hG : GC D o (CX n C (.inr (6, [.int (J 0), .int (J 0), .int (J 0), .int (J 0), .int (J 0), .int (J 0), .null, .null, .null, .null, .null, .null, .null, .int (J 0), .int (J 0), .int (J 0)])) (fin cy o)) (n + 2) s H locs 1 := hG.congr (CX_new (by omega) (fin_I (N := 260) (by have q9 := kf_7_6 hk; rw [← kd_nat]; exact_mod_cast q9) (by omega)))
  refine W.widen (k := 1) (n := 260) (by omega) (by omega) ?_
  refine k_putF (v := .ref (o + (n + 1))) (k := n) hx hb hts (fun w h => List.mem_cons_of_mem _ (u_X7 w h)) tyX7 tyX7_ok nmX7 hown hK hG (by omega) CX_at (ci := 6) rfl 6 ⟨by decide, by decide, Nat.le_of_ble_eq_true rfl⟩ hin2 rfl (hts _ (List.mem_cons_of_mem _ fl_RX7_9)) (hd := rfl) (hn := rfl) (hfit := rfl) (hdg := dX7_init_10) (fun H locs hG => ?_)
  have hG : GC D o (CX n C (.inr (6, [.int (J 0), .int (J 0), .int (J 0), .int (J 0), .int (J 0), .int (J 0), .ref (o + (n + 1)), .null, .null, .null, .null, .null, .null, .int (J 0), .int (J 0), .int (J 0)])) (fin cy o)) (n + 2) s H locs 1 := hG.congr CX_put
  refine lv_aload_n hx hb dX7_init_13 rfl (lv_at hl 0 rfl) ?_
  refine lv_sipush (v := J 260) hx hb dX7_init_14 (by decide) ?_
  refine k_newI (cy := cy) (N := 260) hx hb (hts _ (List.mem_cons_of_mem _ ac_int)) hK hG rfl (by omega) (by exact Nat.le_of_ble_eq_true rfl) (by exact Nat.le_of_ble_eq_true rfl) dX7_init_17 (fun H hG => ?_)
  have hG : GC D o (CX n C (.inr (6, [.int (J 0), .int (J 0), .int (J 0), .int (J 0), .int (J 0), .int (J 0), .ref (o + (n + 1)), .null, .null, .null, .null, .null, .null, .int (J 0), .int (J 0), .int (J 0)])) (fin cy o)) (n + 3) s H locs 2 := hG.congr (CX_new (by omega) (fin_I (N := 260) (by have q9 := kf_7_7 hk; rw [← kd_nat]; exact_mod_cast q9) (by omega)))
  refine W.widen (k := 2) (n := 520) (by omega) (by omega) ?_
  refine k_putF (v := .ref (o + (n + 2))) (k := n) hx hb hts (fun w h => List.mem_cons_of_mem _ (u_X7 w h)) tyX7 tyX7_ok nmX7 hown hK hG (by omega) CX_at (ci := 6) rfl 7 ⟨by decide, by decide, Nat.le_of_ble_eq_true rfl⟩ hin2 rfl (hts _ (List.mem_cons_of_mem _ fl_RX7_15)) (hd := rfl) (hn := rfl) (hfit := rfl) (hdg := dX7_init_19) (fun H locs hG => ?_)
  have hG : GC D o (CX n C (.inr (6, [.int (J 0), .int (J 0), .int (J 0), .int (J 0), .int (J 0), .int (J 0), .ref (o + (n + 1)), .ref (o + (n + 2)), .null, .null, .null, .null, .null, .int (J 0), .int (J 0), .int (J 0)])) (fin cy o)) (n + 3) s H locs 2 := hG.congr CX_put
  refine lv_aload_n hx hb dX7_init_22 rfl (lv_at hl 0 rfl) ?_
  refine lv_sipush (v := J 260) hx hb dX7_init_23 (by decide) ?_
  refine k_newI (cy := cy) (N := 260) hx hb (hts _ (List.mem_cons_of_mem _ ac_int)) hK hG rfl (by omega) (by exact Nat.le_of_ble_eq_true rfl) (by exact Nat.le_of_ble_eq_true rfl) dX7_init_26 (fun H hG => ?_)
  have hG : GC D o (CX n C (.inr (6, [.int (J 0), .int (J 0), .int (J 0), .int (J 0), .int (J 0), .int (J 0), .ref (o + (n + 1)), .ref (o + (n + 2)), .null, .null, .null, .null, .null, .int (J 0), .int (J 0), .int (J 0)])) (fin cy o)) (n + 4) s H locs 3 := hG.congr (CX_new (by omega) (fin_I (N := 260) (by have q9 := kf_7_8 hk; rw [← kd_nat]; exact_mod_cast q9) (by omega)))
  refine W.widen (k := 3) (n := 780) (by omega) (by omega) ?_
  refine k_putF (v := .ref (o + (n + 3))) (k := n) hx hb hts (fun w h => List.mem_cons_of_mem _ (u_X7 w h)) tyX7 tyX7_ok nmX7 hown hK hG (by omega) CX_at (ci := 6) rfl 8 ⟨by decide, by decide, Nat.le_of_ble_eq_true rfl⟩ hin2 rfl (hts _ (List.mem_cons_of_mem _ fl_RX7_18)) (hd := rfl) (hn := rfl) (hfit := rfl) (hdg := dX7_init_28) (fun H locs hG => ?_)
  have hG : GC D o (CX n C (.inr (6, [.int (J 0), .int (J 0), .int (J 0), .int (J 0), .int (J 0), .int (J 0), .ref (o + (n + 1)), .ref (o + (n + 2)), .ref (o + (n + 3)), .null, .null, .null, .null, .int (J 0), .int (J 0), .int (J 0)])) (fin cy o)) (n + 4) s H locs 3 := hG.congr CX_put
  refine lv_aload_n hx hb dX7_init_31 rfl (lv_at hl 0 rfl) ?_
  refine lv_sipush (v := J 260) hx hb dX7_init_32 (by decide) ?_
  refine k_newI (cy := cy) (N := 260) hx hb (hts _ (List.mem_cons_of_mem _ ac_int)) hK hG rfl (by omega) (by exact Nat.le_of_ble_eq_true rfl) (by exact Nat.le_of_ble_eq_true rfl) dX7_init_35 (fun H hG => ?_)
  have hG : GC D o (CX n C (.inr (6, [.int (J 0), .int (J 0), .int (J 0), .int (J 0), .int (J 0), .int (J 0), .ref (o + (n + 1)), .ref (o + (n + 2)), .ref (o + (n + 3)), .null, .null, .null, .null, .int (J 0), .int (J 0), .int (J 0)])) (fin cy o)) (n + 5) s H locs 4 := hG.congr (CX_new (by omega) (fin_I (N := 260) (by have q9 := kf_7_9 hk; rw [← kd_nat]; exact_mod_cast q9) (by omega)))
  refine W.widen (k := 4) (n := 1040) (by omega) (by omega) ?_
  refine k_putF (v := .ref (o + (n + 4))) (k := n) hx hb hts (fun w h => List.mem_cons_of_mem _ (u_X7 w h)) tyX7 tyX7_ok nmX7 hown hK hG (by omega) CX_at (ci := 6) rfl 9 ⟨by decide, by decide, Nat.le_of_ble_eq_true rfl⟩ hin2 rfl (hts _ (List.mem_cons_of_mem _ fl_RX7_21)) (hd := rfl) (hn := rfl) (hfit := rfl) (hdg := dX7_init_37) (fun H locs hG => ?_)
  have hG : GC D o (CX n C (.inr (6, [.int (J 0), .int (J 0), .int (J 0), .int (J 0), .int (J 0), .int (J 0), .ref (o + (n + 1)), .ref (o + (n + 2)), .ref (o + (n + 3)), .ref (o + (n + 4)), .null, .null, .null, .int (J 0), .int (J 0), .int (J 0)])) (fin cy o)) (n + 5) s H locs 4 := hG.congr CX_put
  refine lv_aload_n hx hb dX7_init_40 rfl (lv_at hl 0 rfl) ?_
  refine lv_sipush (v := J 260) hx hb dX7_init_41 (by decide) ?_
  refine k_newI (cy := cy) (N := 260) hx hb (hts _ (List.mem_cons_of_mem _ ac_int)) hK hG rfl (by omega) (by exact Nat.le_of_ble_eq_true rfl) (by exact Nat.le_of_ble_eq_true rfl) dX7_init_44 (fun H hG => ?_)
  have hG : GC D o (CX n C (.inr (6, [.int (J 0), .int (J 0), .int (J 0), .int (J 0), .int (J 0), .int (J 0), .ref (o + (n + 1)), .ref (o + (n + 2)), .ref (o + (n + 3)), .ref (o + (n + 4)), .null, .null, .null, .int (J 0), .int (J 0), .int (J 0)])) (fin cy o)) (n + 6) s H locs 5 := hG.congr (CX_new (by omega) (fin_I (N := 260) (by have q9 := kf_7_10 hk; rw [← kd_nat]; exact_mod_cast q9) (by omega)))
  refine W.widen (k := 5) (n := 1300) (by omega) (by omega) ?_
  refine k_putF (v := .ref (o + (n + 5))) (k := n) hx hb hts (fun w h => List.mem_cons_of_mem _ (u_X7 w h)) tyX7 tyX7_ok nmX7 hown hK hG (by omega) CX_at (ci := 6) rfl 10 ⟨by decide, by decide, Nat.le_of_ble_eq_true rfl⟩ hin2 rfl (hts _ (List.mem_cons_of_mem _ fl_RX7_24)) (hd := rfl) (hn := rfl) (hfit := rfl) (hdg := dX7_init_46) (fun H locs hG => ?_)
  have hG : GC D o (CX n C (.inr (6, [.int (J 0), .int (J 0), .int (J 0), .int (J 0), .int (J 0), .int (J 0), .ref (o + (n + 1)), .ref (o + (n + 2)), .ref (o + (n + 3)), .ref (o + (n + 4)), .ref (o + (n + 5)), .null, .null, .int (J 0), .int (J 0), .int (J 0)])) (fin cy o)) (n + 6) s H locs 5 := hG.congr CX_put
  refine lv_aload_n hx hb dX7_init_49 rfl (lv_at hl 0 rfl) ?_
  refine lv_sipush (v := J 260) hx hb dX7_init_50 (by decide) ?_
  refine k_newI (cy := cy) (N := 260) hx hb (hts _ (List.mem_cons_of_mem _ ac_int)) hK hG rfl (by omega) (by exact Nat.le_of_ble_eq_true rfl) (by exact Nat.le_of_ble_eq_true rfl) dX7_init_53 (fun H hG => ?_)
  have hG : GC D o (CX n C (.inr (6, [.int (J 0), .int (J 0), .int (J 0), .int (J 0), .int (J 0), .int (J 0), .ref (o + (n + 1)), .ref (o + (n + 2)), .ref (o + (n + 3)), .ref (o + (n + 4)), .ref (o + (n + 5)), .null, .null, .int (J 0), .int (J 0), .int (J 0)])) (fin cy o)) (n + 7) s H locs 6 := hG.congr (CX_new (by omega) (fin_I (N := 260) (by have q9 := kf_7_11 hk; rw [← kd_nat]; exact_mod_cast q9) (by omega)))
  refine W.widen (k := 6) (n := 1560) (by omega) (by omega) ?_
  refine k_putF (v := .ref (o + (n + 6))) (k := n) hx hb hts (fun w h => List.mem_cons_of_mem _ (u_X7 w h)) tyX7 tyX7_ok nmX7 hown hK hG (by omega) CX_at (ci := 6) rfl 11 ⟨by decide, by decide, Nat.le_of_ble_eq_true rfl⟩ hin2 rfl (hts _ (List.mem_cons_of_mem _ fl_RX7_27)) (hd := rfl) (hn := rfl) (hfit := rfl) (hdg := dX7_init_55) (fun H locs hG => ?_)
  have hG : GC D o (CX n C (.inr (6, [.int (J 0), .int (J 0), .int (J 0), .int (J 0), .int (J 0), .int (J 0), .ref (o + (n + 1)), .ref (o + (n + 2)), .ref (o + (n + 3)), .ref (o + (n + 4)), .ref (o + (n + 5)), .ref (o + (n + 6)), .null, .int (J 0), .int (J 0), .int (J 0)])) (fin cy o)) (n + 7) s H locs 6 := hG.congr CX_put
  refine lv_aload_n hx hb dX7_init_58 rfl (lv_at hl 0 rfl) ?_
  refine lv_sipush (v := J 261) hx hb dX7_init_59 (by decide) ?_
  refine k_newI (cy := cy) (N := 261) hx hb (hts _ (List.mem_cons_of_mem _ ac_int)) hK hG rfl (by omega) (by exact Nat.le_of_ble_eq_true rfl) (by exact Nat.le_of_ble_eq_true rfl) dX7_init_62 (fun H hG => ?_)
  have hG : GC D o (CX n C (.inr (6, [.int (J 0), .int (J 0), .int (J 0), .int (J 0), .int (J 0), .int (J 0), .ref (o + (n + 1)), .ref (o + (n + 2)), .ref (o + (n + 3)), .ref (o + (n + 4)), .ref (o + (n + 5)), .ref (o + (n + 6)), .null, .int (J 0), .int (J 0), .int (J 0)])) (fin cy o)) (n + 8) s H locs 7 := hG.congr (CX_new (by omega) (fin_I (N := 261) (by have q9 := kf_7_12 hk; rw [← kd_nat]; exact_mod_cast q9) (by omega)))
  refine W.widen (k := 7) (n := 1821) (by omega) (by omega) ?_
  refine k_putF (v := .ref (o + (n + 7))) (k := n) hx hb hts (fun w h => List.mem_cons_of_mem _ (u_X7 w h)) tyX7 tyX7_ok nmX7 hown hK hG (by omega) CX_at (ci := 6) rfl 12 ⟨by decide, by decide, Nat.le_of_ble_eq_true rfl⟩ hin2 rfl (hts _ (List.mem_cons_of_mem _ fl_RX7_30)) (hd := rfl) (hn := rfl) (hfit := rfl) (hdg := dX7_init_64) (fun H locs hG => ?_)
  have hG : GC D o (CX n C (.inr (6, [.int (J 0), .int (J 0), .int (J 0), .int (J 0), .int (J 0), .int (J 0), .ref (o + (n + 1)), .ref (o + (n + 2)), .ref (o + (n + 3)), .ref (o + (n + 4)), .ref (o + (n + 5)), .ref (o + (n + 6)), .ref (o + (n + 7)), .int (J 0), .int (J 0), .int (J 0)])) (fin cy o)) (n + 8) s H locs 7 := hG.congr CX_put
  rw [hQf]
  exact k_vret hx hb hr hlocks hG rfl (CX_out (fO_X7 (by rw [← kd_nat]; exact hk)) (fun _ _ _ => rfl)) (by decide) dX7_init_67

abbrev rm_X5_init : Room := { frames := 1, cells := 2, slots := 80, locals := 12 }
set_option maxRecDepth 100000 in
set_option maxHeartbeats 4000000 in
theorem K_X5 (l : Launch) {D : va_G} {cy : Nat → ClassId} {o n : Nat} {C : Nat → va_E} (hk : kd (n : Int) = 5) (hC : C n = .inr (4, [.int (J 0), .int (J 0), .int (J 0), .null, .null])) : CoK l yX5_init (wj yX5_init cX5_init 1 none) rm_X5_init D cy o [.ref (o + n)] (n + 1) C (n + 3) (fun i => if i < n then C i else fin cy o i) := by
  refine k_ofW (cc := cX5_init) (maxL := 1) (ret := none) (by decide) rfl (Nat.le_of_ble_eq_true rfl) ?_
  intro p e s m args below meth c hx hb hr hlocks hml hin2 hown hts hK hNX H locs hG ls hl Qf hQf
  have hown : s.vm.findClass RX5 = some m.cls := hown
  have hl : lv_has ls 1 [(0, .ref (o + n))] := hl
  refine lv_aload_n hx hb dX5_init_0 rfl (lv_at hl 0 rfl) ?_
  refine W.objInit hx hb hown (hts _ (List.mem_cons_of_mem _ mo_RX5)) (hts _ (List.mem_cons_of_mem _ i_objInit)) (hts _ (List.mem_cons_of_mem _ k_objInit)) rfl (by rw [hml]; exact hl.1) rfl dX5_init_1 (Nat.le_of_ble_eq_true rfl) (Nat.le_of_ble_eq_true rfl) ?_
  refine W.eq (g2 := F0 m 4 ls []) rfl ?_
  have hG : GC D o (CX n C (.inr (4, [.int (J 0), .int (J 0), .int (J 0), .null, .null])) (fin cy o)) (n + 1) s H locs 0 := hG.congr (CX_in hC)
  refine lv_aload_n hx hb dX5_init_4 rfl (lv_at hl 0 rfl) ?_
  refine lv_bipush (v := J 40) hx hb dX5_init_5 (by decide) ?_
  refine k_newI (cy := cy) (N := 40) hx hb (hts _ (List.mem_cons_of_mem _ ac_int)) hK hG rfl (by omega) (by exact Nat.le_of_ble_eq_true rfl) (by exact Nat.le_of_ble_eq_true rfl) dX5_init_7 (fun H hG => ?_)
  have hG : GC D o (CX n C (.inr (4, [.int (J 0), .int (J 0), .int (J 0), .null, .null])) (fin cy o)) (n + 2) s H locs 1 := hG.congr (CX_new (by omega) (fin_I (N := 40) (by have q9 := kf_5_3 hk; rw [← kd_nat]; exact_mod_cast q9) (by omega)))
  refine W.widen (k := 1) (n := 40) (by omega) (by omega) ?_
  refine k_putF (v := .ref (o + (n + 1))) (k := n) hx hb hts (fun w h => List.mem_cons_of_mem _ (u_X5 w h)) tyX5 tyX5_ok nmX5 hown hK hG (by omega) CX_at (ci := 4) rfl 3 ⟨by decide, by decide, Nat.le_of_ble_eq_true rfl⟩ hin2 rfl (hts _ (List.mem_cons_of_mem _ fl_RX5_9)) (hd := rfl) (hn := rfl) (hfit := rfl) (hdg := dX5_init_9) (fun H locs hG => ?_)
  have hG : GC D o (CX n C (.inr (4, [.int (J 0), .int (J 0), .int (J 0), .ref (o + (n + 1)), .null])) (fin cy o)) (n + 2) s H locs 1 := hG.congr CX_put
  refine lv_aload_n hx hb dX5_init_12 rfl (lv_at hl 0 rfl) ?_
  refine lv_bipush (v := J 40) hx hb dX5_init_13 (by decide) ?_
  refine k_newI (cy := cy) (N := 40) hx hb (hts _ (List.mem_cons_of_mem _ ac_int)) hK hG rfl (by omega) (by exact Nat.le_of_ble_eq_true rfl) (by exact Nat.le_of_ble_eq_true rfl) dX5_init_15 (fun H hG => ?_)
  have hG : GC D o (CX n C (.inr (4, [.int (J 0), .int (J 0), .int (J 0), .ref (o + (n + 1)), .null])) (fin cy o)) (n + 3) s H locs 2 := hG.congr (CX_new (by omega) (fin_I (N := 40) (by have q9 := kf_5_4 hk; rw [← kd_nat]; exact_mod_cast q9) (by omega)))
  refine W.widen (k := 2) (n := 80) (by omega) (by omega) ?_
  refine k_putF (v := .ref (o + (n + 2))) (k := n) hx hb hts (fun w h => List.mem_cons_of_mem _ (u_X5 w h)) tyX5 tyX5_ok nmX5 hown hK hG (by omega) CX_at (ci := 4) rfl 4 ⟨by decide, by decide, Nat.le_of_ble_eq_true rfl⟩ hin2 rfl (hts _ (List.mem_cons_of_mem _ fl_RX5_15)) (hd := rfl) (hn := rfl) (hfit := rfl) (hdg := dX5_init_17) (fun H locs hG => ?_)
  have hG : GC D o (CX n C (.inr (4, [.int (J 0), .int (J 0), .int (J 0), .ref (o + (n + 1)), .ref (o + (n + 2))])) (fin cy o)) (n + 3) s H locs 2 := hG.congr CX_put
  rw [hQf]
  exact k_vret hx hb hr hlocks hG rfl (CX_out (fO_X5 (by rw [← kd_nat]; exact hk)) (fun _ _ _ => rfl)) (by decide) dX5_init_20

abbrev rm_X2_init : Room := { frames := 1, cells := 0, slots := 0, locals := 12 }
set_option maxRecDepth 100000 in
set_option maxHeartbeats 4000000 in
theorem K_X2 (l : Launch) {D : va_G} {cy : Nat → ClassId} {o n : Nat} {C : Nat → va_E} (hk : kd (n : Int) = 2) (hC : C n = .inr (1, [.int (J 0), .int (J 0), .int (J 0), .int (J 0), .int (J 0)])) : CoK l yX2_init (wj yX2_init cX2_init 1 none) rm_X2_init D cy o [.ref (o + n)] (n + 1) C (n + 1) (fun i => if i < n then C i else fin cy o i) := by
  refine k_ofW (cc := cX2_init) (maxL := 1) (ret := none) (by decide) rfl (Nat.le_of_ble_eq_true rfl) ?_
  intro p e s m args below meth c hx hb hr hlocks hml hin2 hown hts hK hNX H locs hG ls hl Qf hQf
  have hown : s.vm.findClass RX2 = some m.cls := hown
  have hl : lv_has ls 1 [(0, .ref (o + n))] := hl
  refine lv_aload_n hx hb dX2_init_0 rfl (lv_at hl 0 rfl) ?_
  refine W.objInit hx hb hown (hts _ (List.mem_cons_of_mem _ mo_RX2)) (hts _ (List.mem_cons_of_mem _ i_objInit)) (hts _ (List.mem_cons_of_mem _ k_objInit)) rfl (by rw [hml]; exact hl.1) rfl dX2_init_1 (Nat.le_of_ble_eq_true rfl) (Nat.le_of_ble_eq_true rfl) ?_
  refine W.eq (g2 := F0 m 4 ls []) rfl ?_
  have hG : GC D o (CX n C (.inr (1, [.int (J 0), .int (J 0), .int (J 0), .int (J 0), .int (J 0)])) (fin cy o)) (n + 1) s H locs 0 := hG.congr (CX_in hC)
  rw [hQf]
  exact k_vret hx hb hr hlocks hG rfl (CX_out (fO_X2 (by rw [← kd_nat]; exact hk)) (fun _ _ _ => rfl)) (by decide) dX2_init_4

abbrev rm_X6_init : Room := { frames := 1, cells := 2, slots := 150, locals := 12 }
set_option maxRecDepth 100000 in
set_option maxHeartbeats 4000000 in
theorem K_X6 (l : Launch) {D : va_G} {cy : Nat → ClassId} {o n : Nat} {C : Nat → va_E} (hk : kd (n : Int) = 6) (hn9 : n = 601) (hC : C n = .inr (5, [.int (J 0), .int (J 0), .int (J 0), .int (J 0), .null, .null])) : CoK l yX6_init (wj yX6_init cX6_init 1 none) rm_X6_init D cy o [.ref (o + n)] (n + 1) C (n + 3) (fun i => if i < n then C i else fin cy o i) := by
  have fO9 : fin cy o n = .inr (5, [.int (J 0), .int (J 0), .int (J (-1)), .int (J 0), .ref (o + (n + 1)), .ref (o + (n + 2))]) := by clear hC hk; subst hn9; exact fO_X6
  refine k_ofW (cc := cX6_init) (maxL := 1) (ret := none) (by decide) rfl (Nat.le_of_ble_eq_true rfl) ?_
  intro p e s m args below meth c hx hb hr hlocks hml hin2 hown hts hK hNX H locs hG ls hl Qf hQf
  have hown : s.vm.findClass RX6 = some m.cls := hown
  have hl : lv_has ls 1 [(0, .ref (o + n))] := hl
  refine lv_aload_n hx hb dX6_init_0 rfl (lv_at hl 0 rfl) ?_
  refine W.objInit hx hb hown (hts _ (List.mem_cons_of_mem _ mo_RX6)) (hts _ (List.mem_cons_of_mem _ i_objInit)) (hts _ (List.mem_cons_of_mem _ k_objInit)) rfl (by rw [hml]; exact hl.1) rfl dX6_init_1 (Nat.le_of_ble_eq_true rfl) (Nat.le_of_ble_eq_true rfl) ?_
  refine W.eq (g2 := F0 m 4 ls []) rfl ?_
  have hG : GC D o (CX n C (.inr (5, [.int (J 0), .int (J 0), .int (J 0), .int (J 0), .null, .null])) (fin cy o)) (n + 1) s H locs 0 := hG.congr (CX_in hC)
  refine lv_aload_n hx hb dX6_init_4 rfl (lv_at hl 0 rfl) ?_
  refine lv_iconst (v := J (-1)) hx hb dX6_init_5 (by decide) ?_
  refine k_put (v := .int (J (-1))) (k := n) hx hb hts (fun w h => List.mem_cons_of_mem _ (u_X6 w h)) tyX6 tyX6_ok nmX6 hown hK hG (by omega) CX_at (ci := 5) rfl 2 ⟨by decide, by decide, Nat.le_of_ble_eq_true rfl⟩ (hts _ (List.mem_cons_of_mem _ fl_RX6_11)) (hd := rfl) (hn := rfl) (hfit := rfl) (hdg := dX6_init_6) (fun H locs hG => ?_)
  have hG : GC D o (CX n C (.inr (5, [.int (J 0), .int (J 0), .int (J (-1)), .int (J 0), .null, .null])) (fin cy o)) (n + 1) s H locs 0 := hG.congr CX_put
  refine lv_aload_n hx hb dX6_init_9 rfl (lv_at hl 0 rfl) ?_
  refine lv_bipush (v := J 60) hx hb dX6_init_10 (by decide) ?_
  refine k_newC (cy := cy) (N := 60) hx hb (hts _ (List.mem_cons_of_mem _ ac_char)) hK hG rfl (by omega) (by exact Nat.le_of_ble_eq_true rfl) (by exact Nat.le_of_ble_eq_true rfl) dX6_init_12 (fun H hG => ?_)
  have hG : GC D o (CX n C (.inr (5, [.int (J 0), .int (J 0), .int (J (-1)), .int (J 0), .null, .null])) (fin cy o)) (n + 2) s H locs 1 := hG.congr (CX_new (by omega) (fin_C (N := 60) (by have q9 := kf_6_4 hk; rw [← kd_nat]; exact_mod_cast q9)))
  refine W.widen (k := 1) (n := 60) (by omega) (by omega) ?_
  refine k_putF (v := .ref (o + (n + 1))) (k := n) hx hb hts (fun w h => List.mem_cons_of_mem _ (u_X6 w h)) tyX6 tyX6_ok nmX6 hown hK hG (by omega) CX_at (ci := 5) rfl 4 ⟨by decide, by decide, Nat.le_of_ble_eq_true rfl⟩ hin2 rfl (hts _ (List.mem_cons_of_mem _ fl_RX6_15)) (hd := rfl) (hn := rfl) (hfit := rfl) (hdg := dX6_init_14) (fun H locs hG => ?_)
  have hG : GC D o (CX n C (.inr (5, [.int (J 0), .int (J 0), .int (J (-1)), .int (J 0), .ref (o + (n + 1)), .null])) (fin cy o)) (n + 2) s H locs 1 := hG.congr CX_put
  refine lv_aload_n hx hb dX6_init_17 rfl (lv_at hl 0 rfl) ?_
  refine lv_bipush (v := J 90) hx hb dX6_init_18 (by decide) ?_
  refine k_newI (cy := cy) (N := 90) hx hb (hts _ (List.mem_cons_of_mem _ ac_int)) hK hG rfl (by omega) (by exact Nat.le_of_ble_eq_true rfl) (by exact Nat.le_of_ble_eq_true rfl) dX6_init_20 (fun H hG => ?_)
  have hG : GC D o (CX n C (.inr (5, [.int (J 0), .int (J 0), .int (J (-1)), .int (J 0), .ref (o + (n + 1)), .null])) (fin cy o)) (n + 3) s H locs 2 := hG.congr (CX_new (by omega) (fin_I (N := 90) (by have q9 := kf_6_5 hk; rw [← kd_nat]; exact_mod_cast q9) (by omega)))
  refine W.widen (k := 2) (n := 150) (by omega) (by omega) ?_
  refine k_putF (v := .ref (o + (n + 2))) (k := n) hx hb hts (fun w h => List.mem_cons_of_mem _ (u_X6 w h)) tyX6 tyX6_ok nmX6 hown hK hG (by omega) CX_at (ci := 5) rfl 5 ⟨by decide, by decide, Nat.le_of_ble_eq_true rfl⟩ hin2 rfl (hts _ (List.mem_cons_of_mem _ fl_RX6_19)) (hd := rfl) (hn := rfl) (hfit := rfl) (hdg := dX6_init_22) (fun H locs hG => ?_)
  have hG : GC D o (CX n C (.inr (5, [.int (J 0), .int (J 0), .int (J (-1)), .int (J 0), .ref (o + (n + 1)), .ref (o + (n + 2))])) (fin cy o)) (n + 3) s H locs 2 := hG.congr CX_put
  rw [hQf]
  exact k_vret hx hb hr hlocks hG rfl (CX_out (fO9) (fun _ _ _ => rfl)) (by decide) dX6_init_25

abbrev rm_X8_init : Room := { frames := 1, cells := 1, slots := 60, locals := 12 }
set_option maxRecDepth 100000 in
set_option maxHeartbeats 4000000 in
theorem K_X8 (l : Launch) {D : va_G} {cy : Nat → ClassId} {o n : Nat} {C : Nat → va_E} (hk : kd (n : Int) = 8) (hC : C n = .inr (7, [.int (J 0), .null])) : CoK l yX8_init (wj yX8_init cX8_init 1 none) rm_X8_init D cy o [.ref (o + n)] (n + 1) C (n + 2) (fun i => if i < n then C i else fin cy o i) := by
  refine k_ofW (cc := cX8_init) (maxL := 1) (ret := none) (by decide) rfl (Nat.le_of_ble_eq_true rfl) ?_
  intro p e s m args below meth c hx hb hr hlocks hml hin2 hown hts hK hNX H locs hG ls hl Qf hQf
  have hown : s.vm.findClass RX8 = some m.cls := hown
  have hl : lv_has ls 1 [(0, .ref (o + n))] := hl
  refine lv_aload_n hx hb dX8_init_0 rfl (lv_at hl 0 rfl) ?_
  refine W.objInit hx hb hown (hts _ (List.mem_cons_of_mem _ mo_RX8)) (hts _ (List.mem_cons_of_mem _ i_objInit)) (hts _ (List.mem_cons_of_mem _ k_objInit)) rfl (by rw [hml]; exact hl.1) rfl dX8_init_1 (Nat.le_of_ble_eq_true rfl) (Nat.le_of_ble_eq_true rfl) ?_
  refine W.eq (g2 := F0 m 4 ls []) rfl ?_
  have hG : GC D o (CX n C (.inr (7, [.int (J 0), .null])) (fin cy o)) (n + 1) s H locs 0 := hG.congr (CX_in hC)
  refine lv_aload_n hx hb dX8_init_4 rfl (lv_at hl 0 rfl) ?_
  refine lv_bipush (v := J 60) hx hb dX8_init_5 (by decide) ?_
  refine k_newC (cy := cy) (N := 60) hx hb (hts _ (List.mem_cons_of_mem _ ac_char)) hK hG rfl (by omega) (by exact Nat.le_of_ble_eq_true rfl) (by exact Nat.le_of_ble_eq_true rfl) dX8_init_7 (fun H hG => ?_)
  have hG : GC D o (CX n C (.inr (7, [.int (J 0), .null])) (fin cy o)) (n + 2) s H locs 1 := hG.congr (CX_new (by omega) (fin_C (N := 60) (by have q9 := kf_8_1 hk; rw [← kd_nat]; exact_mod_cast q9)))
  refine W.widen (k := 1) (n := 60) (by omega) (by omega) ?_
  refine k_putF (v := .ref (o + (n + 1))) (k := n) hx hb hts (fun w h => List.mem_cons_of_mem _ (u_X8 w h)) tyX8 tyX8_ok nmX8 hown hK hG (by omega) CX_at (ci := 7) rfl 1 ⟨by decide, by decide, Nat.le_of_ble_eq_true rfl⟩ hin2 rfl (hts _ (List.mem_cons_of_mem _ fl_RX8_9)) (hd := rfl) (hn := rfl) (hfit := rfl) (hdg := dX8_init_9) (fun H locs hG => ?_)
  have hG : GC D o (CX n C (.inr (7, [.int (J 0), .ref (o + (n + 1))])) (fin cy o)) (n + 2) s H locs 1 := hG.congr CX_put
  rw [hQf]
  exact k_vret hx hb hr hlocks hG rfl (CX_out (fO_X8 (by rw [← kd_nat]; exact hk)) (fun _ _ _ => rfl)) (by decide) dX8_init_12

abbrev rm_X11_init : Room := { frames := 1, cells := 21, slots := 18338, locals := 12 }
set_option maxRecDepth 100000 in
set_option maxHeartbeats 4000000 in
theorem K_X11 (l : Launch) {D : va_G} {cy : Nat → ClassId} {o n : Nat} {C : Nat → va_E} (hk : kd (n : Int) = 11) (hn9 : n = 608) (hC : C n = .inr (10, [.int (J 0), .null, .null, .int (J 0), .null, .int (J 0), .null, .null, .int (J 0), .int (J 0), .int (J 0), .null, .int (J 0), .null, .int (J 0), .int (J 0), .null, .null, .int (J 0), .null, .null, .null, .null, .null, .int (J 0), .null, .null, .null, .int (J 0), .int (J 0), .int (J 0), .null, .null, .int (J 0), .null, .null, .int (J 0)])) : CoK l yX11_init (wj yX11_init cX11_init 1 none) rm_X11_init D cy o [.ref (o + n)] (n + 1) C (n + 22) (fun i => if i < n then C i else fin cy o i) := by
  have fO9 : fin cy o n = .inr (10, [.int (J 0), .ref (o + (n + 1)), .ref (o + (n + 2)), .int (J 0), .ref (o + (n + 3)), .int (J 0), .ref (o + (n + 4)), .ref (o + (n + 5)), .int (J 0), .int (J 0), .int (J (-1)), .ref (o + (n + 6)), .int (J 0), .ref (o + (n + 7)), .int (J (-1)), .int (J 0), .ref (o + (n + 8)), .ref (o + (n + 9)), .int (J 0), .ref (o + (n + 10)), .ref (o + (n + 11)), .ref (o + (n + 12)), .ref (o + (n + 13)), .ref (o + (n + 14)), .int (J 0), .ref (o + (n + 15)), .ref (o + (n + 16)), .ref (o + (n + 17)), .int (J 0), .int (J 0), .int (J 0), .ref (o + (n + 18)), .ref (o + (n + 19)), .int (J 0), .ref (o + (n + 20)), .ref (o + (n + 21)), .int (J 0)]) := by clear hC hk; subst hn9; exact fO_X11
  refine k_ofW (cc := cX11_init) (maxL := 1) (ret := none) (by decide) rfl (Nat.le_of_ble_eq_true rfl) ?_
  intro p e s m args below meth c hx hb hr hlocks hml hin2 hown hts hK hNX H locs hG ls hl Qf hQf
  have hown : s.vm.findClass RX11 = some m.cls := hown
  have hl : lv_has ls 1 [(0, .ref (o + n))] := hl
  refine lv_aload_n hx hb dX11_init_0 rfl (lv_at hl 0 rfl) ?_
  refine W.objInit hx hb hown (hts _ (List.mem_cons_of_mem _ mo_RX11)) (hts _ (List.mem_cons_of_mem _ i_objInit)) (hts _ (List.mem_cons_of_mem _ k_objInit)) rfl (by rw [hml]; exact hl.1) rfl dX11_init_1 (Nat.le_of_ble_eq_true rfl) (Nat.le_of_ble_eq_true rfl) ?_
  refine W.eq (g2 := F0 m 4 ls []) rfl ?_
  have hG : GC D o (CX n C (.inr (10, [.int (J 0), .null, .null, .int (J 0), .null, .int (J 0), .null, .null, .int (J 0), .int (J 0), .int (J 0), .null, .int (J 0), .null, .int (J 0), .int (J 0), .null, .null, .int (J 0), .null, .null, .null, .null, .null, .int (J 0), .null, .null, .null, .int (J 0), .int (J 0), .int (J 0), .null, .null, .int (J 0), .null, .null, .int (J 0)])) (fin cy o)) (n + 1) s H locs 0 := hG.congr (CX_in hC)
  refine lv_aload_n hx hb dX11_init_4 rfl (lv_at hl 0 rfl) ?_
  refine lv_sipush (v := J 1294) hx hb dX11_init_5 (by decide) ?_
  refine k_newI (cy := cy) (N := 1294) hx hb (hts _ (List.mem_cons_of_mem _ ac_int)) hK hG rfl (by omega) (by exact Nat.le_of_ble_eq_true rfl) (by exact Nat.le_of_ble_eq_true rfl) dX11_init_8 (fun H hG => ?_)
  have hG : GC D o (CX n C (.inr (10, [.int (J 0), .null, .null, .int (J 0), .null, .int (J 0), .null, .null, .int (J 0), .int (J 0), .int (J 0), .null, .int (J 0), .null, .int (J 0), .int (J 0), .null, .null, .int (J 0), .null, .null, .null, .null, .null, .int (J 0), .null, .null, .null, .int (J 0), .int (J 0), .int (J 0), .null, .null, .int (J 0), .null, .null, .int (J 0)])) (fin cy o)) (n + 2) s H locs 1 := hG.congr (CX_new (by omega) (fin_I (N := 1294) (by have q9 := kf_11_1 hk; rw [← kd_nat]; exact_mod_cast q9) (by omega)))
  refine W.widen (k := 1) (n := 1294) (by omega) (by omega) ?_
  refine k_putF (v := .ref (o + (n + 1))) (k := n) hx hb hts (fun w h => List.mem_cons_of_mem _ (u_X11 w h)) tyX11 tyX11_ok nmX11 hown hK hG (by omega) CX_at (ci := 10) rfl 1 ⟨by decide, by decide, Nat.le_of_ble_eq_true rfl⟩ hin2 rfl (hts _ (List.mem_cons_of_mem _ fl_RX11_9)) (hd := rfl) (hn := rfl) (hfit := rfl) (hdg := dX11_init_10) (fun H locs hG => ?_)
  have hG : GC D o (CX n C (.inr (10, [.int (J 0), .ref (o + (n + 1)), .null, .int (J 0), .null, .int (J 0), .null, .null, .int (J 0), .int (J 0), .int (J 0), .null, .int (J 0), .null, .int (J 0), .int (J 0), .null, .null, .int (J 0), .null, .null, .null, .null, .null, .int (J 0), .null, .null, .null, .int (J 0), .int (J 0), .int (J 0), .null, .null, .int (J 0), .null, .null, .int (J 0)])) (fin cy o)) (n + 2) s H locs 1 := hG.congr CX_put
  refine lv_aload_n hx hb dX11_init_13 rfl (lv_at hl 0 rfl) ?_
  refine lv_sipush (v := J 10352) hx hb dX11_init_14 (by decide) ?_
  refine k_newI (cy := cy) (N := 10352) hx hb (hts _ (List.mem_cons_of_mem _ ac_int)) hK hG rfl (by omega) (by exact Nat.le_of_ble_eq_true rfl) (by exact Nat.le_of_ble_eq_true rfl) dX11_init_17 (fun H hG => ?_)
  have hG : GC D o (CX n C (.inr (10, [.int (J 0), .ref (o + (n + 1)), .null, .int (J 0), .null, .int (J 0), .null, .null, .int (J 0), .int (J 0), .int (J 0), .null, .int (J 0), .null, .int (J 0), .int (J 0), .null, .null, .int (J 0), .null, .null, .null, .null, .null, .int (J 0), .null, .null, .null, .int (J 0), .int (J 0), .int (J 0), .null, .null, .int (J 0), .null, .null, .int (J 0)])) (fin cy o)) (n + 3) s H locs 2 := hG.congr (CX_new (by omega) (fin_I (N := 10352) (by have q9 := kf_11_2 hk; rw [← kd_nat]; exact_mod_cast q9) (by omega)))
  refine W.widen (k := 2) (n := 11646) (by omega) (by omega) ?_
  refine k_putF (v := .ref (o + (n + 2))) (k := n) hx hb hts (fun w h => List.mem_cons_of_mem _ (u_X11 w h)) tyX11 tyX11_ok nmX11 hown hK hG (by omega) CX_at (ci := 10) rfl 2 ⟨by decide, by decide, Nat.le_of_ble_eq_true rfl⟩ hin2 rfl (hts _ (List.mem_cons_of_mem _ fl_RX11_13)) (hd := rfl) (hn := rfl) (hfit := rfl) (hdg := dX11_init_19) (fun H locs hG => ?_)
  have hG : GC D o (CX n C (.inr (10, [.int (J 0), .ref (o + (n + 1)), .ref (o + (n + 2)), .int (J 0), .null, .int (J 0), .null, .null, .int (J 0), .int (J 0), .int (J 0), .null, .int (J 0), .null, .int (J 0), .int (J 0), .null, .null, .int (J 0), .null, .null, .null, .null, .null, .int (J 0), .null, .null, .null, .int (J 0), .int (J 0), .int (J 0), .null, .null, .int (J 0), .null, .null, .int (J 0)])) (fin cy o)) (n + 3) s H locs 2 := hG.congr CX_put
  refine lv_aload_n hx hb dX11_init_22 rfl (lv_at hl 0 rfl) ?_
  refine lv_sipush (v := J 1294) hx hb dX11_init_23 (by decide) ?_
  refine k_newI (cy := cy) (N := 1294) hx hb (hts _ (List.mem_cons_of_mem _ ac_int)) hK hG rfl (by omega) (by exact Nat.le_of_ble_eq_true rfl) (by exact Nat.le_of_ble_eq_true rfl) dX11_init_26 (fun H hG => ?_)
  have hG : GC D o (CX n C (.inr (10, [.int (J 0), .ref (o + (n + 1)), .ref (o + (n + 2)), .int (J 0), .null, .int (J 0), .null, .null, .int (J 0), .int (J 0), .int (J 0), .null, .int (J 0), .null, .int (J 0), .int (J 0), .null, .null, .int (J 0), .null, .null, .null, .null, .null, .int (J 0), .null, .null, .null, .int (J 0), .int (J 0), .int (J 0), .null, .null, .int (J 0), .null, .null, .int (J 0)])) (fin cy o)) (n + 4) s H locs 3 := hG.congr (CX_new (by omega) (fin_I (N := 1294) (by have q9 := kf_11_4 hk; rw [← kd_nat]; exact_mod_cast q9) (by omega)))
  refine W.widen (k := 3) (n := 12940) (by omega) (by omega) ?_
  refine k_putF (v := .ref (o + (n + 3))) (k := n) hx hb hts (fun w h => List.mem_cons_of_mem _ (u_X11 w h)) tyX11 tyX11_ok nmX11 hown hK hG (by omega) CX_at (ci := 10) rfl 4 ⟨by decide, by decide, Nat.le_of_ble_eq_true rfl⟩ hin2 rfl (hts _ (List.mem_cons_of_mem _ fl_RX11_16)) (hd := rfl) (hn := rfl) (hfit := rfl) (hdg := dX11_init_28) (fun H locs hG => ?_)
  have hG : GC D o (CX n C (.inr (10, [.int (J 0), .ref (o + (n + 1)), .ref (o + (n + 2)), .int (J 0), .ref (o + (n + 3)), .int (J 0), .null, .null, .int (J 0), .int (J 0), .int (J 0), .null, .int (J 0), .null, .int (J 0), .int (J 0), .null, .null, .int (J 0), .null, .null, .null, .null, .null, .int (J 0), .null, .null, .null, .int (J 0), .int (J 0), .int (J 0), .null, .null, .int (J 0), .null, .null, .int (J 0)])) (fin cy o)) (n + 4) s H locs 3 := hG.congr CX_put
  refine lv_aload_n hx hb dX11_init_31 rfl (lv_at hl 0 rfl) ?_
  refine lv_sipush (v := J 1294) hx hb dX11_init_32 (by decide) ?_
  refine k_newI (cy := cy) (N := 1294) hx hb (hts _ (List.mem_cons_of_mem _ ac_int)) hK hG rfl (by omega) (by exact Nat.le_of_ble_eq_true rfl) (by exact Nat.le_of_ble_eq_true rfl) dX11_init_35 (fun H hG => ?_)
  have hG : GC D o (CX n C (.inr (10, [.int (J 0), .ref (o + (n + 1)), .ref (o + (n + 2)), .int (J 0), .ref (o + (n + 3)), .int (J 0), .null, .null, .int (J 0), .int (J 0), .int (J 0), .null, .int (J 0), .null, .int (J 0), .int (J 0), .null, .null, .int (J 0), .null, .null, .null, .null, .null, .int (J 0), .null, .null, .null, .int (J 0), .int (J 0), .int (J 0), .null, .null, .int (J 0), .null, .null, .int (J 0)])) (fin cy o)) (n + 5) s H locs 4 := hG.congr (CX_new (by omega) (fin_I (N := 1294) (by have q9 := kf_11_6 hk; rw [← kd_nat]; exact_mod_cast q9) (by omega)))
  refine W.widen (k := 4) (n := 14234) (by omega) (by omega) ?_
  refine k_putF (v := .ref (o + (n + 4))) (k := n) hx hb hts (fun w h => List.mem_cons_of_mem _ (u_X11 w h)) tyX11 tyX11_ok nmX11 hown hK hG (by omega) CX_at (ci := 10) rfl 6 ⟨by decide, by decide, Nat.le_of_ble_eq_true rfl⟩ hin2 rfl (hts _ (List.mem_cons_of_mem _ fl_RX11_19)) (hd := rfl) (hn := rfl) (hfit := rfl) (hdg := dX11_init_37) (fun H locs hG => ?_)
  have hG : GC D o (CX n C (.inr (10, [.int (J 0), .ref (o + (n + 1)), .ref (o + (n + 2)), .int (J 0), .ref (o + (n + 3)), .int (J 0), .ref (o + (n + 4)), .null, .int (J 0), .int (J 0), .int (J 0), .null, .int (J 0), .null, .int (J 0), .int (J 0), .null, .null, .int (J 0), .null, .null, .null, .null, .null, .int (J 0), .null, .null, .null, .int (J 0), .int (J 0), .int (J 0), .null, .null, .int (J 0), .null, .null, .int (J 0)])) (fin cy o)) (n + 5) s H locs 4 := hG.congr CX_put
  refine lv_aload_n hx hb dX11_init_40 rfl (lv_at hl 0 rfl) ?_
  refine lv_bipush (v := J 60) hx hb dX11_init_41 (by decide) ?_
  refine k_newI (cy := cy) (N := 60) hx hb (hts _ (List.mem_cons_of_mem _ ac_int)) hK hG rfl (by omega) (by exact Nat.le_of_ble_eq_true rfl) (by exact Nat.le_of_ble_eq_true rfl) dX11_init_43 (fun H hG => ?_)
  have hG : GC D o (CX n C (.inr (10, [.int (J 0), .ref (o + (n + 1)), .ref (o + (n + 2)), .int (J 0), .ref (o + (n + 3)), .int (J 0), .ref (o + (n + 4)), .null, .int (J 0), .int (J 0), .int (J 0), .null, .int (J 0), .null, .int (J 0), .int (J 0), .null, .null, .int (J 0), .null, .null, .null, .null, .null, .int (J 0), .null, .null, .null, .int (J 0), .int (J 0), .int (J 0), .null, .null, .int (J 0), .null, .null, .int (J 0)])) (fin cy o)) (n + 6) s H locs 5 := hG.congr (CX_new (by omega) (fin_I (N := 60) (by have q9 := kf_11_7 hk; rw [← kd_nat]; exact_mod_cast q9) (by omega)))
  refine W.widen (k := 5) (n := 14294) (by omega) (by omega) ?_
  refine k_putF (v := .ref (o + (n + 5))) (k := n) hx hb hts (fun w h => List.mem_cons_of_mem _ (u_X11 w h)) tyX11 tyX11_ok nmX11 hown hK hG (by omega) CX_at (ci := 10) rfl 7 ⟨by decide, by decide, Nat.le_of_ble_eq_true rfl⟩ hin2 rfl (hts _ (List.mem_cons_of_mem _ fl_RX11_22)) (hd := rfl) (hn := rfl) (hfit := rfl) (hdg := dX11_init_45) (fun H locs hG => ?_)
  have hG : GC D o (CX n C (.inr (10, [.int (J 0), .ref (o + (n + 1)), .ref (o + (n + 2)), .int (J 0), .ref (o + (n + 3)), .int (J 0), .ref (o + (n + 4)), .ref (o + (n + 5)), .int (J 0), .int (J 0), .int (J 0), .null, .int (J 0), .null, .int (J 0), .int (J 0), .null, .null, .int (J 0), .null, .null, .null, .null, .null, .int (J 0), .null, .null, .null, .int (J 0), .int (J 0), .int (J 0), .null, .null, .int (J 0), .null, .null, .int (J 0)])) (fin cy o)) (n + 6) s H locs 5 := hG.congr CX_put
  refine lv_aload_n hx hb dX11_init_48 rfl (lv_at hl 0 rfl) ?_
  refine lv_iconst (v := J (-1)) hx hb dX11_init_49 (by decide) ?_
  refine k_put (v := .int (J (-1))) (k := n) hx hb hts (fun w h => List.mem_cons_of_mem _ (u_X11 w h)) tyX11 tyX11_ok nmX11 hown hK hG (by omega) CX_at (ci := 10) rfl 10 ⟨by decide, by decide, Nat.le_of_ble_eq_true rfl⟩ (hts _ (List.mem_cons_of_mem _ fl_RX11_25)) (hd := rfl) (hn := rfl) (hfit := rfl) (hdg := dX11_init_50) (fun H locs hG => ?_)
  have hG : GC D o (CX n C (.inr (10, [.int (J 0), .ref (o + (n + 1)), .ref (o + (n + 2)), .int (J 0), .ref (o + (n + 3)), .int (J 0), .ref (o + (n + 4)), .ref (o + (n + 5)), .int (J 0), .int (J 0), .int (J (-1)), .null, .int (J 0), .null, .int (J 0), .int (J 0), .null, .null, .int (J 0), .null, .null, .null, .null, .null, .int (J 0), .null, .null, .null, .int (J 0), .int (J 0), .int (J 0), .null, .null, .int (J 0), .null, .null, .int (J 0)])) (fin cy o)) (n + 6) s H locs 5 := hG.congr CX_put
  refine lv_aload_n hx hb dX11_init_53 rfl (lv_at hl 0 rfl) ?_
  refine lv_bipush (v := J 60) hx hb dX11_init_54 (by decide) ?_
  refine k_newI (cy := cy) (N := 60) hx hb (hts _ (List.mem_cons_of_mem _ ac_int)) hK hG rfl (by omega) (by exact Nat.le_of_ble_eq_true rfl) (by exact Nat.le_of_ble_eq_true rfl) dX11_init_56 (fun H hG => ?_)
  have hG : GC D o (CX n C (.inr (10, [.int (J 0), .ref (o + (n + 1)), .ref (o + (n + 2)), .int (J 0), .ref (o + (n + 3)), .int (J 0), .ref (o + (n + 4)), .ref (o + (n + 5)), .int (J 0), .int (J 0), .int (J (-1)), .null, .int (J 0), .null, .int (J 0), .int (J 0), .null, .null, .int (J 0), .null, .null, .null, .null, .null, .int (J 0), .null, .null, .null, .int (J 0), .int (J 0), .int (J 0), .null, .null, .int (J 0), .null, .null, .int (J 0)])) (fin cy o)) (n + 7) s H locs 6 := hG.congr (CX_new (by omega) (fin_I (N := 60) (by have q9 := kf_11_11 hk; rw [← kd_nat]; exact_mod_cast q9) (by omega)))
  refine W.widen (k := 6) (n := 14354) (by omega) (by omega) ?_
  refine k_putF (v := .ref (o + (n + 6))) (k := n) hx hb hts (fun w h => List.mem_cons_of_mem _ (u_X11 w h)) tyX11 tyX11_ok nmX11 hown hK hG (by omega) CX_at (ci := 10) rfl 11 ⟨by decide, by decide, Nat.le_of_ble_eq_true rfl⟩ hin2 rfl (hts _ (List.mem_cons_of_mem _ fl_RX11_29)) (hd := rfl) (hn := rfl) (hfit := rfl) (hdg := dX11_init_58) (fun H locs hG => ?_)
  have hG : GC D o (CX n C (.inr (10, [.int (J 0), .ref (o + (n + 1)), .ref (o + (n + 2)), .int (J 0), .ref (o + (n + 3)), .int (J 0), .ref (o + (n + 4)), .ref (o + (n + 5)), .int (J 0), .int (J 0), .int (J (-1)), .ref (o + (n + 6)), .int (J 0), .null, .int (J 0), .int (J 0), .null, .null, .int (J 0), .null, .null, .null, .null, .null, .int (J 0), .null, .null, .null, .int (J 0), .int (J 0), .int (J 0), .null, .null, .int (J 0), .null, .null, .int (J 0)])) (fin cy o)) (n + 7) s H locs 6 := hG.congr CX_put
  refine lv_aload_n hx hb dX11_init_61 rfl (lv_at hl 0 rfl) ?_
  refine lv_bipush (v := J 8) hx hb dX11_init_62 (by decide) ?_
  refine k_newI (cy := cy) (N := 8) hx hb (hts _ (List.mem_cons_of_mem _ ac_int)) hK hG rfl (by omega) (by exact Nat.le_of_ble_eq_true rfl) (by exact Nat.le_of_ble_eq_true rfl) dX11_init_64 (fun H hG => ?_)
  have hG : GC D o (CX n C (.inr (10, [.int (J 0), .ref (o + (n + 1)), .ref (o + (n + 2)), .int (J 0), .ref (o + (n + 3)), .int (J 0), .ref (o + (n + 4)), .ref (o + (n + 5)), .int (J 0), .int (J 0), .int (J (-1)), .ref (o + (n + 6)), .int (J 0), .null, .int (J 0), .int (J 0), .null, .null, .int (J 0), .null, .null, .null, .null, .null, .int (J 0), .null, .null, .null, .int (J 0), .int (J 0), .int (J 0), .null, .null, .int (J 0), .null, .null, .int (J 0)])) (fin cy o)) (n + 8) s H locs 7 := hG.congr (CX_new (by omega) (fin_I (N := 8) (by have q9 := kf_11_13 hk; rw [← kd_nat]; exact_mod_cast q9) (by omega)))
  refine W.widen (k := 7) (n := 14362) (by omega) (by omega) ?_
  refine k_putF (v := .ref (o + (n + 7))) (k := n) hx hb hts (fun w h => List.mem_cons_of_mem _ (u_X11 w h)) tyX11 tyX11_ok nmX11 hown hK hG (by omega) CX_at (ci := 10) rfl 13 ⟨by decide, by decide, Nat.le_of_ble_eq_true rfl⟩ hin2 rfl (hts _ (List.mem_cons_of_mem _ fl_RX11_32)) (hd := rfl) (hn := rfl) (hfit := rfl) (hdg := dX11_init_66) (fun H locs hG => ?_)
  have hG : GC D o (CX n C (.inr (10, [.int (J 0), .ref (o + (n + 1)), .ref (o + (n + 2)), .int (J 0), .ref (o + (n + 3)), .int (J 0), .ref (o + (n + 4)), .ref (o + (n + 5)), .int (J 0), .int (J 0), .int (J (-1)), .ref (o + (n + 6)), .int (J 0), .ref (o + (n + 7)), .int (J 0), .int (J 0), .null, .null, .int (J 0), .null, .null, .null, .null, .null, .int (J 0), .null, .null, .null, .int (J 0), .int (J 0), .int (J 0), .null, .null, .int (J 0), .null, .null, .int (J 0)])) (fin cy o)) (n + 8) s H locs 7 := hG.congr CX_put
  refine lv_aload_n hx hb dX11_init_69 rfl (lv_at hl 0 rfl) ?_
  refine lv_iconst (v := J (-1)) hx hb dX11_init_70 (by decide) ?_
  refine k_put (v := .int (J (-1))) (k := n) hx hb hts (fun w h => List.mem_cons_of_mem _ (u_X11 w h)) tyX11 tyX11_ok nmX11 hown hK hG (by omega) CX_at (ci := 10) rfl 14 ⟨by decide, by decide, Nat.le_of_ble_eq_true rfl⟩ (hts _ (List.mem_cons_of_mem _ fl_RX11_35)) (hd := rfl) (hn := rfl) (hfit := rfl) (hdg := dX11_init_71) (fun H locs hG => ?_)
  have hG : GC D o (CX n C (.inr (10, [.int (J 0), .ref (o + (n + 1)), .ref (o + (n + 2)), .int (J 0), .ref (o + (n + 3)), .int (J 0), .ref (o + (n + 4)), .ref (o + (n + 5)), .int (J 0), .int (J 0), .int (J (-1)), .ref (o + (n + 6)), .int (J 0), .ref (o + (n + 7)), .int (J (-1)), .int (J 0), .null, .null, .int (J 0), .null, .null, .null, .null, .null, .int (J 0), .null, .null, .null, .int (J 0), .int (J 0), .int (J 0), .null, .null, .int (J 0), .null, .null, .int (J 0)])) (fin cy o)) (n + 8) s H locs 7 := hG.congr CX_put
  refine lv_aload_n hx hb dX11_init_74 rfl (lv_at hl 0 rfl) ?_
  refine lv_sipush (v := J 261) hx hb dX11_init_75 (by decide) ?_
  refine k_newI (cy := cy) (N := 261) hx hb (hts _ (List.mem_cons_of_mem _ ac_int)) hK hG rfl (by omega) (by exact Nat.le_of_ble_eq_true rfl) (by exact Nat.le_of_ble_eq_true rfl) dX11_init_78 (fun H hG => ?_)
  have hG : GC D o (CX n C (.inr (10, [.int (J 0), .ref (o + (n + 1)), .ref (o + (n + 2)), .int (J 0), .ref (o + (n + 3)), .int (J 0), .ref (o + (n + 4)), .ref (o + (n + 5)), .int (J 0), .int (J 0), .int (J (-1)), .ref (o + (n + 6)), .int (J 0), .ref (o + (n + 7)), .int (J (-1)), .int (J 0), .null, .null, .int (J 0), .null, .null, .null, .null, .null, .int (J 0), .null, .null, .null, .int (J 0), .int (J 0), .int (J 0), .null, .null, .int (J 0), .null, .null, .int (J 0)])) (fin cy o)) (n + 9) s H locs 8 := hG.congr (CX_new (by omega) (fin_I (N := 261) (by have q9 := kf_11_16 hk; rw [← kd_nat]; exact_mod_cast q9) (by omega)))
  refine W.widen (k := 8) (n := 14623) (by omega) (by omega) ?_
  refine k_putF (v := .ref (o + (n + 8))) (k := n) hx hb hts (fun w h => List.mem_cons_of_mem _ (u_X11 w h)) tyX11 tyX11_ok nmX11 hown hK hG (by omega) CX_at (ci := 10) rfl 16 ⟨by decide, by decide, Nat.le_of_ble_eq_true rfl⟩ hin2 rfl (hts _ (List.mem_cons_of_mem _ fl_RX11_38)) (hd := rfl) (hn := rfl) (hfit := rfl) (hdg := dX11_init_80) (fun H locs hG => ?_)
  have hG : GC D o (CX n C (.inr (10, [.int (J 0), .ref (o + (n + 1)), .ref (o + (n + 2)), .int (J 0), .ref (o + (n + 3)), .int (J 0), .ref (o + (n + 4)), .ref (o + (n + 5)), .int (J 0), .int (J 0), .int (J (-1)), .ref (o + (n + 6)), .int (J 0), .ref (o + (n + 7)), .int (J (-1)), .int (J 0), .ref (o + (n + 8)), .null, .int (J 0), .null, .null, .null, .null, .null, .int (J 0), .null, .null, .null, .int (J 0), .int (J 0), .int (J 0), .null, .null, .int (J 0), .null, .null, .int (J 0)])) (fin cy o)) (n + 9) s H locs 8 := hG.congr CX_put
  refine lv_aload_n hx hb dX11_init_83 rfl (lv_at hl 0 rfl) ?_
  refine lv_sipush (v := J 261) hx hb dX11_init_84 (by decide) ?_
  refine k_newI (cy := cy) (N := 261) hx hb (hts _ (List.mem_cons_of_mem _ ac_int)) hK hG rfl (by omega) (by exact Nat.le_of_ble_eq_true rfl) (by exact Nat.le_of_ble_eq_true rfl) dX11_init_87 (fun H hG => ?_)
  have hG : GC D o (CX n C (.inr (10, [.int (J 0), .ref (o + (n + 1)), .ref (o + (n + 2)), .int (J 0), .ref (o + (n + 3)), .int (J 0), .ref (o + (n + 4)), .ref (o + (n + 5)), .int (J 0), .int (J 0), .int (J (-1)), .ref (o + (n + 6)), .int (J 0), .ref (o + (n + 7)), .int (J (-1)), .int (J 0), .ref (o + (n + 8)), .null, .int (J 0), .null, .null, .null, .null, .null, .int (J 0), .null, .null, .null, .int (J 0), .int (J 0), .int (J 0), .null, .null, .int (J 0), .null, .null, .int (J 0)])) (fin cy o)) (n + 10) s H locs 9 := hG.congr (CX_new (by omega) (fin_I (N := 261) (by have q9 := kf_11_17 hk; rw [← kd_nat]; exact_mod_cast q9) (by omega)))
  refine W.widen (k := 9) (n := 14884) (by omega) (by omega) ?_
  refine k_putF (v := .ref (o + (n + 9))) (k := n) hx hb hts (fun w h => List.mem_cons_of_mem _ (u_X11 w h)) tyX11 tyX11_ok nmX11 hown hK hG (by omega) CX_at (ci := 10) rfl 17 ⟨by decide, by decide, Nat.le_of_ble_eq_true rfl⟩ hin2 rfl (hts _ (List.mem_cons_of_mem _ fl_RX11_41)) (hd := rfl) (hn := rfl) (hfit := rfl) (hdg := dX11_init_89) (fun H locs hG => ?_)
  have hG : GC D o (CX n C (.inr (10, [.int (J 0), .ref (o + (n + 1)), .ref (o + (n + 2)), .int (J 0), .ref (o + (n + 3)), .int (J 0), .ref (o + (n + 4)), .ref (o + (n + 5)), .int (J 0), .int (J 0), .int (J (-1)), .ref (o + (n + 6)), .int (J 0), .ref (o + (n + 7)), .int (J (-1)), .int (J 0), .ref (o + (n + 8)), .ref (o + (n + 9)), .int (J 0), .null, .null, .null, .null, .null, .int (J 0), .null, .null, .null, .int (J 0), .int (J 0), .int (J 0), .null, .null, .int (J 0), .null, .null, .int (J 0)])) (fin cy o)) (n + 10) s H locs 9 := hG.congr CX_put
  refine lv_aload_n hx hb dX11_init_92 rfl (lv_at hl 0 rfl) ?_
  refine lv_sipush (v := J 261) hx hb dX11_init_93 (by decide) ?_
  refine k_newI (cy := cy) (N := 261) hx hb (hts _ (List.mem_cons_of_mem _ ac_int)) hK hG rfl (by omega) (by exact Nat.le_of_ble_eq_true rfl) (by exact Nat.le_of_ble_eq_true rfl) dX11_init_96 (fun H hG => ?_)
  have hG : GC D o (CX n C (.inr (10, [.int (J 0), .ref (o + (n + 1)), .ref (o + (n + 2)), .int (J 0), .ref (o + (n + 3)), .int (J 0), .ref (o + (n + 4)), .ref (o + (n + 5)), .int (J 0), .int (J 0), .int (J (-1)), .ref (o + (n + 6)), .int (J 0), .ref (o + (n + 7)), .int (J (-1)), .int (J 0), .ref (o + (n + 8)), .ref (o + (n + 9)), .int (J 0), .null, .null, .null, .null, .null, .int (J 0), .null, .null, .null, .int (J 0), .int (J 0), .int (J 0), .null, .null, .int (J 0), .null, .null, .int (J 0)])) (fin cy o)) (n + 11) s H locs 10 := hG.congr (CX_new (by omega) (fin_I (N := 261) (by have q9 := kf_11_19 hk; rw [← kd_nat]; exact_mod_cast q9) (by omega)))
  refine W.widen (k := 10) (n := 15145) (by omega) (by omega) ?_
  refine k_putF (v := .ref (o + (n + 10))) (k := n) hx hb hts (fun w h => List.mem_cons_of_mem _ (u_X11 w h)) tyX11 tyX11_ok nmX11 hown hK hG (by omega) CX_at (ci := 10) rfl 19 ⟨by decide, by decide, Nat.le_of_ble_eq_true rfl⟩ hin2 rfl (hts _ (List.mem_cons_of_mem _ fl_RX11_44)) (hd := rfl) (hn := rfl) (hfit := rfl) (hdg := dX11_init_98) (fun H locs hG => ?_)
  have hG : GC D o (CX n C (.inr (10, [.int (J 0), .ref (o + (n + 1)), .ref (o + (n + 2)), .int (J 0), .ref (o + (n + 3)), .int (J 0), .ref (o + (n + 4)), .ref (o + (n + 5)), .int (J 0), .int (J 0), .int (J (-1)), .ref (o + (n + 6)), .int (J 0), .ref (o + (n + 7)), .int (J (-1)), .int (J 0), .ref (o + (n + 8)), .ref (o + (n + 9)), .int (J 0), .ref (o + (n + 10)), .null, .null, .null, .null, .int (J 0), .null, .null, .null, .int (J 0), .int (J 0), .int (J 0), .null, .null, .int (J 0), .null, .null, .int (J 0)])) (fin cy o)) (n + 11) s H locs 10 := hG.congr CX_put
  refine lv_aload_n hx hb dX11_init_101 rfl (lv_at hl 0 rfl) ?_
  refine lv_sipush (v := J 261) hx hb dX11_init_102 (by decide) ?_
  refine k_newI (cy := cy) (N := 261) hx hb (hts _ (List.mem_cons_of_mem _ ac_int)) hK hG rfl (by omega) (by exact Nat.le_of_ble_eq_true rfl) (by exact Nat.le_of_ble_eq_true rfl) dX11_init_105 (fun H hG => ?_)
  have hG : GC D o (CX n C (.inr (10, [.int (J 0), .ref (o + (n + 1)), .ref (o + (n + 2)), .int (J 0), .ref (o + (n + 3)), .int (J 0), .ref (o + (n + 4)), .ref (o + (n + 5)), .int (J 0), .int (J 0), .int (J (-1)), .ref (o + (n + 6)), .int (J 0), .ref (o + (n + 7)), .int (J (-1)), .int (J 0), .ref (o + (n + 8)), .ref (o + (n + 9)), .int (J 0), .ref (o + (n + 10)), .null, .null, .null, .null, .int (J 0), .null, .null, .null, .int (J 0), .int (J 0), .int (J 0), .null, .null, .int (J 0), .null, .null, .int (J 0)])) (fin cy o)) (n + 12) s H locs 11 := hG.congr (CX_new (by omega) (fin_I (N := 261) (by have q9 := kf_11_20 hk; rw [← kd_nat]; exact_mod_cast q9) (by omega)))
  refine W.widen (k := 11) (n := 15406) (by omega) (by omega) ?_
  refine k_putF (v := .ref (o + (n + 11))) (k := n) hx hb hts (fun w h => List.mem_cons_of_mem _ (u_X11 w h)) tyX11 tyX11_ok nmX11 hown hK hG (by omega) CX_at (ci := 10) rfl 20 ⟨by decide, by decide, Nat.le_of_ble_eq_true rfl⟩ hin2 rfl (hts _ (List.mem_cons_of_mem _ fl_RX11_47)) (hd := rfl) (hn := rfl) (hfit := rfl) (hdg := dX11_init_107) (fun H locs hG => ?_)
  have hG : GC D o (CX n C (.inr (10, [.int (J 0), .ref (o + (n + 1)), .ref (o + (n + 2)), .int (J 0), .ref (o + (n + 3)), .int (J 0), .ref (o + (n + 4)), .ref (o + (n + 5)), .int (J 0), .int (J 0), .int (J (-1)), .ref (o + (n + 6)), .int (J 0), .ref (o + (n + 7)), .int (J (-1)), .int (J 0), .ref (o + (n + 8)), .ref (o + (n + 9)), .int (J 0), .ref (o + (n + 10)), .ref (o + (n + 11)), .null, .null, .null, .int (J 0), .null, .null, .null, .int (J 0), .int (J 0), .int (J 0), .null, .null, .int (J 0), .null, .null, .int (J 0)])) (fin cy o)) (n + 12) s H locs 11 := hG.congr CX_put
  refine lv_aload_n hx hb dX11_init_110 rfl (lv_at hl 0 rfl) ?_
  refine lv_sipush (v := J 261) hx hb dX11_init_111 (by decide) ?_
  refine k_newI (cy := cy) (N := 261) hx hb (hts _ (List.mem_cons_of_mem _ ac_int)) hK hG rfl (by omega) (by exact Nat.le_of_ble_eq_true rfl) (by exact Nat.le_of_ble_eq_true rfl) dX11_init_114 (fun H hG => ?_)
  have hG : GC D o (CX n C (.inr (10, [.int (J 0), .ref (o + (n + 1)), .ref (o + (n + 2)), .int (J 0), .ref (o + (n + 3)), .int (J 0), .ref (o + (n + 4)), .ref (o + (n + 5)), .int (J 0), .int (J 0), .int (J (-1)), .ref (o + (n + 6)), .int (J 0), .ref (o + (n + 7)), .int (J (-1)), .int (J 0), .ref (o + (n + 8)), .ref (o + (n + 9)), .int (J 0), .ref (o + (n + 10)), .ref (o + (n + 11)), .null, .null, .null, .int (J 0), .null, .null, .null, .int (J 0), .int (J 0), .int (J 0), .null, .null, .int (J 0), .null, .null, .int (J 0)])) (fin cy o)) (n + 13) s H locs 12 := hG.congr (CX_new (by omega) (fin_I (N := 261) (by have q9 := kf_11_21 hk; rw [← kd_nat]; exact_mod_cast q9) (by omega)))
  refine W.widen (k := 12) (n := 15667) (by omega) (by omega) ?_
  refine k_putF (v := .ref (o + (n + 12))) (k := n) hx hb hts (fun w h => List.mem_cons_of_mem _ (u_X11 w h)) tyX11 tyX11_ok nmX11 hown hK hG (by omega) CX_at (ci := 10) rfl 21 ⟨by decide, by decide, Nat.le_of_ble_eq_true rfl⟩ hin2 rfl (hts _ (List.mem_cons_of_mem _ fl_RX11_50)) (hd := rfl) (hn := rfl) (hfit := rfl) (hdg := dX11_init_116) (fun H locs hG => ?_)
  have hG : GC D o (CX n C (.inr (10, [.int (J 0), .ref (o + (n + 1)), .ref (o + (n + 2)), .int (J 0), .ref (o + (n + 3)), .int (J 0), .ref (o + (n + 4)), .ref (o + (n + 5)), .int (J 0), .int (J 0), .int (J (-1)), .ref (o + (n + 6)), .int (J 0), .ref (o + (n + 7)), .int (J (-1)), .int (J 0), .ref (o + (n + 8)), .ref (o + (n + 9)), .int (J 0), .ref (o + (n + 10)), .ref (o + (n + 11)), .ref (o + (n + 12)), .null, .null, .int (J 0), .null, .null, .null, .int (J 0), .int (J 0), .int (J 0), .null, .null, .int (J 0), .null, .null, .int (J 0)])) (fin cy o)) (n + 13) s H locs 12 := hG.congr CX_put
  refine lv_aload_n hx hb dX11_init_119 rfl (lv_at hl 0 rfl) ?_
  refine lv_sipush (v := J 261) hx hb dX11_init_120 (by decide) ?_
  refine k_newI (cy := cy) (N := 261) hx hb (hts _ (List.mem_cons_of_mem _ ac_int)) hK hG rfl (by omega) (by exact Nat.le_of_ble_eq_true rfl) (by exact Nat.le_of_ble_eq_true rfl) dX11_init_123 (fun H hG => ?_)
  have hG : GC D o (CX n C (.inr (10, [.int (J 0), .ref (o + (n + 1)), .ref (o + (n + 2)), .int (J 0), .ref (o + (n + 3)), .int (J 0), .ref (o + (n + 4)), .ref (o + (n + 5)), .int (J 0), .int (J 0), .int (J (-1)), .ref (o + (n + 6)), .int (J 0), .ref (o + (n + 7)), .int (J (-1)), .int (J 0), .ref (o + (n + 8)), .ref (o + (n + 9)), .int (J 0), .ref (o + (n + 10)), .ref (o + (n + 11)), .ref (o + (n + 12)), .null, .null, .int (J 0), .null, .null, .null, .int (J 0), .int (J 0), .int (J 0), .null, .null, .int (J 0), .null, .null, .int (J 0)])) (fin cy o)) (n + 14) s H locs 13 := hG.congr (CX_new (by omega) (fin_I (N := 261) (by have q9 := kf_11_22 hk; rw [← kd_nat]; exact_mod_cast q9) (by omega)))
  refine W.widen (k := 13) (n := 15928) (by omega) (by omega) ?_
  refine k_putF (v := .ref (o + (n + 13))) (k := n) hx hb hts (fun w h => List.mem_cons_of_mem _ (u_X11 w h)) tyX11 tyX11_ok nmX11 hown hK hG (by omega) CX_at (ci := 10) rfl 22 ⟨by decide, by decide, Nat.le_of_ble_eq_true rfl⟩ hin2 rfl (hts _ (List.mem_cons_of_mem _ fl_RX11_53)) (hd := rfl) (hn := rfl) (hfit := rfl) (hdg := dX11_init_125) (fun H locs hG => ?_)
  have hG : GC D o (CX n C (.inr (10, [.int (J 0), .ref (o + (n + 1)), .ref (o + (n + 2)), .int (J 0), .ref (o + (n + 3)), .int (J 0), .ref (o + (n + 4)), .ref (o + (n + 5)), .int (J 0), .int (J 0), .int (J (-1)), .ref (o + (n + 6)), .int (J 0), .ref (o + (n + 7)), .int (J (-1)), .int (J 0), .ref (o + (n + 8)), .ref (o + (n + 9)), .int (J 0), .ref (o + (n + 10)), .ref (o + (n + 11)), .ref (o + (n + 12)), .ref (o + (n + 13)), .null, .int (J 0), .null, .null, .null, .int (J 0), .int (J 0), .int (J 0), .null, .null, .int (J 0), .null, .null, .int (J 0)])) (fin cy o)) (n + 14) s H locs 13 := hG.congr CX_put
  refine lv_aload_n hx hb dX11_init_128 rfl (lv_at hl 0 rfl) ?_
  refine lv_sipush (v := J 261) hx hb dX11_init_129 (by decide) ?_
  refine k_newI (cy := cy) (N := 261) hx hb (hts _ (List.mem_cons_of_mem _ ac_int)) hK hG rfl (by omega) (by exact Nat.le_of_ble_eq_true rfl) (by exact Nat.le_of_ble_eq_true rfl) dX11_init_132 (fun H hG => ?_)
  have hG : GC D o (CX n C (.inr (10, [.int (J 0), .ref (o + (n + 1)), .ref (o + (n + 2)), .int (J 0), .ref (o + (n + 3)), .int (J 0), .ref (o + (n + 4)), .ref (o + (n + 5)), .int (J 0), .int (J 0), .int (J (-1)), .ref (o + (n + 6)), .int (J 0), .ref (o + (n + 7)), .int (J (-1)), .int (J 0), .ref (o + (n + 8)), .ref (o + (n + 9)), .int (J 0), .ref (o + (n + 10)), .ref (o + (n + 11)), .ref (o + (n + 12)), .ref (o + (n + 13)), .null, .int (J 0), .null, .null, .null, .int (J 0), .int (J 0), .int (J 0), .null, .null, .int (J 0), .null, .null, .int (J 0)])) (fin cy o)) (n + 15) s H locs 14 := hG.congr (CX_new (by omega) (fin_I (N := 261) (by have q9 := kf_11_23 hk; rw [← kd_nat]; exact_mod_cast q9) (by omega)))
  refine W.widen (k := 14) (n := 16189) (by omega) (by omega) ?_
  refine k_putF (v := .ref (o + (n + 14))) (k := n) hx hb hts (fun w h => List.mem_cons_of_mem _ (u_X11 w h)) tyX11 tyX11_ok nmX11 hown hK hG (by omega) CX_at (ci := 10) rfl 23 ⟨by decide, by decide, Nat.le_of_ble_eq_true rfl⟩ hin2 rfl (hts _ (List.mem_cons_of_mem _ fl_RX11_56)) (hd := rfl) (hn := rfl) (hfit := rfl) (hdg := dX11_init_134) (fun H locs hG => ?_)
  have hG : GC D o (CX n C (.inr (10, [.int (J 0), .ref (o + (n + 1)), .ref (o + (n + 2)), .int (J 0), .ref (o + (n + 3)), .int (J 0), .ref (o + (n + 4)), .ref (o + (n + 5)), .int (J 0), .int (J 0), .int (J (-1)), .ref (o + (n + 6)), .int (J 0), .ref (o + (n + 7)), .int (J (-1)), .int (J 0), .ref (o + (n + 8)), .ref (o + (n + 9)), .int (J 0), .ref (o + (n + 10)), .ref (o + (n + 11)), .ref (o + (n + 12)), .ref (o + (n + 13)), .ref (o + (n + 14)), .int (J 0), .null, .null, .null, .int (J 0), .int (J 0), .int (J 0), .null, .null, .int (J 0), .null, .null, .int (J 0)])) (fin cy o)) (n + 15) s H locs 14 := hG.congr CX_put
  refine lv_aload_n hx hb dX11_init_137 rfl (lv_at hl 0 rfl) ?_
  refine lv_sipush (v := J 261) hx hb dX11_init_138 (by decide) ?_
  refine k_newI (cy := cy) (N := 261) hx hb (hts _ (List.mem_cons_of_mem _ ac_int)) hK hG rfl (by omega) (by exact Nat.le_of_ble_eq_true rfl) (by exact Nat.le_of_ble_eq_true rfl) dX11_init_141 (fun H hG => ?_)
  have hG : GC D o (CX n C (.inr (10, [.int (J 0), .ref (o + (n + 1)), .ref (o + (n + 2)), .int (J 0), .ref (o + (n + 3)), .int (J 0), .ref (o + (n + 4)), .ref (o + (n + 5)), .int (J 0), .int (J 0), .int (J (-1)), .ref (o + (n + 6)), .int (J 0), .ref (o + (n + 7)), .int (J (-1)), .int (J 0), .ref (o + (n + 8)), .ref (o + (n + 9)), .int (J 0), .ref (o + (n + 10)), .ref (o + (n + 11)), .ref (o + (n + 12)), .ref (o + (n + 13)), .ref (o + (n + 14)), .int (J 0), .null, .null, .null, .int (J 0), .int (J 0), .int (J 0), .null, .null, .int (J 0), .null, .null, .int (J 0)])) (fin cy o)) (n + 16) s H locs 15 := hG.congr (CX_new (by omega) (fin_I (N := 261) (by have q9 := kf_11_25 hk; rw [← kd_nat]; exact_mod_cast q9) (by omega)))
  refine W.widen (k := 15) (n := 16450) (by omega) (by omega) ?_
  refine k_putF (v := .ref (o + (n + 15))) (k := n) hx hb hts (fun w h => List.mem_cons_of_mem _ (u_X11 w h)) tyX11 tyX11_ok nmX11 hown hK hG (by omega) CX_at (ci := 10) rfl 25 ⟨by decide, by decide, Nat.le_of_ble_eq_true rfl⟩ hin2 rfl (hts _ (List.mem_cons_of_mem _ fl_RX11_59)) (hd := rfl) (hn := rfl) (hfit := rfl) (hdg := dX11_init_143) (fun H locs hG => ?_)
  have hG : GC D o (CX n C (.inr (10, [.int (J 0), .ref (o + (n + 1)), .ref (o + (n + 2)), .int (J 0), .ref (o + (n + 3)), .int (J 0), .ref (o + (n + 4)), .ref (o + (n + 5)), .int (J 0), .int (J 0), .int (J (-1)), .ref (o + (n + 6)), .int (J 0), .ref (o + (n + 7)), .int (J (-1)), .int (J 0), .ref (o + (n + 8)), .ref (o + (n + 9)), .int (J 0), .ref (o + (n + 10)), .ref (o + (n + 11)), .ref (o + (n + 12)), .ref (o + (n + 13)), .ref (o + (n + 14)), .int (J 0), .ref (o + (n + 15)), .null, .null, .int (J 0), .int (J 0), .int (J 0), .null, .null, .int (J 0), .null, .null, .int (J 0)])) (fin cy o)) (n + 16) s H locs 15 := hG.congr CX_put
  refine lv_aload_n hx hb dX11_init_146 rfl (lv_at hl 0 rfl) ?_
  refine lv_sipush (v := J 261) hx hb dX11_init_147 (by decide) ?_
  refine k_newI (cy := cy) (N := 261) hx hb (hts _ (List.mem_cons_of_mem _ ac_int)) hK hG rfl (by omega) (by exact Nat.le_of_ble_eq_true rfl) (by exact Nat.le_of_ble_eq_true rfl) dX11_init_150 (fun H hG => ?_)
  have hG : GC D o (CX n C (.inr (10, [.int (J 0), .ref (o + (n + 1)), .ref (o + (n + 2)), .int (J 0), .ref (o + (n + 3)), .int (J 0), .ref (o + (n + 4)), .ref (o + (n + 5)), .int (J 0), .int (J 0), .int (J (-1)), .ref (o + (n + 6)), .int (J 0), .ref (o + (n + 7)), .int (J (-1)), .int (J 0), .ref (o + (n + 8)), .ref (o + (n + 9)), .int (J 0), .ref (o + (n + 10)), .ref (o + (n + 11)), .ref (o + (n + 12)), .ref (o + (n + 13)), .ref (o + (n + 14)), .int (J 0), .ref (o + (n + 15)), .null, .null, .int (J 0), .int (J 0), .int (J 0), .null, .null, .int (J 0), .null, .null, .int (J 0)])) (fin cy o)) (n + 17) s H locs 16 := hG.congr (CX_new (by omega) (fin_I (N := 261) (by have q9 := kf_11_26 hk; rw [← kd_nat]; exact_mod_cast q9) (by omega)))
  refine W.widen (k := 16) (n := 16711) (by omega) (by omega) ?_
  refine k_putF (v := .ref (o + (n + 16))) (k := n) hx hb hts (fun w h => List.mem_cons_of_mem _ (u_X11 w h)) tyX11 tyX11_ok nmX11 hown hK hG (by omega) CX_at (ci := 10) rfl 26 ⟨by decide, by decide, Nat.le_of_ble_eq_true rfl⟩ hin2 rfl (hts _ (List.mem_cons_of_mem _ fl_RX11_62)) (hd := rfl) (hn := rfl) (hfit := rfl) (hdg := dX11_init_152) (fun H locs hG => ?_)
  have hG : GC D o (CX n C (.inr (10, [.int (J 0), .ref (o + (n + 1)), .ref (o + (n + 2)), .int (J 0), .ref (o + (n + 3)), .int (J 0), .ref (o + (n + 4)), .ref (o + (n + 5)), .int (J 0), .int (J 0), .int (J (-1)), .ref (o + (n + 6)), .int (J 0), .ref (o + (n + 7)), .int (J (-1)), .int (J 0), .ref (o + (n + 8)), .ref (o + (n + 9)), .int (J 0), .ref (o + (n + 10)), .ref (o + (n + 11)), .ref (o + (n + 12)), .ref (o + (n + 13)), .ref (o + (n + 14)), .int (J 0), .ref (o + (n + 15)), .ref (o + (n + 16)), .null, .int (J 0), .int (J 0), .int (J 0), .null, .null, .int (J 0), .null, .null, .int (J 0)])) (fin cy o)) (n + 17) s H locs 16 := hG.congr CX_put
  refine lv_aload_n hx hb dX11_init_155 rfl (lv_at hl 0 rfl) ?_
  refine lv_sipush (v := J 261) hx hb dX11_init_156 (by decide) ?_
  refine k_newI (cy := cy) (N := 261) hx hb (hts _ (List.mem_cons_of_mem _ ac_int)) hK hG rfl (by omega) (by exact Nat.le_of_ble_eq_true rfl) (by exact Nat.le_of_ble_eq_true rfl) dX11_init_159 (fun H hG => ?_)
  have hG : GC D o (CX n C (.inr (10, [.int (J 0), .ref (o + (n + 1)), .ref (o + (n + 2)), .int (J 0), .ref (o + (n + 3)), .int (J 0), .ref (o + (n + 4)), .ref (o + (n + 5)), .int (J 0), .int (J 0), .int (J (-1)), .ref (o + (n + 6)), .int (J 0), .ref (o + (n + 7)), .int (J (-1)), .int (J 0), .ref (o + (n + 8)), .ref (o + (n + 9)), .int (J 0), .ref (o + (n + 10)), .ref (o + (n + 11)), .ref (o + (n + 12)), .ref (o + (n + 13)), .ref (o + (n + 14)), .int (J 0), .ref (o + (n + 15)), .ref (o + (n + 16)), .null, .int (J 0), .int (J 0), .int (J 0), .null, .null, .int (J 0), .null, .null, .int (J 0)])) (fin cy o)) (n + 18) s H locs 17 := hG.congr (CX_new (by omega) (fin_I (N := 261) (by have q9 := kf_11_27 hk; rw [← kd_nat]; exact_mod_cast q9) (by omega)))
  refine W.widen (k := 17) (n := 16972) (by omega) (by omega) ?_
  refine k_putF (v := .ref (o + (n + 17))) (k := n) hx hb hts (fun w h => List.mem_cons_of_mem _ (u_X11 w h)) tyX11 tyX11_ok nmX11 hown hK hG (by omega) CX_at (ci := 10) rfl 27 ⟨by decide, by decide, Nat.le_of_ble_eq_true rfl⟩ hin2 rfl (hts _ (List.mem_cons_of_mem _ fl_RX11_65)) (hd := rfl) (hn := rfl) (hfit := rfl) (hdg := dX11_init_161) (fun H locs hG => ?_)
  have hG : GC D o (CX n C (.inr (10, [.int (J 0), .ref (o + (n + 1)), .ref (o + (n + 2)), .int (J 0), .ref (o + (n + 3)), .int (J 0), .ref (o + (n + 4)), .ref (o + (n + 5)), .int (J 0), .int (J 0), .int (J (-1)), .ref (o + (n + 6)), .int (J 0), .ref (o + (n + 7)), .int (J (-1)), .int (J 0), .ref (o + (n + 8)), .ref (o + (n + 9)), .int (J 0), .ref (o + (n + 10)), .ref (o + (n + 11)), .ref (o + (n + 12)), .ref (o + (n + 13)), .ref (o + (n + 14)), .int (J 0), .ref (o + (n + 15)), .ref (o + (n + 16)), .ref (o + (n + 17)), .int (J 0), .int (J 0), .int (J 0), .null, .null, .int (J 0), .null, .null, .int (J 0)])) (fin cy o)) (n + 18) s H locs 17 := hG.congr CX_put
  refine lv_aload_n hx hb dX11_init_164 rfl (lv_at hl 0 rfl) ?_
  refine lv_sipush (v := J 526) hx hb dX11_init_165 (by decide) ?_
  refine k_newI (cy := cy) (N := 526) hx hb (hts _ (List.mem_cons_of_mem _ ac_int)) hK hG rfl (by omega) (by exact Nat.le_of_ble_eq_true rfl) (by exact Nat.le_of_ble_eq_true rfl) dX11_init_168 (fun H hG => ?_)
  have hG : GC D o (CX n C (.inr (10, [.int (J 0), .ref (o + (n + 1)), .ref (o + (n + 2)), .int (J 0), .ref (o + (n + 3)), .int (J 0), .ref (o + (n + 4)), .ref (o + (n + 5)), .int (J 0), .int (J 0), .int (J (-1)), .ref (o + (n + 6)), .int (J 0), .ref (o + (n + 7)), .int (J (-1)), .int (J 0), .ref (o + (n + 8)), .ref (o + (n + 9)), .int (J 0), .ref (o + (n + 10)), .ref (o + (n + 11)), .ref (o + (n + 12)), .ref (o + (n + 13)), .ref (o + (n + 14)), .int (J 0), .ref (o + (n + 15)), .ref (o + (n + 16)), .ref (o + (n + 17)), .int (J 0), .int (J 0), .int (J 0), .null, .null, .int (J 0), .null, .null, .int (J 0)])) (fin cy o)) (n + 19) s H locs 18 := hG.congr (CX_new (by omega) (fin_I (N := 526) (by have q9 := kf_11_31 hk; rw [← kd_nat]; exact_mod_cast q9) (by omega)))
  refine W.widen (k := 18) (n := 17498) (by omega) (by omega) ?_
  refine k_putF (v := .ref (o + (n + 18))) (k := n) hx hb hts (fun w h => List.mem_cons_of_mem _ (u_X11 w h)) tyX11 tyX11_ok nmX11 hown hK hG (by omega) CX_at (ci := 10) rfl 31 ⟨by decide, by decide, Nat.le_of_ble_eq_true rfl⟩ hin2 rfl (hts _ (List.mem_cons_of_mem _ fl_RX11_68)) (hd := rfl) (hn := rfl) (hfit := rfl) (hdg := dX11_init_170) (fun H locs hG => ?_)
  have hG : GC D o (CX n C (.inr (10, [.int (J 0), .ref (o + (n + 1)), .ref (o + (n + 2)), .int (J 0), .ref (o + (n + 3)), .int (J 0), .ref (o + (n + 4)), .ref (o + (n + 5)), .int (J 0), .int (J 0), .int (J (-1)), .ref (o + (n + 6)), .int (J 0), .ref (o + (n + 7)), .int (J (-1)), .int (J 0), .ref (o + (n + 8)), .ref (o + (n + 9)), .int (J 0), .ref (o + (n + 10)), .ref (o + (n + 11)), .ref (o + (n + 12)), .ref (o + (n + 13)), .ref (o + (n + 14)), .int (J 0), .ref (o + (n + 15)), .ref (o + (n + 16)), .ref (o + (n + 17)), .int (J 0), .int (J 0), .int (J 0), .ref (o + (n + 18)), .null, .int (J 0), .null, .null, .int (J 0)])) (fin cy o)) (n + 19) s H locs 18 := hG.congr CX_put
  refine lv_aload_n hx hb dX11_init_173 rfl (lv_at hl 0 rfl) ?_
  refine lv_bipush (v := J 40) hx hb dX11_init_174 (by decide) ?_
  refine k_newI (cy := cy) (N := 40) hx hb (hts _ (List.mem_cons_of_mem _ ac_int)) hK hG rfl (by omega) (by exact Nat.le_of_ble_eq_true rfl) (by exact Nat.le_of_ble_eq_true rfl) dX11_init_176 (fun H hG => ?_)
  have hG : GC D o (CX n C (.inr (10, [.int (J 0), .ref (o + (n + 1)), .ref (o + (n + 2)), .int (J 0), .ref (o + (n + 3)), .int (J 0), .ref (o + (n + 4)), .ref (o + (n + 5)), .int (J 0), .int (J 0), .int (J (-1)), .ref (o + (n + 6)), .int (J 0), .ref (o + (n + 7)), .int (J (-1)), .int (J 0), .ref (o + (n + 8)), .ref (o + (n + 9)), .int (J 0), .ref (o + (n + 10)), .ref (o + (n + 11)), .ref (o + (n + 12)), .ref (o + (n + 13)), .ref (o + (n + 14)), .int (J 0), .ref (o + (n + 15)), .ref (o + (n + 16)), .ref (o + (n + 17)), .int (J 0), .int (J 0), .int (J 0), .ref (o + (n + 18)), .null, .int (J 0), .null, .null, .int (J 0)])) (fin cy o)) (n + 20) s H locs 19 := hG.congr (CX_new (by omega) (fin_I (N := 40) (by have q9 := kf_11_32 hk; rw [← kd_nat]; exact_mod_cast q9) (by omega)))
  refine W.widen (k := 19) (n := 17538) (by omega) (by omega) ?_
  refine k_putF (v := .ref (o + (n + 19))) (k := n) hx hb hts (fun w h => List.mem_cons_of_mem _ (u_X11 w h)) tyX11 tyX11_ok nmX11 hown hK hG (by omega) CX_at (ci := 10) rfl 32 ⟨by decide, by decide, Nat.le_of_ble_eq_true rfl⟩ hin2 rfl (hts _ (List.mem_cons_of_mem _ fl_RX11_71)) (hd := rfl) (hn := rfl) (hfit := rfl) (hdg := dX11_init_178) (fun H locs hG => ?_)
  have hG : GC D o (CX n C (.inr (10, [.int (J 0), .ref (o + (n + 1)), .ref (o + (n + 2)), .int (J 0), .ref (o + (n + 3)), .int (J 0), .ref (o + (n + 4)), .ref (o + (n + 5)), .int (J 0), .int (J 0), .int (J (-1)), .ref (o + (n + 6)), .int (J 0), .ref (o + (n + 7)), .int (J (-1)), .int (J 0), .ref (o + (n + 8)), .ref (o + (n + 9)), .int (J 0), .ref (o + (n + 10)), .ref (o + (n + 11)), .ref (o + (n + 12)), .ref (o + (n + 13)), .ref (o + (n + 14)), .int (J 0), .ref (o + (n + 15)), .ref (o + (n + 16)), .ref (o + (n + 17)), .int (J 0), .int (J 0), .int (J 0), .ref (o + (n + 18)), .ref (o + (n + 19)), .int (J 0), .null, .null, .int (J 0)])) (fin cy o)) (n + 20) s H locs 19 := hG.congr CX_put
  refine lv_aload_n hx hb dX11_init_181 rfl (lv_at hl 0 rfl) ?_
  refine lv_sipush (v := J 400) hx hb dX11_init_182 (by decide) ?_
  refine k_newI (cy := cy) (N := 400) hx hb (hts _ (List.mem_cons_of_mem _ ac_int)) hK hG rfl (by omega) (by exact Nat.le_of_ble_eq_true rfl) (by exact Nat.le_of_ble_eq_true rfl) dX11_init_185 (fun H hG => ?_)
  have hG : GC D o (CX n C (.inr (10, [.int (J 0), .ref (o + (n + 1)), .ref (o + (n + 2)), .int (J 0), .ref (o + (n + 3)), .int (J 0), .ref (o + (n + 4)), .ref (o + (n + 5)), .int (J 0), .int (J 0), .int (J (-1)), .ref (o + (n + 6)), .int (J 0), .ref (o + (n + 7)), .int (J (-1)), .int (J 0), .ref (o + (n + 8)), .ref (o + (n + 9)), .int (J 0), .ref (o + (n + 10)), .ref (o + (n + 11)), .ref (o + (n + 12)), .ref (o + (n + 13)), .ref (o + (n + 14)), .int (J 0), .ref (o + (n + 15)), .ref (o + (n + 16)), .ref (o + (n + 17)), .int (J 0), .int (J 0), .int (J 0), .ref (o + (n + 18)), .ref (o + (n + 19)), .int (J 0), .null, .null, .int (J 0)])) (fin cy o)) (n + 21) s H locs 20 := hG.congr (CX_new (by omega) (fin_I (N := 400) (by have q9 := kf_11_34 hk; rw [← kd_nat]; exact_mod_cast q9) (by omega)))
  refine W.widen (k := 20) (n := 17938) (by omega) (by omega) ?_
  refine k_putF (v := .ref (o + (n + 20))) (k := n) hx hb hts (fun w h => List.mem_cons_of_mem _ (u_X11 w h)) tyX11 tyX11_ok nmX11 hown hK hG (by omega) CX_at (ci := 10) rfl 34 ⟨by decide, by decide, Nat.le_of_ble_eq_true rfl⟩ hin2 rfl (hts _ (List.mem_cons_of_mem _ fl_RX11_74)) (hd := rfl) (hn := rfl) (hfit := rfl) (hdg := dX11_init_187) (fun H locs hG => ?_)
  have hG : GC D o (CX n C (.inr (10, [.int (J 0), .ref (o + (n + 1)), .ref (o + (n + 2)), .int (J 0), .ref (o + (n + 3)), .int (J 0), .ref (o + (n + 4)), .ref (o + (n + 5)), .int (J 0), .int (J 0), .int (J (-1)), .ref (o + (n + 6)), .int (J 0), .ref (o + (n + 7)), .int (J (-1)), .int (J 0), .ref (o + (n + 8)), .ref (o + (n + 9)), .int (J 0), .ref (o + (n + 10)), .ref (o + (n + 11)), .ref (o + (n + 12)), .ref (o + (n + 13)), .ref (o + (n + 14)), .int (J 0), .ref (o + (n + 15)), .ref (o + (n + 16)), .ref (o + (n + 17)), .int (J 0), .int (J 0), .int (J 0), .ref (o + (n + 18)), .ref (o + (n + 19)), .int (J 0), .ref (o + (n + 20)), .null, .int (J 0)])) (fin cy o)) (n + 21) s H locs 20 := hG.congr CX_put
  refine lv_aload_n hx hb dX11_init_190 rfl (lv_at hl 0 rfl) ?_
  refine lv_sipush (v := J 400) hx hb dX11_init_191 (by decide) ?_
  refine k_newI (cy := cy) (N := 400) hx hb (hts _ (List.mem_cons_of_mem _ ac_int)) hK hG rfl (by omega) (by exact Nat.le_of_ble_eq_true rfl) (by exact Nat.le_of_ble_eq_true rfl) dX11_init_194 (fun H hG => ?_)
  have hG : GC D o (CX n C (.inr (10, [.int (J 0), .ref (o + (n + 1)), .ref (o + (n + 2)), .int (J 0), .ref (o + (n + 3)), .int (J 0), .ref (o + (n + 4)), .ref (o + (n + 5)), .int (J 0), .int (J 0), .int (J (-1)), .ref (o + (n + 6)), .int (J 0), .ref (o + (n + 7)), .int (J (-1)), .int (J 0), .ref (o + (n + 8)), .ref (o + (n + 9)), .int (J 0), .ref (o + (n + 10)), .ref (o + (n + 11)), .ref (o + (n + 12)), .ref (o + (n + 13)), .ref (o + (n + 14)), .int (J 0), .ref (o + (n + 15)), .ref (o + (n + 16)), .ref (o + (n + 17)), .int (J 0), .int (J 0), .int (J 0), .ref (o + (n + 18)), .ref (o + (n + 19)), .int (J 0), .ref (o + (n + 20)), .null, .int (J 0)])) (fin cy o)) (n + 22) s H locs 21 := hG.congr (CX_new (by omega) (fin_I (N := 400) (by have q9 := kf_11_35 hk; rw [← kd_nat]; exact_mod_cast q9) (by omega)))
  refine W.widen (k := 21) (n := 18338) (by omega) (by omega) ?_
  refine k_putF (v := .ref (o + (n + 21))) (k := n) hx hb hts (fun w h => List.mem_cons_of_mem _ (u_X11 w h)) tyX11 tyX11_ok nmX11 hown hK hG (by omega) CX_at (ci := 10) rfl 35 ⟨by decide, by decide, Nat.le_of_ble_eq_true rfl⟩ hin2 rfl (hts _ (List.mem_cons_of_mem _ fl_RX11_77)) (hd := rfl) (hn := rfl) (hfit := rfl) (hdg := dX11_init_196) (fun H locs hG => ?_)
  have hG : GC D o (CX n C (.inr (10, [.int (J 0), .ref (o + (n + 1)), .ref (o + (n + 2)), .int (J 0), .ref (o + (n + 3)), .int (J 0), .ref (o + (n + 4)), .ref (o + (n + 5)), .int (J 0), .int (J 0), .int (J (-1)), .ref (o + (n + 6)), .int (J 0), .ref (o + (n + 7)), .int (J (-1)), .int (J 0), .ref (o + (n + 8)), .ref (o + (n + 9)), .int (J 0), .ref (o + (n + 10)), .ref (o + (n + 11)), .ref (o + (n + 12)), .ref (o + (n + 13)), .ref (o + (n + 14)), .int (J 0), .ref (o + (n + 15)), .ref (o + (n + 16)), .ref (o + (n + 17)), .int (J 0), .int (J 0), .int (J 0), .ref (o + (n + 18)), .ref (o + (n + 19)), .int (J 0), .ref (o + (n + 20)), .ref (o + (n + 21)), .int (J 0)])) (fin cy o)) (n + 22) s H locs 21 := hG.congr CX_put
  rw [hQf]
  exact k_vret hx hb hr hlocks hG rfl (CX_out (fO9) (fun _ _ _ => rfl)) (by decide) dX11_init_199

def fq (z N : Nat) (g : Nat → Nat) : Nat → Option Nat := fun j => if z ≤ j ∧ j < N then none else some (g j)
theorem fq_up {z N : Nat} {g : Nat → Nat} {x : Nat} (hz : z < N) (hx : g z = x) : va_up (fq z N g) z (some x) = fq (z + 1) N g := by
  funext j
  unfold va_up fq
  by_cases c : j = z
  · rw [if_pos c, if_neg (by omega), c, hx]
  · rw [if_neg c]
    by_cases c2 : z ≤ j ∧ j < N
    · rw [if_pos c2, if_pos (by omega)]
    · rw [if_neg c2, if_neg (by omega)]
theorem fq_end {N : Nat} {g : Nat → Nat} : fq N N g = fun j => some (g j) := by
  funext j; unfold fq; rw [if_neg (by omega)]
theorem GC.arr {D : va_G} {o n k N : Nat} {C : Nat → va_E} {s : State} {H : Heap} {locs : List Loc} {cells : Nat} {cA : ClassId} {f f' : Nat → Option Nat} (h : GC D o C n s H locs cells) (hk : k < n) (he : C k = .inl (cA, (N, .inr (.inr (.inr (.inr f)))))) (hf : ∀ j, j < N → f j = f' j) : GC D o (upC C k (.inl (cA, (N, .inr (.inr (.inr (.inr f'))))))) n s H locs cells := by
  obtain ⟨h1, h2⟩ := h
  refine ⟨fun i q hq => ?_, h2⟩
  have hi := (List.getElem?_eq_some_iff.mp hq).1
  rw [wsC_len] at hi
  rw [wsC_get o _ hi] at hq
  cases hq
  by_cases c : i = k
  · subst c
    have h3 := h1 i _ (wsC_get o C hi)
    rw [he] at h3
    show va_at D jCl (o + i, upC C i _ i) H
    unfold upC
    rw [if_pos rfl]
    have h3 : H[o + i]? = some (vp_cell cA (N, .inr (.inr (.inr (.inr f))))) := h3
    show H[o + i]? = some (vp_cell cA (N, .inr (.inr (.inr (.inr f')))))
    rw [h3, vp_cell_q, vp_cell_q]
    congr 1
    unfold arrV
    congr 1
    congr 1
    funext j
    show va_rf (f j.val) = va_rf (f' j.val)
    rw [hf j.val j.isLt]
  · have h3 := h1 i _ (wsC_get o C hi)
    show va_at D jCl (o + i, upC C k _ i) H
    unfold upC
    rw [if_neg c]; exact h3
theorem CX_new2 {n m : Nat} {C F : Nat → va_E} {e x x' : va_E} (h : n < m) (hf : F m = x') : ∀ i, i < m + 1 → upC (upC (CX n C e F) m x) m x' i = CX n C e F i := by
  intro i _
  unfold upC CX
  by_cases c : i = m
  · rw [if_pos c, if_neg (by omega), if_neg (by omega), c, hf]
  · rw [if_neg c, if_neg c]
theorem CX_call {n q m : Nat} {C F G : Nat → va_E} {e x : va_E} (h : n < q) (hF : ∀ i, q ≤ i → i < m → F i = G i) : ∀ i, i < m → (if i < q then upC (CX n C e F) q x i else G i) = CX n C e F i := by
  intro i hi
  by_cases c : i < q
  · rw [if_pos c]; unfold upC; rw [if_neg (by omega)]
  · rw [if_neg c]; unfold CX; rw [if_neg (by omega), if_neg (by omega), hF i (by omega) hi]
theorem CX_st {n q m : Nat} {C F F' : Nat → va_E} {e x : va_E} (h : n < q) (hq : F' q = x) (hF : ∀ i, i ≠ q → F i = F' i) : ∀ i, i < m → upC (CX n C e F) q x i = CX n C e F' i := by
  intro i hi
  unfold upC CX
  by_cases c : i = q
  · rw [if_pos c, if_neg (by omega), if_neg (by omega), c, hq]
  · rw [if_neg c, hF i c]
theorem CX_lt {n i : Nat} {C F : Nat → va_E} {e : va_E} (h : n < i) : CX n C e F i = F i := by unfold CX; rw [if_neg (by omega), if_neg (by omega)]

def g20 (o n : Nat) : Nat → Nat := fun j => rA o (((n + 1 : Nat) : Int) + (ra 20).2.1 + (ra 20).2.2 * (j : Int))

def g21 (o n : Nat) : Nat → Nat := fun j => rA o (((n + 2 : Nat) : Int) + (ra 21).2.1 + (ra 21).2.2 * (j : Int))

def g22 (o n : Nat) : Nat → Nat := fun j => rA o (((n + 48 : Nat) : Int) + (ra 22).2.1 + (ra 22).2.2 * (j : Int))

def g23 (o n : Nat) : Nat → Nat := fun j => rA o (((n + 520 : Nat) : Int) + (ra 23).2.1 + (ra 23).2.2 * (j : Int))

def g24 (o n : Nat) : Nat → Nat := fun j => rA o (((n + 569 : Nat) : Int) + (ra 24).2.1 + (ra 24).2.2 * (j : Int))

theorem df_X9 : ∀ j, j < 6 → defaultValue (tyX9 j) = vp_V [.int (J 0), .int (J 0), .int (J 0), .null, .null, .null] j := by
  intro j hj
  match j, hj with
  | 0, _ => rfl
  | 1, _ => rfl
  | 2, _ => rfl
  | 3, _ => rfl
  | 4, _ => rfl
  | 5, _ => rfl

theorem df_X4 : ∀ j, j < 11 → defaultValue (tyX4 j) = vp_V [.int (J 0), .int (J 0), .int (J 0), .int (J 0), .int (J 0), .int (J 0), .int (J 0), .int (J 0), .int (J 0), .long (JL 0), .null] j := by
  intro j hj
  match j, hj with
  | 0, _ => rfl
  | 1, _ => rfl
  | 2, _ => rfl
  | 3, _ => rfl
  | 4, _ => rfl
  | 5, _ => rfl
  | 6, _ => rfl
  | 7, _ => rfl
  | 8, _ => rfl
  | 9, _ => rfl
  | 10, _ => rfl

theorem df_X0 : ∀ j, j < 4 → defaultValue (tyX0 j) = vp_V [.int (J 0), .int (J 0), .null, .null] j := by
  intro j hj
  match j, hj with
  | 0, _ => rfl
  | 1, _ => rfl
  | 2, _ => rfl
  | 3, _ => rfl

theorem df_X3 : ∀ j, j < 5 → defaultValue (tyX3 j) = vp_V [.int (J 0), .int (J 0), .null, .int (J 0), .null] j := by
  intro j hj
  match j, hj with
  | 0, _ => rfl
  | 1, _ => rfl
  | 2, _ => rfl
  | 3, _ => rfl
  | 4, _ => rfl

theorem df_X7 : ∀ j, j < 16 → defaultValue (tyX7 j) = vp_V [.int (J 0), .int (J 0), .int (J 0), .int (J 0), .int (J 0), .int (J 0), .null, .null, .null, .null, .null, .null, .null, .int (J 0), .int (J 0), .int (J 0)] j := by
  intro j hj
  match j, hj with
  | 0, _ => rfl
  | 1, _ => rfl
  | 2, _ => rfl
  | 3, _ => rfl
  | 4, _ => rfl
  | 5, _ => rfl
  | 6, _ => rfl
  | 7, _ => rfl
  | 8, _ => rfl
  | 9, _ => rfl
  | 10, _ => rfl
  | 11, _ => rfl
  | 12, _ => rfl
  | 13, _ => rfl
  | 14, _ => rfl
  | 15, _ => rfl
  | k + 16, hk => exact absurd hk (by omega)

theorem df_X5 : ∀ j, j < 5 → defaultValue (tyX5 j) = vp_V [.int (J 0), .int (J 0), .int (J 0), .null, .null] j := by
  intro j hj
  match j, hj with
  | 0, _ => rfl
  | 1, _ => rfl
  | 2, _ => rfl
  | 3, _ => rfl
  | 4, _ => rfl

theorem df_X2 : ∀ j, j < 5 → defaultValue (tyX2 j) = vp_V [.int (J 0), .int (J 0), .int (J 0), .int (J 0), .int (J 0)] j := by
  intro j hj
  match j, hj with
  | 0, _ => rfl
  | 1, _ => rfl
  | 2, _ => rfl
  | 3, _ => rfl
  | 4, _ => rfl

theorem df_X6 : ∀ j, j < 6 → defaultValue (tyX6 j) = vp_V [.int (J 0), .int (J 0), .int (J 0), .int (J 0), .null, .null] j := by
  intro j hj
  match j, hj with
  | 0, _ => rfl
  | 1, _ => rfl
  | 2, _ => rfl
  | 3, _ => rfl
  | 4, _ => rfl
  | 5, _ => rfl

theorem df_X8 : ∀ j, j < 2 → defaultValue (tyX8 j) = vp_V [.int (J 0), .null] j := by
  intro j hj
  match j, hj with
  | 0, _ => rfl
  | 1, _ => rfl

theorem df_X10 : ∀ j, j < 9 → defaultValue (tyX10 j) = vp_V [.null, .null, .null, .null, .null, .null, .null, .null, .null] j := by
  intro j hj
  match j, hj with
  | 0, _ => rfl
  | 1, _ => rfl
  | 2, _ => rfl
  | 3, _ => rfl
  | 4, _ => rfl
  | 5, _ => rfl
  | 6, _ => rfl
  | 7, _ => rfl
  | 8, _ => rfl

theorem df_X11 : ∀ j, j < 37 → defaultValue (tyX11 j) = vp_V [.int (J 0), .null, .null, .int (J 0), .null, .int (J 0), .null, .null, .int (J 0), .int (J 0), .int (J 0), .null, .int (J 0), .null, .int (J 0), .int (J 0), .null, .null, .int (J 0), .null, .null, .null, .null, .null, .int (J 0), .null, .null, .null, .int (J 0), .int (J 0), .int (J 0), .null, .null, .int (J 0), .null, .null, .int (J 0)] j := by
  intro j hj
  match j, hj with
  | 0, _ => rfl
  | 1, _ => rfl
  | 2, _ => rfl
  | 3, _ => rfl
  | 4, _ => rfl
  | 5, _ => rfl
  | 6, _ => rfl
  | 7, _ => rfl
  | 8, _ => rfl
  | 9, _ => rfl
  | 10, _ => rfl
  | 11, _ => rfl
  | 12, _ => rfl
  | 13, _ => rfl
  | 14, _ => rfl
  | 15, _ => rfl
  | 16, _ => rfl
  | 17, _ => rfl
  | 18, _ => rfl
  | 19, _ => rfl
  | 20, _ => rfl
  | 21, _ => rfl
  | 22, _ => rfl
  | 23, _ => rfl
  | 24, _ => rfl
  | 25, _ => rfl
  | 26, _ => rfl
  | 27, _ => rfl
  | 28, _ => rfl
  | 29, _ => rfl
  | 30, _ => rfl
  | 31, _ => rfl
  | 32, _ => rfl
  | 33, _ => rfl
  | 34, _ => rfl
  | 35, _ => rfl
  | 36, _ => rfl
  | k + 37, hk => exact absurd hk (by omega)

abbrev rm_X0_init : Room := { frames := 2, cells := 46, slots := 946, locals := 32 }
set_option maxRecDepth 100000 in
set_option maxHeartbeats 4000000 in
theorem K_X0 (l : Launch) {D : va_G} {cy : Nat → ClassId} {o n : Nat} {C : Nat → va_E} (hk : kd (n : Int) = 1) (hC : C n = .inr (0, [.int (J 0), .int (J 0), .null, .null])) : CoK l yX0_init (wj yX0_init cX0_init 2 none) rm_X0_init D cy o [.ref (o + n)] (n + 1) C (n + 47) (fun i => if i < n then C i else fin cy o i) := by
  refine k_ofW (cc := cX0_init) (maxL := 2) (ret := none) (by decide) rfl (Nat.le_of_ble_eq_true rfl) ?_
  intro p e s m args below meth c hx hb hr hlocks hml hin2 hown hts hK hNX H locs hG ls hl Qf hQf
  have hown : s.vm.findClass RX0 = some m.cls := hown
  have hl : lv_has ls 2 [(0, .ref (o + n))] := hl
  refine lv_aload_n hx hb dX0_init_0 rfl (lv_at hl 0 rfl) ?_
  refine W.objInit hx hb hown (hts _ (List.mem_cons_of_mem _ mo_RX0)) (hts _ (List.mem_cons_of_mem _ i_objInit)) (hts _ (List.mem_cons_of_mem _ k_objInit)) rfl (by rw [hml]; exact hl.1) rfl dX0_init_1 (Nat.le_of_ble_eq_true rfl) (Nat.le_of_ble_eq_true rfl) ?_
  refine W.eq (g2 := F0 m 4 ls []) rfl ?_
  have hG : GC D o (CX n C (.inr (0, [.int (J 0), .int (J 0), .null, .null])) (fun i => if i = n + 1 then .inl (cy 3, (6, .inr (.inr (.inr (.inr (fq 0 6 (g20 o n))))))) else if i = n + 2 then .inl (cy 4, (10, .inr (.inr (.inr (.inr (fq 0 10 (g21 o n))))))) else fin cy o i)) (n + 1) s H locs (0) := hG.congr (CX_in hC)
  refine lv_aload_n hx hb dX0_init_4 rfl (lv_at hl 0 rfl) ?_
  refine lv_bipush (v := J 6) hx hb dX0_init_5 (by decide) ?_
  refine k_newQ (cy := cy) (N := 6) (t := 3) (K := RX9) hx hb hown (hts _ (List.mem_cons_of_mem _ cl_RX0_9)) (hNX.ao 4 rfl) hK rfl hG rfl (by omega) (by show 0 + 1 ≤ 46; omega) (by show 0 + 6 ≤ 946; omega) dX0_init_7 (fun H hG => ?_)
  have hG := hG.arr (k := n + 1) (f' := fq 0 6 (g20 o n)) (by omega) (by unfold upC; rw [if_pos rfl]) (fun j hj => by unfold fq; rw [if_pos ⟨by omega, hj⟩])
  have hG : GC D o (CX n C (.inr (0, [.int (J 0), .int (J 0), .null, .null])) (fun i => if i = n + 1 then .inl (cy 3, (6, .inr (.inr (.inr (.inr (fq 0 6 (g20 o n))))))) else if i = n + 2 then .inl (cy 4, (10, .inr (.inr (.inr (.inr (fq 0 10 (g21 o n))))))) else fin cy o i)) (n + 2) s H locs (1) := hG.congr (CX_new2 (by omega) (by (try dsimp only); rw [if_pos rfl]))
  refine W.widen (k := 1) (n := 6) (by omega) (by omega) ?_
  refine k_putF (v := .ref (o + (n + 1))) (k := n) hx hb hts (fun w h => List.mem_cons_of_mem _ (u_X0 w h)) tyX0 tyX0_ok nmX0 hown hK hG (by omega) CX_at (ci := 0) rfl 2 ⟨by decide, by decide, Nat.le_of_ble_eq_true rfl⟩ hin2 rfl (hts _ (List.mem_cons_of_mem _ fl_RX0_11)) (hd := rfl) (hn := rfl) (hfit := rfl) (hdg := dX0_init_10) (fun H locs hG => ?_)
  have hG : GC D o (CX n C (.inr (0, [.int (J 0), .int (J 0), .ref (o + (n + 1)), .null])) (fun i => if i = n + 1 then .inl (cy 3, (6, .inr (.inr (.inr (.inr (fq 0 6 (g20 o n))))))) else if i = n + 2 then .inl (cy 4, (10, .inr (.inr (.inr (.inr (fq 0 10 (g21 o n))))))) else fin cy o i)) (n + 2) s H locs (1) := hG.congr CX_put
  refine lv_aload_n hx hb dX0_init_13 rfl (lv_at hl 0 rfl) ?_
  refine lv_bipush (v := J 10) hx hb dX0_init_14 (by decide) ?_
  refine k_newQ (cy := cy) (N := 10) (t := 4) (K := RX4) hx hb hown (hts _ (List.mem_cons_of_mem _ cl_RX0_17)) (hNX.ao 1 rfl) hK rfl hG rfl (by omega) (by show 1 + 1 ≤ 46; omega) (by show 6 + 10 ≤ 946; omega) dX0_init_16 (fun H hG => ?_)
  have hG := hG.arr (k := n + 2) (f' := fq 0 10 (g21 o n)) (by omega) (by unfold upC; rw [if_pos rfl]) (fun j hj => by unfold fq; rw [if_pos ⟨by omega, hj⟩])
  have hG : GC D o (CX n C (.inr (0, [.int (J 0), .int (J 0), .ref (o + (n + 1)), .null])) (fun i => if i = n + 1 then .inl (cy 3, (6, .inr (.inr (.inr (.inr (fq 0 6 (g20 o n))))))) else if i = n + 2 then .inl (cy 4, (10, .inr (.inr (.inr (.inr (fq 0 10 (g21 o n))))))) else fin cy o i)) (n + 3) s H locs (2) := hG.congr (CX_new2 (by omega) (by (try dsimp only); rw [if_neg (by omega)]; rw [if_pos rfl]))
  refine W.widen (k := 2) (n := 16) (by omega) (by omega) ?_
  refine k_putF (v := .ref (o + (n + 2))) (k := n) hx hb hts (fun w h => List.mem_cons_of_mem _ (u_X0 w h)) tyX0 tyX0_ok nmX0 hown hK hG (by omega) CX_at (ci := 0) rfl 3 ⟨by decide, by decide, Nat.le_of_ble_eq_true rfl⟩ hin2 rfl (hts _ (List.mem_cons_of_mem _ fl_RX0_19)) (hd := rfl) (hn := rfl) (hfit := rfl) (hdg := dX0_init_19) (fun H locs hG => ?_)
  have hG : GC D o (CX n C (.inr (0, [.int (J 0), .int (J 0), .ref (o + (n + 1)), .ref (o + (n + 2))])) (fun i => if i = n + 1 then .inl (cy 3, (6, .inr (.inr (.inr (.inr (fq 0 6 (g20 o n))))))) else if i = n + 2 then .inl (cy 4, (10, .inr (.inr (.inr (.inr (fq 0 10 (g21 o n))))))) else fin cy o i)) (n + 3) s H locs (2) := hG.congr CX_put
  have lp24 : (∀ (H : Heap) (locs : List Loc), GC D o (CX n C (.inr (0, [.int (J 0), .int (J 0), .ref (o + (n + 1)), .ref (o + (n + 2))])) (fun i => if i = n + 1 then .inl (cy 3, (6, .inr (.inr (.inr (.inr (fq 6 6 (g20 o n))))))) else if i = n + 2 then .inl (cy 4, (10, .inr (.inr (.inr (.inr (fq 0 10 (g21 o n))))))) else fin cy o i)) (n + 27) s H locs (26) → ∀ ls : Array Slot, lv_has ls 2 [(1, .int (J ((6 : Nat) : Int))), (0, .ref (o + n))] → W p l e rm_X0_init s m args below meth c H locs 26 436 Qf (F0 m 49 ls [])) → ∀ (r z : Nat), z + r = 6 → ∀ (H : Heap) (locs : List Loc), GC D o (CX n C (.inr (0, [.int (J 0), .int (J 0), .ref (o + (n + 1)), .ref (o + (n + 2))])) (fun i => if i = n + 1 then .inl (cy 3, (6, .inr (.inr (.inr (.inr (fq z 6 (g20 o n))))))) else if i = n + 2 then .inl (cy 4, (10, .inr (.inr (.inr (.inr (fq 0 10 (g21 o n))))))) else fin cy o i)) (n + (3 + 4 * z)) s H locs (2 + 4 * z) → ∀ ls : Array Slot, lv_has ls 2 [(1, .int (J ((z : Nat) : Int))), (0, .ref (o + n))] → W p l e rm_X0_init s m args below meth c H locs (2 + 4 * z) (16 + 70 * z) Qf (F0 m 24 ls []) := by
    intro cont r
    induction r with
    | zero =>
      intro z hz H locs hG ls hl
      have hz : z = 6 := by omega
      subst hz
      refine lv_iload_n hx hb dX0_init_24 rfl (lv_at hl 0 rfl) ?_
      refine lv_bipush (v := J 6) hx hb dX0_init_25 (by decide) ?_
      refine j_icmp_ge (tgt := 49) hx hb dX0_init_27 (by decide) ⟨by omega, by omega⟩ ⟨by omega, by omega⟩ (fun _ => ?_) (fun q => by omega)
      exact cont H locs hG ls hl
    | succ r ih =>
      intro z hz H locs hG ls hl
      refine lv_iload_n hx hb dX0_init_24 rfl (lv_at hl 0 rfl) ?_
      refine lv_bipush (v := J 6) hx hb dX0_init_25 (by decide) ?_
      refine j_icmp_ge (tgt := 49) hx hb dX0_init_27 (by decide) ⟨by omega, by omega⟩ ⟨by omega, by omega⟩ (fun q => by omega) (fun _ => ?_)
      refine lv_aload_n hx hb dX0_init_30 rfl (lv_at hl 1 rfl) ?_
      refine k_get (k := n) (v := .ref (o + (n + 1))) hx hb hts (fun w h => List.mem_cons_of_mem _ (u_X0 w h)) hown hK hG (by omega) CX_at (ci := 0) rfl 2 (by decide) rfl (hts _ (List.mem_cons_of_mem _ fl_RX0_11)) dX0_init_31 ?_
      refine lv_iload_n hx hb dX0_init_34 rfl (lv_at hl 0 rfl) ?_
      refine k_new hx hb hts (fun w h => List.mem_cons_of_mem _ (u_X9 w h)) tyX9 tyX9_ok hown (hts _ (List.mem_cons_of_mem _ cl_RX0_9)) (hts _ (List.mem_cons_of_mem _ it_RX9)) (hts _ (List.mem_cons_of_mem _ n_RX9)) hK hG (ci := 8) (fs := [.int (J 0), .int (J 0), .int (J 0), .null, .null, .null]) rfl (fun j hj => df_X9 j hj) (by show 2 + 4 * z + 1 ≤ 46; omega) (by show 16 + 70 * z + 6 ≤ 946; omega) dX0_init_35 (fun H hG => ?_)
      refine lv_dup hx hb dX0_init_38 rfl ?_
      refine k_sz (fun hz => ?_)
      refine k_cont (mc := 3) (ms := 64) hG (va_runIN (As := []) (rest := [.ref (o + (n + (3 + 4 * z))), .int (J (z : Int)), .ref (o + (n + 1))]) ⟨hx, hb, hml, hown, hts⟩ (K_X9 l (o := o) (n := n + (3 + 4 * z)) (cy := cy) (D := D) (by have q9 := ka_20 (i := (z : Int)) (kf_1_2 hk) ⟨by omega, by omega⟩; rw [show ((n + (3 + 4 * z) : Nat) : Int) = (n : Int) + 1 + 2 + 4 * (z : Int) from by omega]; exact q9) (by unfold upC; rw [if_pos rfl])) ⟨va_cnB 0 hts (gj_self k_X9_init) rfl rfl rfl (hNX.nest 0 rfl) (hts _ (List.mem_cons_of_mem _ n_RX9)) (by decide +kernel) ⟨by exact Nat.le_of_ble_eq_true rfl, by exact Nat.le_of_ble_eq_true rfl⟩, rfl, hts _ (List.mem_cons_of_mem _ i_X9_init)⟩ (k_pre hK hNX hG hz) rfl rfl hl.1 rfl (lv_room (Nat.le_of_ble_eq_true rfl)) dX0_init_39 ⟨by show _ ≤ 46; omega, by show _ ≤ 946; omega⟩) rfl (fun H locs hG => ?_)
      have hG : GC D o (CX n C (.inr (0, [.int (J 0), .int (J 0), .ref (o + (n + 1)), .ref (o + (n + 2))])) (fun i => if i = n + 1 then .inl (cy 3, (6, .inr (.inr (.inr (.inr (fq z 6 (g20 o n))))))) else if i = n + 2 then .inl (cy 4, (10, .inr (.inr (.inr (.inr (fq 0 10 (g21 o n))))))) else fin cy o i)) (n + (3 + 4 * z) + 1 + 3) s H locs (2 + 4 * z + 1 + 3) := (hG.congr (CX_call (by omega) (fun i i1 i2 => by (try dsimp only); rw [if_neg (by omega)]; rw [if_neg (by omega)])))
      refine k_ast (k := n + 1) (t := 3) (q := n + (3 + 4 * z)) (ci := 8) (i := z) (N := 6) hx hb hK hG (by omega) (by rw [CX_lt (by omega)]; (try dsimp only); rw [if_pos rfl]) rfl (by omega) (by rw [CX_lt (by omega)]; (try dsimp only); rw [if_neg (by omega)]; rw [if_neg (by omega)]; exact fO_X9 (by rw [← kd_nat]; exact (by have q9 := ka_20 (i := (z : Int)) (kf_1_2 hk) ⟨by omega, by omega⟩; rw [show ((n + (3 + 4 * z) : Nat) : Int) = (n : Int) + 1 + 2 + 4 * (z : Int) from by omega]; exact q9))) rfl rfl (by omega) dX0_init_42 (fun H locs hG => ?_)
      rw [fq_up (x := o + (n + (3 + 4 * z))) (by omega) (by show o + (((n + 1 : Nat) : Int) + 2 + 4 * (z : Int)).toNat = _; omega)] at hG
      have hG : GC D o (CX n C (.inr (0, [.int (J 0), .int (J 0), .ref (o + (n + 1)), .ref (o + (n + 2))])) (fun i => if i = n + 1 then .inl (cy 3, (6, .inr (.inr (.inr (.inr (fq (z + 1) 6 (g20 o n))))))) else if i = n + 2 then .inl (cy 4, (10, .inr (.inr (.inr (.inr (fq 0 10 (g21 o n))))))) else fin cy o i)) (n + (3 + 4 * z) + 1 + 3) s H locs (2 + 4 * z + 1 + 3) := hG.congr (CX_st (by omega) (by (try dsimp only); rw [if_pos rfl]) (fun i hi => by (try dsimp only); simp only [if_neg (show ¬ i = n + 1 by omega)]))
      refine j_iinc hx hb dX0_init_43 hl (k := 0) rfl (by decide) (fun x ex ls hl => ?_)
      have hx9 : x = ((z + 1 : Nat) : Int) := by omega
      subst hx9
      have hl : lv_has ls 2 [(1, .int (J ((z + 1 : Nat) : Int))), (0, .ref (o + n))] := hl
      refine lv_goto (tgt := 24) hx hb dX0_init_46 (by decide) ?_
      refine W.widen (k := 2 + 4 * (z + 1)) (n := 16 + 70 * (z + 1)) (by omega) (by omega) ?_
      refine ih (z + 1) (by omega) H locs ?_ ls hl
      have e1 : n + (3 + 4 * z) + 1 + 3 = n + (3 + 4 * (z + 1)) := by omega
      have e2 : 2 + 4 * z + 1 + 3 = 2 + 4 * (z + 1) := by omega
      rw [e1, e2] at hG
      exact hG
  refine lv_iconst (v := J 0) hx hb dX0_init_22 (by decide) ?_
  refine lv_istore_n (lv' := [(1, .int (J 0)), (0, .ref (o + n))]) hx hb dX0_init_23 rfl hl (by decide) rfl (fun ls hl => ?_)
  refine lp24 (fun H locs hG ls hl => ?_) 6 0 (by omega) H locs hG ls hl
  have lp51 : (∀ (H : Heap) (locs : List Loc), GC D o (CX n C (.inr (0, [.int (J 0), .int (J 0), .ref (o + (n + 1)), .ref (o + (n + 2))])) (fun i => if i = n + 1 then .inl (cy 3, (6, .inr (.inr (.inr (.inr (fq 6 6 (g20 o n))))))) else if i = n + 2 then .inl (cy 4, (10, .inr (.inr (.inr (.inr (fq 10 10 (g21 o n))))))) else fin cy o i)) (n + 47) s H locs (46) → ∀ ls : Array Slot, lv_has ls 2 [(1, .int (J ((10 : Nat) : Int))), (0, .ref (o + n))] → W p l e rm_X0_init s m args below meth c H locs 46 946 Qf (F0 m 76 ls [])) → ∀ (r z : Nat), z + r = 10 → ∀ (H : Heap) (locs : List Loc), GC D o (CX n C (.inr (0, [.int (J 0), .int (J 0), .ref (o + (n + 1)), .ref (o + (n + 2))])) (fun i => if i = n + 1 then .inl (cy 3, (6, .inr (.inr (.inr (.inr (fq 6 6 (g20 o n))))))) else if i = n + 2 then .inl (cy 4, (10, .inr (.inr (.inr (.inr (fq z 10 (g21 o n))))))) else fin cy o i)) (n + (27 + 2 * z)) s H locs (26 + 2 * z) → ∀ ls : Array Slot, lv_has ls 2 [(1, .int (J ((z : Nat) : Int))), (0, .ref (o + n))] → W p l e rm_X0_init s m args below meth c H locs (26 + 2 * z) (436 + 51 * z) Qf (F0 m 51 ls []) := by
    intro cont r
    induction r with
    | zero =>
      intro z hz H locs hG ls hl
      have hz : z = 10 := by omega
      subst hz
      refine lv_iload_n hx hb dX0_init_51 rfl (lv_at hl 0 rfl) ?_
      refine lv_bipush (v := J 10) hx hb dX0_init_52 (by decide) ?_
      refine j_icmp_ge (tgt := 76) hx hb dX0_init_54 (by decide) ⟨by omega, by omega⟩ ⟨by omega, by omega⟩ (fun _ => ?_) (fun q => by omega)
      exact cont H locs hG ls hl
    | succ r ih =>
      intro z hz H locs hG ls hl
      refine lv_iload_n hx hb dX0_init_51 rfl (lv_at hl 0 rfl) ?_
      refine lv_bipush (v := J 10) hx hb dX0_init_52 (by decide) ?_
      refine j_icmp_ge (tgt := 76) hx hb dX0_init_54 (by decide) ⟨by omega, by omega⟩ ⟨by omega, by omega⟩ (fun q => by omega) (fun _ => ?_)
      refine lv_aload_n hx hb dX0_init_57 rfl (lv_at hl 1 rfl) ?_
      refine k_get (k := n) (v := .ref (o + (n + 2))) hx hb hts (fun w h => List.mem_cons_of_mem _ (u_X0 w h)) hown hK hG (by omega) CX_at (ci := 0) rfl 3 (by decide) rfl (hts _ (List.mem_cons_of_mem _ fl_RX0_19)) dX0_init_58 ?_
      refine lv_iload_n hx hb dX0_init_61 rfl (lv_at hl 0 rfl) ?_
      refine k_new hx hb hts (fun w h => List.mem_cons_of_mem _ (u_X4 w h)) tyX4 tyX4_ok hown (hts _ (List.mem_cons_of_mem _ cl_RX0_17)) (hts _ (List.mem_cons_of_mem _ it_RX4)) (hts _ (List.mem_cons_of_mem _ n_RX4)) hK hG (ci := 3) (fs := [.int (J 0), .int (J 0), .int (J 0), .int (J 0), .int (J 0), .int (J 0), .int (J 0), .int (J 0), .int (J 0), .long (JL 0), .null]) rfl (fun j hj => df_X4 j hj) (by show 26 + 2 * z + 1 ≤ 46; omega) (by show 436 + 51 * z + 11 ≤ 946; omega) dX0_init_62 (fun H hG => ?_)
      refine lv_dup hx hb dX0_init_65 rfl ?_
      refine k_sz (fun hz => ?_)
      refine k_cont (mc := 1) (ms := 40) hG (va_runIN (As := []) (rest := [.ref (o + (n + (27 + 2 * z))), .int (J (z : Int)), .ref (o + (n + 2))]) ⟨hx, hb, hml, hown, hts⟩ (K_X4 l (o := o) (n := n + (27 + 2 * z)) (cy := cy) (D := D) (by have q9 := ka_21 (i := (z : Int)) (kf_1_3 hk) ⟨by omega, by omega⟩; rw [show ((n + (27 + 2 * z) : Nat) : Int) = (n : Int) + 2 + 25 + 2 * (z : Int) from by omega]; exact q9) (by unfold upC; rw [if_pos rfl])) ⟨va_cnB 0 hts (gj_self k_X4_init) rfl rfl rfl (hNX.nest 1 rfl) (hts _ (List.mem_cons_of_mem _ n_RX4)) (by decide +kernel) ⟨by exact Nat.le_of_ble_eq_true rfl, by exact Nat.le_of_ble_eq_true rfl⟩, rfl, hts _ (List.mem_cons_of_mem _ i_X4_init)⟩ (k_pre hK hNX hG hz) rfl rfl hl.1 rfl (lv_room (Nat.le_of_ble_eq_true rfl)) dX0_init_66 ⟨by show _ ≤ 46; omega, by show _ ≤ 946; omega⟩) rfl (fun H locs hG => ?_)
      have hG : GC D o (CX n C (.inr (0, [.int (J 0), .int (J 0), .ref (o + (n + 1)), .ref (o + (n + 2))])) (fun i => if i = n + 1 then .inl (cy 3, (6, .inr (.inr (.inr (.inr (fq 6 6 (g20 o n))))))) else if i = n + 2 then .inl (cy 4, (10, .inr (.inr (.inr (.inr (fq z 10 (g21 o n))))))) else fin cy o i)) (n + (27 + 2 * z) + 1 + 1) s H locs (26 + 2 * z + 1 + 1) := (hG.congr (CX_call (by omega) (fun i i1 i2 => by (try dsimp only); rw [if_neg (by omega)]; rw [if_neg (by omega)])))
      refine k_ast (k := n + 2) (t := 4) (q := n + (27 + 2 * z)) (ci := 3) (i := z) (N := 10) hx hb hK hG (by omega) (by rw [CX_lt (by omega)]; (try dsimp only); rw [if_neg (by omega)]; rw [if_pos rfl]) rfl (by omega) (by rw [CX_lt (by omega)]; (try dsimp only); rw [if_neg (by omega)]; rw [if_neg (by omega)]; exact fO_X4 (by rw [← kd_nat]; exact (by have q9 := ka_21 (i := (z : Int)) (kf_1_3 hk) ⟨by omega, by omega⟩; rw [show ((n + (27 + 2 * z) : Nat) : Int) = (n : Int) + 2 + 25 + 2 * (z : Int) from by omega]; exact q9))) rfl rfl (by omega) dX0_init_69 (fun H locs hG => ?_)
      rw [fq_up (x := o + (n + (27 + 2 * z))) (by omega) (by show o + (((n + 2 : Nat) : Int) + 25 + 2 * (z : Int)).toNat = _; omega)] at hG
      have hG : GC D o (CX n C (.inr (0, [.int (J 0), .int (J 0), .ref (o + (n + 1)), .ref (o + (n + 2))])) (fun i => if i = n + 1 then .inl (cy 3, (6, .inr (.inr (.inr (.inr (fq 6 6 (g20 o n))))))) else if i = n + 2 then .inl (cy 4, (10, .inr (.inr (.inr (.inr (fq (z + 1) 10 (g21 o n))))))) else fin cy o i)) (n + (27 + 2 * z) + 1 + 1) s H locs (26 + 2 * z + 1 + 1) := hG.congr (CX_st (by omega) (by (try dsimp only); rw [if_neg (by omega)]; rw [if_pos rfl]) (fun i hi => by (try dsimp only); simp only [if_neg (show ¬ i = n + 2 by omega)]))
      refine j_iinc hx hb dX0_init_70 hl (k := 0) rfl (by decide) (fun x ex ls hl => ?_)
      have hx9 : x = ((z + 1 : Nat) : Int) := by omega
      subst hx9
      have hl : lv_has ls 2 [(1, .int (J ((z + 1 : Nat) : Int))), (0, .ref (o + n))] := hl
      refine lv_goto (tgt := 51) hx hb dX0_init_73 (by decide) ?_
      refine W.widen (k := 26 + 2 * (z + 1)) (n := 436 + 51 * (z + 1)) (by omega) (by omega) ?_
      refine ih (z + 1) (by omega) H locs ?_ ls hl
      have e1 : n + (27 + 2 * z) + 1 + 1 = n + (27 + 2 * (z + 1)) := by omega
      have e2 : 26 + 2 * z + 1 + 1 = 26 + 2 * (z + 1) := by omega
      rw [e1, e2] at hG
      exact hG
  refine lv_iconst (v := J 0) hx hb dX0_init_49 (by decide) ?_
  refine lv_istore_n (lv' := [(1, .int (J 0)), (0, .ref (o + n))]) hx hb dX0_init_50 rfl hl (by decide) rfl (fun ls hl => ?_)
  refine lp51 (fun H locs hG ls hl => ?_) 10 0 (by omega) H locs hG ls hl
  have hF : ∀ i, n < i → i < n + 47 → (fun i => if i = n + 1 then .inl (cy 3, (6, .inr (.inr (.inr (.inr (fq 6 6 (g20 o n))))))) else if i = n + 2 then .inl (cy 4, (10, .inr (.inr (.inr (.inr (fq 10 10 (g21 o n))))))) else fin cy o i) i = fin cy o i := by
    intro i i1 i2
    dsimp only
    by_cases c0 : i = n + 1
    · rw [if_pos c0, fq_end, c0, fin_Q (t := 20) (by have q9 := kf_1_2 hk; rw [← kd_nat]; exact_mod_cast q9) (by omega) (by omega)]; rfl
    rw [if_neg c0]
    by_cases c1 : i = n + 2
    · rw [if_pos c1, fq_end, c1, fin_Q (t := 21) (by have q9 := kf_1_3 hk; rw [← kd_nat]; exact_mod_cast q9) (by omega) (by omega)]; rfl
    rw [if_neg c1]
  rw [hQf]
  exact k_vret hx hb hr hlocks hG rfl (CX_out (fO_X0 (by rw [← kd_nat]; exact hk)) hF) (by decide) dX0_init_76

abbrev rm_X3_init : Room := { frames := 3, cells := 471, slots := 9509, locals := 53 }
set_option maxRecDepth 100000 in
set_option maxHeartbeats 4000000 in
theorem K_X3 (l : Launch) {D : va_G} {cy : Nat → ClassId} {o n : Nat} {C : Nat → va_E} (hk : kd (n : Int) = 3) (hC : C n = .inr (2, [.int (J 0), .int (J 0), .null, .int (J 0), .null])) : CoK l yX3_init (wj yX3_init cX3_init 2 none) rm_X3_init D cy o [.ref (o + n)] (n + 1) C (n + 472) (fun i => if i < n then C i else fin cy o i) := by
  refine k_ofW (cc := cX3_init) (maxL := 2) (ret := none) (by decide) rfl (Nat.le_of_ble_eq_true rfl) ?_
  intro p e s m args below meth c hx hb hr hlocks hml hin2 hown hts hK hNX H locs hG ls hl Qf hQf
  have hown : s.vm.findClass RX3 = some m.cls := hown
  have hl : lv_has ls 2 [(0, .ref (o + n))] := hl
  refine lv_aload_n hx hb dX3_init_0 rfl (lv_at hl 0 rfl) ?_
  refine W.objInit hx hb hown (hts _ (List.mem_cons_of_mem _ mo_RX3)) (hts _ (List.mem_cons_of_mem _ i_objInit)) (hts _ (List.mem_cons_of_mem _ k_objInit)) rfl (by rw [hml]; exact hl.1) rfl dX3_init_1 (Nat.le_of_ble_eq_true rfl) (Nat.le_of_ble_eq_true rfl) ?_
  refine W.eq (g2 := F0 m 4 ls []) rfl ?_
  have hG : GC D o (CX n C (.inr (2, [.int (J 0), .int (J 0), .null, .int (J 0), .null])) (fun i => if i = n + 48 then .inl (cy 5, (9, .inr (.inr (.inr (.inr (fq 0 9 (g22 o n))))))) else fin cy o i)) (n + 1) s H locs (0) := hG.congr (CX_in hC)
  refine lv_aload_n hx hb dX3_init_4 rfl (lv_at hl 0 rfl) ?_
  refine k_new hx hb hts (fun w h => List.mem_cons_of_mem _ (u_X0 w h)) tyX0 tyX0_ok hown (hts _ (List.mem_cons_of_mem _ cl_RX3_9)) (hts _ (List.mem_cons_of_mem _ it_RX0)) (hts _ (List.mem_cons_of_mem _ n_RX0)) hK hG (ci := 0) (fs := [.int (J 0), .int (J 0), .null, .null]) rfl (fun j hj => df_X0 j hj) (by show 0 + 1 ≤ 471; omega) (by show 0 + 4 ≤ 9509; omega) dX3_init_5 (fun H hG => ?_)
  refine W.widen (k := 1) (n := 4) (by omega) (by omega) ?_
  refine lv_dup hx hb dX3_init_8 rfl ?_
  refine k_sz (fun hz => ?_)
  refine k_cont (mc := 46) (ms := 946) hG (va_runI (As := []) (rest := [.ref (o + (n + 1)), .ref (o + n)]) ⟨hx, hb, hml, hown, hts⟩ (K_X0 l (o := o) (n := n + 1) (cy := cy) (D := D) (by have q9 := kf_3_2 hk; exact_mod_cast q9) (by unfold upC; rw [if_pos rfl])) (cwI 0 hts (gj_self k_X0_init) rfl rfl rfl (hts _ (List.mem_cons_of_mem _ n_RX0)) (hts _ (List.mem_cons_of_mem _ ml_RX3_11)) (hts _ (List.mem_cons_of_mem _ i_X0_init)) rfl (by decide +kernel) ⟨by exact Nat.le_of_ble_eq_true rfl, by exact Nat.le_of_ble_eq_true rfl⟩) (k_pre hK hNX hG hz) rfl rfl hl.1 rfl (lv_room (Nat.le_of_ble_eq_true rfl)) dX3_init_9 ⟨by show _ ≤ 471; omega, by show _ ≤ 9509; omega⟩) rfl (fun H locs hG => ?_)
  refine W.widen (k := 47) (n := 950) (by omega) (by omega) ?_
  have hG : GC D o (CX n C (.inr (2, [.int (J 0), .int (J 0), .null, .int (J 0), .null])) (fun i => if i = n + 48 then .inl (cy 5, (9, .inr (.inr (.inr (.inr (fq 0 9 (g22 o n))))))) else fin cy o i)) (n + 48) s H locs (47) := hG.congr (CX_call (by omega) (fun i i1 i2 => by (try dsimp only); rw [if_neg (by omega)]))
  refine k_putF (v := .ref (o + (n + 1))) (k := n) hx hb hts (fun w h => List.mem_cons_of_mem _ (u_X3 w h)) tyX3 tyX3_ok nmX3 hown hK hG (by omega) CX_at (ci := 2) rfl 2 ⟨by decide, by decide, Nat.le_of_ble_eq_true rfl⟩ hin2 rfl (hts _ (List.mem_cons_of_mem _ fl_RX3_12)) (hd := rfl) (hn := rfl) (hfit := rfl) (hdg := dX3_init_12) (fun H locs hG => ?_)
  have hG : GC D o (CX n C (.inr (2, [.int (J 0), .int (J 0), .ref (o + (n + 1)), .int (J 0), .null])) (fun i => if i = n + 48 then .inl (cy 5, (9, .inr (.inr (.inr (.inr (fq 0 9 (g22 o n))))))) else fin cy o i)) (n + 48) s H locs (47) := hG.congr CX_put
  refine lv_aload_n hx hb dX3_init_15 rfl (lv_at hl 0 rfl) ?_
  refine lv_bipush (v := J 9) hx hb dX3_init_16 (by decide) ?_
  refine k_newQ (cy := cy) (N := 9) (t := 5) (K := RX0) hx hb hown (hts _ (List.mem_cons_of_mem _ cl_RX3_9)) (hNX.ao 0 rfl) hK rfl hG rfl (by omega) (by show 47 + 1 ≤ 471; omega) (by show 950 + 9 ≤ 9509; omega) dX3_init_18 (fun H hG => ?_)
  have hG := hG.arr (k := n + 48) (f' := fq 0 9 (g22 o n)) (by omega) (by unfold upC; rw [if_pos rfl]) (fun j hj => by unfold fq; rw [if_pos ⟨by omega, hj⟩])
  have hG : GC D o (CX n C (.inr (2, [.int (J 0), .int (J 0), .ref (o + (n + 1)), .int (J 0), .null])) (fun i => if i = n + 48 then .inl (cy 5, (9, .inr (.inr (.inr (.inr (fq 0 9 (g22 o n))))))) else fin cy o i)) (n + 49) s H locs (48) := hG.congr (CX_new2 (by omega) (by (try dsimp only); rw [if_pos rfl]))
  refine W.widen (k := 48) (n := 959) (by omega) (by omega) ?_
  refine k_putF (v := .ref (o + (n + 48))) (k := n) hx hb hts (fun w h => List.mem_cons_of_mem _ (u_X3 w h)) tyX3 tyX3_ok nmX3 hown hK hG (by omega) CX_at (ci := 2) rfl 4 ⟨by decide, by decide, Nat.le_of_ble_eq_true rfl⟩ hin2 rfl (hts _ (List.mem_cons_of_mem _ fl_RX3_18)) (hd := rfl) (hn := rfl) (hfit := rfl) (hdg := dX3_init_21) (fun H locs hG => ?_)
  have hG : GC D o (CX n C (.inr (2, [.int (J 0), .int (J 0), .ref (o + (n + 1)), .int (J 0), .ref (o + (n + 48))])) (fun i => if i = n + 48 then .inl (cy 5, (9, .inr (.inr (.inr (.inr (fq 0 9 (g22 o n))))))) else fin cy o i)) (n + 49) s H locs (48) := hG.congr CX_put
  have lp26 : (∀ (H : Heap) (locs : List Loc), GC D o (CX n C (.inr (2, [.int (J 0), .int (J 0), .ref (o + (n + 1)), .int (J 0), .ref (o + (n + 48))])) (fun i => if i = n + 48 then .inl (cy 5, (9, .inr (.inr (.inr (.inr (fq 9 9 (g22 o n))))))) else fin cy o i)) (n + 472) s H locs (471) → ∀ ls : Array Slot, lv_has ls 2 [(1, .int (J ((9 : Nat) : Int))), (0, .ref (o + n))] → W p l e rm_X3_init s m args below meth c H locs 471 9509 Qf (F0 m 51 ls [])) → ∀ (r z : Nat), z + r = 9 → ∀ (H : Heap) (locs : List Loc), GC D o (CX n C (.inr (2, [.int (J 0), .int (J 0), .ref (o + (n + 1)), .int (J 0), .ref (o + (n + 48))])) (fun i => if i = n + 48 then .inl (cy 5, (9, .inr (.inr (.inr (.inr (fq z 9 (g22 o n))))))) else fin cy o i)) (n + (49 + 47 * z)) s H locs (48 + 47 * z) → ∀ ls : Array Slot, lv_has ls 2 [(1, .int (J ((z : Nat) : Int))), (0, .ref (o + n))] → W p l e rm_X3_init s m args below meth c H locs (48 + 47 * z) (959 + 950 * z) Qf (F0 m 26 ls []) := by
    intro cont r
    induction r with
    | zero =>
      intro z hz H locs hG ls hl
      have hz : z = 9 := by omega
      subst hz
      refine lv_iload_n hx hb dX3_init_26 rfl (lv_at hl 0 rfl) ?_
      refine lv_bipush (v := J 8) hx hb dX3_init_27 (by decide) ?_
      refine j_icmp_gt (tgt := 51) hx hb dX3_init_29 (by decide) ⟨by omega, by omega⟩ ⟨by omega, by omega⟩ (fun _ => ?_) (fun q => by omega)
      exact cont H locs hG ls hl
    | succ r ih =>
      intro z hz H locs hG ls hl
      refine lv_iload_n hx hb dX3_init_26 rfl (lv_at hl 0 rfl) ?_
      refine lv_bipush (v := J 8) hx hb dX3_init_27 (by decide) ?_
      refine j_icmp_gt (tgt := 51) hx hb dX3_init_29 (by decide) ⟨by omega, by omega⟩ ⟨by omega, by omega⟩ (fun q => by omega) (fun _ => ?_)
      refine lv_aload_n hx hb dX3_init_32 rfl (lv_at hl 1 rfl) ?_
      refine k_get (k := n) (v := .ref (o + (n + 48))) hx hb hts (fun w h => List.mem_cons_of_mem _ (u_X3 w h)) hown hK hG (by omega) CX_at (ci := 2) rfl 4 (by decide) rfl (hts _ (List.mem_cons_of_mem _ fl_RX3_18)) dX3_init_33 ?_
      refine lv_iload_n hx hb dX3_init_36 rfl (lv_at hl 0 rfl) ?_
      refine k_new hx hb hts (fun w h => List.mem_cons_of_mem _ (u_X0 w h)) tyX0 tyX0_ok hown (hts _ (List.mem_cons_of_mem _ cl_RX3_9)) (hts _ (List.mem_cons_of_mem _ it_RX0)) (hts _ (List.mem_cons_of_mem _ n_RX0)) hK hG (ci := 0) (fs := [.int (J 0), .int (J 0), .null, .null]) rfl (fun j hj => df_X0 j hj) (by show 48 + 47 * z + 1 ≤ 471; omega) (by show 959 + 950 * z + 4 ≤ 9509; omega) dX3_init_37 (fun H hG => ?_)
      refine lv_dup hx hb dX3_init_40 rfl ?_
      refine k_sz (fun hz => ?_)
      refine k_cont (mc := 46) (ms := 946) hG (va_runI (As := []) (rest := [.ref (o + (n + (49 + 47 * z))), .int (J (z : Int)), .ref (o + (n + 48))]) ⟨hx, hb, hml, hown, hts⟩ (K_X0 l (o := o) (n := n + (49 + 47 * z)) (cy := cy) (D := D) (by have q9 := ka_22 (i := (z : Int)) (kf_3_4 hk) ⟨by omega, by omega⟩; rw [show ((n + (49 + 47 * z) : Nat) : Int) = (n : Int) + 48 + 1 + 47 * (z : Int) from by omega]; exact q9) (by unfold upC; rw [if_pos rfl])) (cwI 0 hts (gj_self k_X0_init) rfl rfl rfl (hts _ (List.mem_cons_of_mem _ n_RX0)) (hts _ (List.mem_cons_of_mem _ ml_RX3_11)) (hts _ (List.mem_cons_of_mem _ i_X0_init)) rfl (by decide +kernel) ⟨by exact Nat.le_of_ble_eq_true rfl, by exact Nat.le_of_ble_eq_true rfl⟩) (k_pre hK hNX hG hz) rfl rfl hl.1 rfl (lv_room (Nat.le_of_ble_eq_true rfl)) dX3_init_41 ⟨by show _ ≤ 471; omega, by show _ ≤ 9509; omega⟩) rfl (fun H locs hG => ?_)
      have hG : GC D o (CX n C (.inr (2, [.int (J 0), .int (J 0), .ref (o + (n + 1)), .int (J 0), .ref (o + (n + 48))])) (fun i => if i = n + 48 then .inl (cy 5, (9, .inr (.inr (.inr (.inr (fq z 9 (g22 o n))))))) else fin cy o i)) (n + (49 + 47 * z) + 1 + 46) s H locs (48 + 47 * z + 1 + 46) := (hG.congr (CX_call (by omega) (fun i i1 i2 => by (try dsimp only); rw [if_neg (by omega)])))
      refine k_ast (k := n + 48) (t := 5) (q := n + (49 + 47 * z)) (ci := 0) (i := z) (N := 9) hx hb hK hG (by omega) (by rw [CX_lt (by omega)]; (try dsimp only); rw [if_pos rfl]) rfl (by omega) (by rw [CX_lt (by omega)]; (try dsimp only); rw [if_neg (by omega)]; exact fO_X0 (by rw [← kd_nat]; exact (by have q9 := ka_22 (i := (z : Int)) (kf_3_4 hk) ⟨by omega, by omega⟩; rw [show ((n + (49 + 47 * z) : Nat) : Int) = (n : Int) + 48 + 1 + 47 * (z : Int) from by omega]; exact q9))) rfl rfl (by omega) dX3_init_44 (fun H locs hG => ?_)
      rw [fq_up (x := o + (n + (49 + 47 * z))) (by omega) (by show o + (((n + 48 : Nat) : Int) + 1 + 47 * (z : Int)).toNat = _; omega)] at hG
      have hG : GC D o (CX n C (.inr (2, [.int (J 0), .int (J 0), .ref (o + (n + 1)), .int (J 0), .ref (o + (n + 48))])) (fun i => if i = n + 48 then .inl (cy 5, (9, .inr (.inr (.inr (.inr (fq (z + 1) 9 (g22 o n))))))) else fin cy o i)) (n + (49 + 47 * z) + 1 + 46) s H locs (48 + 47 * z + 1 + 46) := hG.congr (CX_st (by omega) (by (try dsimp only); rw [if_pos rfl]) (fun i hi => by (try dsimp only); simp only [if_neg (show ¬ i = n + 48 by omega)]))
      refine j_iinc hx hb dX3_init_45 hl (k := 0) rfl (by decide) (fun x ex ls hl => ?_)
      have hx9 : x = ((z + 1 : Nat) : Int) := by omega
      subst hx9
      have hl : lv_has ls 2 [(1, .int (J ((z + 1 : Nat) : Int))), (0, .ref (o + n))] := hl
      refine lv_goto (tgt := 26) hx hb dX3_init_48 (by decide) ?_
      refine W.widen (k := 48 + 47 * (z + 1)) (n := 959 + 950 * (z + 1)) (by omega) (by omega) ?_
      refine ih (z + 1) (by omega) H locs ?_ ls hl
      have e1 : n + (49 + 47 * z) + 1 + 46 = n + (49 + 47 * (z + 1)) := by omega
      have e2 : 48 + 47 * z + 1 + 46 = 48 + 47 * (z + 1) := by omega
      rw [e1, e2] at hG
      exact hG
  refine lv_iconst (v := J 0) hx hb dX3_init_24 (by decide) ?_
  refine lv_istore_n (lv' := [(1, .int (J 0)), (0, .ref (o + n))]) hx hb dX3_init_25 rfl hl (by decide) rfl (fun ls hl => ?_)
  refine lp26 (fun H locs hG ls hl => ?_) 9 0 (by omega) H locs hG ls hl
  have hF : ∀ i, n < i → i < n + 472 → (fun i => if i = n + 48 then .inl (cy 5, (9, .inr (.inr (.inr (.inr (fq 9 9 (g22 o n))))))) else fin cy o i) i = fin cy o i := by
    intro i i1 i2
    dsimp only
    by_cases c0 : i = n + 48
    · rw [if_pos c0, fq_end, c0, fin_Q (t := 22) (by have q9 := kf_3_4 hk; rw [← kd_nat]; exact_mod_cast q9) (by omega) (by omega)]; rfl
    rw [if_neg c0]
  rw [hQf]
  exact k_vret hx hb hr hlocks hG rfl (CX_out (fO_X3 (by rw [← kd_nat]; exact hk)) hF) (by decide) dX3_init_51

abbrev rm_X10_init : Room := { frames := 4, cells := 607, slots := 23235, locals := 74 }
set_option maxRecDepth 100000 in
set_option maxHeartbeats 4000000 in
theorem K_X10 (l : Launch) {D : va_G} {cy : Nat → ClassId} {o n : Nat} {C : Nat → va_E} (hk : kd (n : Int) = 10) (hn9 : n = 0) (hC : C n = .inr (9, [.null, .null, .null, .null, .null, .null, .null, .null, .null])) : CoK l yX10_init (wj yX10_init cX10_init 2 none) rm_X10_init D cy o [.ref (o + n)] (n + 1) C (n + 608) (fun i => if i < n then C i else fin cy o i) := by
  refine k_ofW (cc := cX10_init) (maxL := 2) (ret := none) (by decide) rfl (Nat.le_of_ble_eq_true rfl) ?_
  intro p e s m args below meth c hx hb hr hlocks hml hin2 hown hts hK hNX H locs hG ls hl Qf hQf
  have hown : s.vm.findClass RX10 = some m.cls := hown
  have hl : lv_has ls 2 [(0, .ref (o + n))] := hl
  refine lv_aload_n hx hb dX10_init_0 rfl (lv_at hl 0 rfl) ?_
  refine W.objInit hx hb hown (hts _ (List.mem_cons_of_mem _ mo_RX10)) (hts _ (List.mem_cons_of_mem _ i_objInit)) (hts _ (List.mem_cons_of_mem _ k_objInit)) rfl (by rw [hml]; exact hl.1) rfl dX10_init_1 (Nat.le_of_ble_eq_true rfl) (Nat.le_of_ble_eq_true rfl) ?_
  refine W.eq (g2 := F0 m 4 ls []) rfl ?_
  have hG : GC D o (CX n C (.inr (9, [.null, .null, .null, .null, .null, .null, .null, .null, .null])) (fun i => if i = n + 520 then .inl (cy 6, (6, .inr (.inr (.inr (.inr (fq 0 6 (g23 o n))))))) else if i = n + 569 then .inl (cy 7, (10, .inr (.inr (.inr (.inr (fq 0 10 (g24 o n))))))) else fin cy o i)) (n + 1) s H locs (0) := hG.congr (CX_in hC)
  refine lv_aload_n hx hb dX10_init_4 rfl (lv_at hl 0 rfl) ?_
  refine k_new hx hb hts (fun w h => List.mem_cons_of_mem _ (u_X0 w h)) tyX0 tyX0_ok hown (hts _ (List.mem_cons_of_mem _ cl_RX10_9)) (hts _ (List.mem_cons_of_mem _ it_RX0)) (hts _ (List.mem_cons_of_mem _ n_RX0)) hK hG (ci := 0) (fs := [.int (J 0), .int (J 0), .null, .null]) rfl (fun j hj => df_X0 j hj) (by show 0 + 1 ≤ 607; omega) (by show 0 + 4 ≤ 23235; omega) dX10_init_5 (fun H hG => ?_)
  refine W.widen (k := 1) (n := 4) (by omega) (by omega) ?_
  refine lv_dup hx hb dX10_init_8 rfl ?_
  refine k_sz (fun hz => ?_)
  refine k_cont (mc := 46) (ms := 946) hG (va_runI (As := []) (rest := [.ref (o + (n + 1)), .ref (o + n)]) ⟨hx, hb, hml, hown, hts⟩ (K_X0 l (o := o) (n := n + 1) (cy := cy) (D := D) (by have q9 := kf_10_0 hk; exact_mod_cast q9) (by unfold upC; rw [if_pos rfl])) (cwI 0 hts (gj_self k_X0_init) rfl rfl rfl (hts _ (List.mem_cons_of_mem _ n_RX0)) (hts _ (List.mem_cons_of_mem _ ml_RX10_11)) (hts _ (List.mem_cons_of_mem _ i_X0_init)) rfl (by decide +kernel) ⟨by exact Nat.le_of_ble_eq_true rfl, by exact Nat.le_of_ble_eq_true rfl⟩) (k_pre hK hNX hG hz) rfl rfl hl.1 rfl (lv_room (Nat.le_of_ble_eq_true rfl)) dX10_init_9 ⟨by show _ ≤ 607; omega, by show _ ≤ 23235; omega⟩) rfl (fun H locs hG => ?_)
  refine W.widen (k := 47) (n := 950) (by omega) (by omega) ?_
  have hG : GC D o (CX n C (.inr (9, [.null, .null, .null, .null, .null, .null, .null, .null, .null])) (fun i => if i = n + 520 then .inl (cy 6, (6, .inr (.inr (.inr (.inr (fq 0 6 (g23 o n))))))) else if i = n + 569 then .inl (cy 7, (10, .inr (.inr (.inr (.inr (fq 0 10 (g24 o n))))))) else fin cy o i)) (n + 48) s H locs (47) := hG.congr (CX_call (by omega) (fun i i1 i2 => by (try dsimp only); rw [if_neg (by omega)]; rw [if_neg (by omega)]))
  refine k_putF (v := .ref (o + (n + 1))) (k := n) hx hb hts (fun w h => List.mem_cons_of_mem _ (u_X10 w h)) tyX10 tyX10_ok nmX10 hown hK hG (by omega) CX_at (ci := 9) rfl 0 ⟨by decide, by decide, Nat.le_of_ble_eq_true rfl⟩ hin2 rfl (hts _ (List.mem_cons_of_mem _ fl_RX10_12)) (hd := rfl) (hn := rfl) (hfit := rfl) (hdg := dX10_init_12) (fun H locs hG => ?_)
  have hG : GC D o (CX n C (.inr (9, [.ref (o + (n + 1)), .null, .null, .null, .null, .null, .null, .null, .null])) (fun i => if i = n + 520 then .inl (cy 6, (6, .inr (.inr (.inr (.inr (fq 0 6 (g23 o n))))))) else if i = n + 569 then .inl (cy 7, (10, .inr (.inr (.inr (.inr (fq 0 10 (g24 o n))))))) else fin cy o i)) (n + 48) s H locs (47) := hG.congr CX_put
  refine lv_aload_n hx hb dX10_init_15 rfl (lv_at hl 0 rfl) ?_
  refine k_new hx hb hts (fun w h => List.mem_cons_of_mem _ (u_X3 w h)) tyX3 tyX3_ok hown (hts _ (List.mem_cons_of_mem _ cl_RX10_16)) (hts _ (List.mem_cons_of_mem _ it_RX3)) (hts _ (List.mem_cons_of_mem _ n_RX3)) hK hG (ci := 2) (fs := [.int (J 0), .int (J 0), .null, .int (J 0), .null]) rfl (fun j hj => df_X3 j hj) (by show 47 + 1 ≤ 607; omega) (by show 950 + 5 ≤ 23235; omega) dX10_init_16 (fun H hG => ?_)
  refine W.widen (k := 48) (n := 955) (by omega) (by omega) ?_
  refine lv_dup hx hb dX10_init_19 rfl ?_
  refine k_sz (fun hz => ?_)
  refine k_cont (mc := 471) (ms := 9509) hG (va_runI (As := []) (rest := [.ref (o + (n + 48)), .ref (o + n)]) ⟨hx, hb, hml, hown, hts⟩ (K_X3 l (o := o) (n := n + 48) (cy := cy) (D := D) (by have q9 := kf_10_1 hk; exact_mod_cast q9) (by unfold upC; rw [if_pos rfl])) (cwI 0 hts (gj_self k_X3_init) rfl rfl rfl (hts _ (List.mem_cons_of_mem _ n_RX3)) (hts _ (List.mem_cons_of_mem _ ml_RX10_18)) (hts _ (List.mem_cons_of_mem _ i_X3_init)) rfl (by decide +kernel) ⟨by exact Nat.le_of_ble_eq_true rfl, by exact Nat.le_of_ble_eq_true rfl⟩) (k_pre hK hNX hG hz) rfl rfl hl.1 rfl (lv_room (Nat.le_of_ble_eq_true rfl)) dX10_init_20 ⟨by show _ ≤ 607; omega, by show _ ≤ 23235; omega⟩) rfl (fun H locs hG => ?_)
  refine W.widen (k := 519) (n := 10464) (by omega) (by omega) ?_
  have hG : GC D o (CX n C (.inr (9, [.ref (o + (n + 1)), .null, .null, .null, .null, .null, .null, .null, .null])) (fun i => if i = n + 520 then .inl (cy 6, (6, .inr (.inr (.inr (.inr (fq 0 6 (g23 o n))))))) else if i = n + 569 then .inl (cy 7, (10, .inr (.inr (.inr (.inr (fq 0 10 (g24 o n))))))) else fin cy o i)) (n + 520) s H locs (519) := hG.congr (CX_call (by omega) (fun i i1 i2 => by (try dsimp only); rw [if_neg (by omega)]; rw [if_neg (by omega)]))
  refine k_putF (v := .ref (o + (n + 48))) (k := n) hx hb hts (fun w h => List.mem_cons_of_mem _ (u_X10 w h)) tyX10 tyX10_ok nmX10 hown hK hG (by omega) CX_at (ci := 9) rfl 1 ⟨by decide, by decide, Nat.le_of_ble_eq_true rfl⟩ hin2 rfl (hts _ (List.mem_cons_of_mem _ fl_RX10_19)) (hd := rfl) (hn := rfl) (hfit := rfl) (hdg := dX10_init_23) (fun H locs hG => ?_)
  have hG : GC D o (CX n C (.inr (9, [.ref (o + (n + 1)), .ref (o + (n + 48)), .null, .null, .null, .null, .null, .null, .null])) (fun i => if i = n + 520 then .inl (cy 6, (6, .inr (.inr (.inr (.inr (fq 0 6 (g23 o n))))))) else if i = n + 569 then .inl (cy 7, (10, .inr (.inr (.inr (.inr (fq 0 10 (g24 o n))))))) else fin cy o i)) (n + 520) s H locs (519) := hG.congr CX_put
  refine lv_aload_n hx hb dX10_init_26 rfl (lv_at hl 0 rfl) ?_
  refine lv_bipush (v := J 6) hx hb dX10_init_27 (by decide) ?_
  refine k_newQ (cy := cy) (N := 6) (t := 6) (K := RX7) hx hb hown (hts _ (List.mem_cons_of_mem _ cl_RX10_23)) (hNX.ao 3 rfl) hK rfl hG rfl (by omega) (by show 519 + 1 ≤ 607; omega) (by show 10464 + 6 ≤ 23235; omega) dX10_init_29 (fun H hG => ?_)
  have hG := hG.arr (k := n + 520) (f' := fq 0 6 (g23 o n)) (by omega) (by unfold upC; rw [if_pos rfl]) (fun j hj => by unfold fq; rw [if_pos ⟨by omega, hj⟩])
  have hG : GC D o (CX n C (.inr (9, [.ref (o + (n + 1)), .ref (o + (n + 48)), .null, .null, .null, .null, .null, .null, .null])) (fun i => if i = n + 520 then .inl (cy 6, (6, .inr (.inr (.inr (.inr (fq 0 6 (g23 o n))))))) else if i = n + 569 then .inl (cy 7, (10, .inr (.inr (.inr (.inr (fq 0 10 (g24 o n))))))) else fin cy o i)) (n + 521) s H locs (520) := hG.congr (CX_new2 (by omega) (by (try dsimp only); rw [if_pos rfl]))
  refine W.widen (k := 520) (n := 10470) (by omega) (by omega) ?_
  refine k_putF (v := .ref (o + (n + 520))) (k := n) hx hb hts (fun w h => List.mem_cons_of_mem _ (u_X10 w h)) tyX10 tyX10_ok nmX10 hown hK hG (by omega) CX_at (ci := 9) rfl 2 ⟨by decide, by decide, Nat.le_of_ble_eq_true rfl⟩ hin2 rfl (hts _ (List.mem_cons_of_mem _ fl_RX10_25)) (hd := rfl) (hn := rfl) (hfit := rfl) (hdg := dX10_init_32) (fun H locs hG => ?_)
  have hG : GC D o (CX n C (.inr (9, [.ref (o + (n + 1)), .ref (o + (n + 48)), .ref (o + (n + 520)), .null, .null, .null, .null, .null, .null])) (fun i => if i = n + 520 then .inl (cy 6, (6, .inr (.inr (.inr (.inr (fq 0 6 (g23 o n))))))) else if i = n + 569 then .inl (cy 7, (10, .inr (.inr (.inr (.inr (fq 0 10 (g24 o n))))))) else fin cy o i)) (n + 521) s H locs (520) := hG.congr CX_put
  have lp37 : (∀ (H : Heap) (locs : List Loc), GC D o (CX n C (.inr (9, [.ref (o + (n + 1)), .ref (o + (n + 48)), .ref (o + (n + 520)), .null, .null, .null, .null, .null, .null])) (fun i => if i = n + 520 then .inl (cy 6, (6, .inr (.inr (.inr (.inr (fq 6 6 (g23 o n))))))) else if i = n + 569 then .inl (cy 7, (10, .inr (.inr (.inr (.inr (fq 0 10 (g24 o n))))))) else fin cy o i)) (n + 569) s H locs (568) → ∀ ls : Array Slot, lv_has ls 2 [(1, .int (J ((6 : Nat) : Int))), (0, .ref (o + n))] → W p l e rm_X10_init s m args below meth c H locs 568 21492 Qf (F0 m 62 ls [])) → ∀ (r z : Nat), z + r = 6 → ∀ (H : Heap) (locs : List Loc), GC D o (CX n C (.inr (9, [.ref (o + (n + 1)), .ref (o + (n + 48)), .ref (o + (n + 520)), .null, .null, .null, .null, .null, .null])) (fun i => if i = n + 520 then .inl (cy 6, (6, .inr (.inr (.inr (.inr (fq z 6 (g23 o n))))))) else if i = n + 569 then .inl (cy 7, (10, .inr (.inr (.inr (.inr (fq 0 10 (g24 o n))))))) else fin cy o i)) (n + (521 + 8 * z)) s H locs (520 + 8 * z) → ∀ ls : Array Slot, lv_has ls 2 [(1, .int (J ((z : Nat) : Int))), (0, .ref (o + n))] → W p l e rm_X10_init s m args below meth c H locs (520 + 8 * z) (10470 + 1837 * z) Qf (F0 m 37 ls []) := by
    intro cont r
    induction r with
    | zero =>
      intro z hz H locs hG ls hl
      have hz : z = 6 := by omega
      subst hz
      refine lv_iload_n hx hb dX10_init_37 rfl (lv_at hl 0 rfl) ?_
      refine lv_bipush (v := J 6) hx hb dX10_init_38 (by decide) ?_
      refine j_icmp_ge (tgt := 62) hx hb dX10_init_40 (by decide) ⟨by omega, by omega⟩ ⟨by omega, by omega⟩ (fun _ => ?_) (fun q => by omega)
      exact cont H locs hG ls hl
    | succ r ih =>
      intro z hz H locs hG ls hl
      refine lv_iload_n hx hb dX10_init_37 rfl (lv_at hl 0 rfl) ?_
      refine lv_bipush (v := J 6) hx hb dX10_init_38 (by decide) ?_
      refine j_icmp_ge (tgt := 62) hx hb dX10_init_40 (by decide) ⟨by omega, by omega⟩ ⟨by omega, by omega⟩ (fun q => by omega) (fun _ => ?_)
      refine lv_aload_n hx hb dX10_init_43 rfl (lv_at hl 1 rfl) ?_
      refine k_get (k := n) (v := .ref (o + (n + 520))) hx hb hts (fun w h => List.mem_cons_of_mem _ (u_X10 w h)) hown hK hG (by omega) CX_at (ci := 9) rfl 2 (by decide) rfl (hts _ (List.mem_cons_of_mem _ fl_RX10_25)) dX10_init_44 ?_
      refine lv_iload_n hx hb dX10_init_47 rfl (lv_at hl 0 rfl) ?_
      refine k_new hx hb hts (fun w h => List.mem_cons_of_mem _ (u_X7 w h)) tyX7 tyX7_ok hown (hts _ (List.mem_cons_of_mem _ cl_RX10_23)) (hts _ (List.mem_cons_of_mem _ it_RX7)) (hts _ (List.mem_cons_of_mem _ n_RX7)) hK hG (ci := 6) (fs := [.int (J 0), .int (J 0), .int (J 0), .int (J 0), .int (J 0), .int (J 0), .null, .null, .null, .null, .null, .null, .null, .int (J 0), .int (J 0), .int (J 0)]) rfl (fun j hj => df_X7 j hj) (by show 520 + 8 * z + 1 ≤ 607; omega) (by show 10470 + 1837 * z + 16 ≤ 23235; omega) dX10_init_48 (fun H hG => ?_)
      refine lv_dup hx hb dX10_init_51 rfl ?_
      refine k_sz (fun hz => ?_)
      refine k_cont (mc := 7) (ms := 1821) hG (va_runIN (As := []) (rest := [.ref (o + (n + (521 + 8 * z))), .int (J (z : Int)), .ref (o + (n + 520))]) ⟨hx, hb, hml, hown, hts⟩ (K_X7 l (o := o) (n := n + (521 + 8 * z)) (cy := cy) (D := D) (by have q9 := ka_23 (i := (z : Int)) (kf_10_2 hk) ⟨by omega, by omega⟩; rw [show ((n + (521 + 8 * z) : Nat) : Int) = (n : Int) + 520 + 1 + 8 * (z : Int) from by omega]; exact q9) (by unfold upC; rw [if_pos rfl])) ⟨va_cnB 0 hts (gj_self k_X7_init) rfl rfl rfl (hNX.nest 2 rfl) (hts _ (List.mem_cons_of_mem _ n_RX7)) (by decide +kernel) ⟨by exact Nat.le_of_ble_eq_true rfl, by exact Nat.le_of_ble_eq_true rfl⟩, rfl, hts _ (List.mem_cons_of_mem _ i_X7_init)⟩ (k_pre hK hNX hG hz) rfl rfl hl.1 rfl (lv_room (Nat.le_of_ble_eq_true rfl)) dX10_init_52 ⟨by show _ ≤ 607; omega, by show _ ≤ 23235; omega⟩) rfl (fun H locs hG => ?_)
      have hG : GC D o (CX n C (.inr (9, [.ref (o + (n + 1)), .ref (o + (n + 48)), .ref (o + (n + 520)), .null, .null, .null, .null, .null, .null])) (fun i => if i = n + 520 then .inl (cy 6, (6, .inr (.inr (.inr (.inr (fq z 6 (g23 o n))))))) else if i = n + 569 then .inl (cy 7, (10, .inr (.inr (.inr (.inr (fq 0 10 (g24 o n))))))) else fin cy o i)) (n + (521 + 8 * z) + 1 + 7) s H locs (520 + 8 * z + 1 + 7) := (hG.congr (CX_call (by omega) (fun i i1 i2 => by (try dsimp only); rw [if_neg (by omega)]; rw [if_neg (by omega)])))
      refine k_ast (k := n + 520) (t := 6) (q := n + (521 + 8 * z)) (ci := 6) (i := z) (N := 6) hx hb hK hG (by omega) (by rw [CX_lt (by omega)]; (try dsimp only); rw [if_pos rfl]) rfl (by omega) (by rw [CX_lt (by omega)]; (try dsimp only); rw [if_neg (by omega)]; rw [if_neg (by omega)]; exact fO_X7 (by rw [← kd_nat]; exact (by have q9 := ka_23 (i := (z : Int)) (kf_10_2 hk) ⟨by omega, by omega⟩; rw [show ((n + (521 + 8 * z) : Nat) : Int) = (n : Int) + 520 + 1 + 8 * (z : Int) from by omega]; exact q9))) rfl rfl (by omega) dX10_init_55 (fun H locs hG => ?_)
      rw [fq_up (x := o + (n + (521 + 8 * z))) (by omega) (by show o + (((n + 520 : Nat) : Int) + 1 + 8 * (z : Int)).toNat = _; omega)] at hG
      have hG : GC D o (CX n C (.inr (9, [.ref (o + (n + 1)), .ref (o + (n + 48)), .ref (o + (n + 520)), .null, .null, .null, .null, .null, .null])) (fun i => if i = n + 520 then .inl (cy 6, (6, .inr (.inr (.inr (.inr (fq (z + 1) 6 (g23 o n))))))) else if i = n + 569 then .inl (cy 7, (10, .inr (.inr (.inr (.inr (fq 0 10 (g24 o n))))))) else fin cy o i)) (n + (521 + 8 * z) + 1 + 7) s H locs (520 + 8 * z + 1 + 7) := hG.congr (CX_st (by omega) (by (try dsimp only); rw [if_pos rfl]) (fun i hi => by (try dsimp only); simp only [if_neg (show ¬ i = n + 520 by omega)]))
      refine j_iinc hx hb dX10_init_56 hl (k := 0) rfl (by decide) (fun x ex ls hl => ?_)
      have hx9 : x = ((z + 1 : Nat) : Int) := by omega
      subst hx9
      have hl : lv_has ls 2 [(1, .int (J ((z + 1 : Nat) : Int))), (0, .ref (o + n))] := hl
      refine lv_goto (tgt := 37) hx hb dX10_init_59 (by decide) ?_
      refine W.widen (k := 520 + 8 * (z + 1)) (n := 10470 + 1837 * (z + 1)) (by omega) (by omega) ?_
      refine ih (z + 1) (by omega) H locs ?_ ls hl
      have e1 : n + (521 + 8 * z) + 1 + 7 = n + (521 + 8 * (z + 1)) := by omega
      have e2 : 520 + 8 * z + 1 + 7 = 520 + 8 * (z + 1) := by omega
      rw [e1, e2] at hG
      exact hG
  refine lv_iconst (v := J 0) hx hb dX10_init_35 (by decide) ?_
  refine lv_istore_n (lv' := [(1, .int (J 0)), (0, .ref (o + n))]) hx hb dX10_init_36 rfl hl (by decide) rfl (fun ls hl => ?_)
  refine lp37 (fun H locs hG ls hl => ?_) 6 0 (by omega) H locs hG ls hl
  refine lv_aload_n hx hb dX10_init_62 rfl (lv_at hl 1 rfl) ?_
  refine lv_bipush (v := J 10) hx hb dX10_init_63 (by decide) ?_
  refine k_newQ (cy := cy) (N := 10) (t := 7) (K := RX5) hx hb hown (hts _ (List.mem_cons_of_mem _ cl_RX10_30)) (hNX.ao 2 rfl) hK rfl hG rfl (by omega) (by show 568 + 1 ≤ 607; omega) (by show 21492 + 10 ≤ 23235; omega) dX10_init_65 (fun H hG => ?_)
  have hG := hG.arr (k := n + 569) (f' := fq 0 10 (g24 o n)) (by omega) (by unfold upC; rw [if_pos rfl]) (fun j hj => by unfold fq; rw [if_pos ⟨by omega, hj⟩])
  have hG : GC D o (CX n C (.inr (9, [.ref (o + (n + 1)), .ref (o + (n + 48)), .ref (o + (n + 520)), .null, .null, .null, .null, .null, .null])) (fun i => if i = n + 520 then .inl (cy 6, (6, .inr (.inr (.inr (.inr (fq 6 6 (g23 o n))))))) else if i = n + 569 then .inl (cy 7, (10, .inr (.inr (.inr (.inr (fq 0 10 (g24 o n))))))) else fin cy o i)) (n + 570) s H locs (569) := hG.congr (CX_new2 (by omega) (by (try dsimp only); rw [if_neg (by omega)]; rw [if_pos rfl]))
  refine W.widen (k := 569) (n := 21502) (by omega) (by omega) ?_
  refine k_putF (v := .ref (o + (n + 569))) (k := n) hx hb hts (fun w h => List.mem_cons_of_mem _ (u_X10 w h)) tyX10 tyX10_ok nmX10 hown hK hG (by omega) CX_at (ci := 9) rfl 3 ⟨by decide, by decide, Nat.le_of_ble_eq_true rfl⟩ hin2 rfl (hts _ (List.mem_cons_of_mem _ fl_RX10_32)) (hd := rfl) (hn := rfl) (hfit := rfl) (hdg := dX10_init_68) (fun H locs hG => ?_)
  have hG : GC D o (CX n C (.inr (9, [.ref (o + (n + 1)), .ref (o + (n + 48)), .ref (o + (n + 520)), .ref (o + (n + 569)), .null, .null, .null, .null, .null])) (fun i => if i = n + 520 then .inl (cy 6, (6, .inr (.inr (.inr (.inr (fq 6 6 (g23 o n))))))) else if i = n + 569 then .inl (cy 7, (10, .inr (.inr (.inr (.inr (fq 0 10 (g24 o n))))))) else fin cy o i)) (n + 570) s H locs (569) := hG.congr CX_put
  have lp73 : (∀ (H : Heap) (locs : List Loc), GC D o (CX n C (.inr (9, [.ref (o + (n + 1)), .ref (o + (n + 48)), .ref (o + (n + 520)), .ref (o + (n + 569)), .null, .null, .null, .null, .null])) (fun i => if i = n + 520 then .inl (cy 6, (6, .inr (.inr (.inr (.inr (fq 6 6 (g23 o n))))))) else if i = n + 569 then .inl (cy 7, (10, .inr (.inr (.inr (.inr (fq 10 10 (g24 o n))))))) else fin cy o i)) (n + 600) s H locs (599) → ∀ ls : Array Slot, lv_has ls 2 [(1, .int (J ((10 : Nat) : Int))), (0, .ref (o + n))] → W p l e rm_X10_init s m args below meth c H locs 599 22352 Qf (F0 m 98 ls [])) → ∀ (r z : Nat), z + r = 10 → ∀ (H : Heap) (locs : List Loc), GC D o (CX n C (.inr (9, [.ref (o + (n + 1)), .ref (o + (n + 48)), .ref (o + (n + 520)), .ref (o + (n + 569)), .null, .null, .null, .null, .null])) (fun i => if i = n + 520 then .inl (cy 6, (6, .inr (.inr (.inr (.inr (fq 6 6 (g23 o n))))))) else if i = n + 569 then .inl (cy 7, (10, .inr (.inr (.inr (.inr (fq z 10 (g24 o n))))))) else fin cy o i)) (n + (570 + 3 * z)) s H locs (569 + 3 * z) → ∀ ls : Array Slot, lv_has ls 2 [(1, .int (J ((z : Nat) : Int))), (0, .ref (o + n))] → W p l e rm_X10_init s m args below meth c H locs (569 + 3 * z) (21502 + 85 * z) Qf (F0 m 73 ls []) := by
    intro cont r
    induction r with
    | zero =>
      intro z hz H locs hG ls hl
      have hz : z = 10 := by omega
      subst hz
      refine lv_iload_n hx hb dX10_init_73 rfl (lv_at hl 0 rfl) ?_
      refine lv_bipush (v := J 10) hx hb dX10_init_74 (by decide) ?_
      refine j_icmp_ge (tgt := 98) hx hb dX10_init_76 (by decide) ⟨by omega, by omega⟩ ⟨by omega, by omega⟩ (fun _ => ?_) (fun q => by omega)
      exact cont H locs hG ls hl
    | succ r ih =>
      intro z hz H locs hG ls hl
      refine lv_iload_n hx hb dX10_init_73 rfl (lv_at hl 0 rfl) ?_
      refine lv_bipush (v := J 10) hx hb dX10_init_74 (by decide) ?_
      refine j_icmp_ge (tgt := 98) hx hb dX10_init_76 (by decide) ⟨by omega, by omega⟩ ⟨by omega, by omega⟩ (fun q => by omega) (fun _ => ?_)
      refine lv_aload_n hx hb dX10_init_79 rfl (lv_at hl 1 rfl) ?_
      refine k_get (k := n) (v := .ref (o + (n + 569))) hx hb hts (fun w h => List.mem_cons_of_mem _ (u_X10 w h)) hown hK hG (by omega) CX_at (ci := 9) rfl 3 (by decide) rfl (hts _ (List.mem_cons_of_mem _ fl_RX10_32)) dX10_init_80 ?_
      refine lv_iload_n hx hb dX10_init_83 rfl (lv_at hl 0 rfl) ?_
      refine k_new hx hb hts (fun w h => List.mem_cons_of_mem _ (u_X5 w h)) tyX5 tyX5_ok hown (hts _ (List.mem_cons_of_mem _ cl_RX10_30)) (hts _ (List.mem_cons_of_mem _ it_RX5)) (hts _ (List.mem_cons_of_mem _ n_RX5)) hK hG (ci := 4) (fs := [.int (J 0), .int (J 0), .int (J 0), .null, .null]) rfl (fun j hj => df_X5 j hj) (by show 569 + 3 * z + 1 ≤ 607; omega) (by show 21502 + 85 * z + 5 ≤ 23235; omega) dX10_init_84 (fun H hG => ?_)
      refine lv_dup hx hb dX10_init_87 rfl ?_
      refine k_sz (fun hz => ?_)
      refine k_cont (mc := 2) (ms := 80) hG (va_runIN (As := []) (rest := [.ref (o + (n + (570 + 3 * z))), .int (J (z : Int)), .ref (o + (n + 569))]) ⟨hx, hb, hml, hown, hts⟩ (K_X5 l (o := o) (n := n + (570 + 3 * z)) (cy := cy) (D := D) (by have q9 := ka_24 (i := (z : Int)) (kf_10_3 hk) ⟨by omega, by omega⟩; rw [show ((n + (570 + 3 * z) : Nat) : Int) = (n : Int) + 569 + 1 + 3 * (z : Int) from by omega]; exact q9) (by unfold upC; rw [if_pos rfl])) ⟨va_cnB 0 hts (gj_self k_X5_init) rfl rfl rfl (hNX.nest 3 rfl) (hts _ (List.mem_cons_of_mem _ n_RX5)) (by decide +kernel) ⟨by exact Nat.le_of_ble_eq_true rfl, by exact Nat.le_of_ble_eq_true rfl⟩, rfl, hts _ (List.mem_cons_of_mem _ i_X5_init)⟩ (k_pre hK hNX hG hz) rfl rfl hl.1 rfl (lv_room (Nat.le_of_ble_eq_true rfl)) dX10_init_88 ⟨by show _ ≤ 607; omega, by show _ ≤ 23235; omega⟩) rfl (fun H locs hG => ?_)
      have hG : GC D o (CX n C (.inr (9, [.ref (o + (n + 1)), .ref (o + (n + 48)), .ref (o + (n + 520)), .ref (o + (n + 569)), .null, .null, .null, .null, .null])) (fun i => if i = n + 520 then .inl (cy 6, (6, .inr (.inr (.inr (.inr (fq 6 6 (g23 o n))))))) else if i = n + 569 then .inl (cy 7, (10, .inr (.inr (.inr (.inr (fq z 10 (g24 o n))))))) else fin cy o i)) (n + (570 + 3 * z) + 1 + 2) s H locs (569 + 3 * z + 1 + 2) := (hG.congr (CX_call (by omega) (fun i i1 i2 => by (try dsimp only); rw [if_neg (by omega)]; rw [if_neg (by omega)])))
      refine k_ast (k := n + 569) (t := 7) (q := n + (570 + 3 * z)) (ci := 4) (i := z) (N := 10) hx hb hK hG (by omega) (by rw [CX_lt (by omega)]; (try dsimp only); rw [if_neg (by omega)]; rw [if_pos rfl]) rfl (by omega) (by rw [CX_lt (by omega)]; (try dsimp only); rw [if_neg (by omega)]; rw [if_neg (by omega)]; exact fO_X5 (by rw [← kd_nat]; exact (by have q9 := ka_24 (i := (z : Int)) (kf_10_3 hk) ⟨by omega, by omega⟩; rw [show ((n + (570 + 3 * z) : Nat) : Int) = (n : Int) + 569 + 1 + 3 * (z : Int) from by omega]; exact q9))) rfl rfl (by omega) dX10_init_91 (fun H locs hG => ?_)
      rw [fq_up (x := o + (n + (570 + 3 * z))) (by omega) (by show o + (((n + 569 : Nat) : Int) + 1 + 3 * (z : Int)).toNat = _; omega)] at hG
      have hG : GC D o (CX n C (.inr (9, [.ref (o + (n + 1)), .ref (o + (n + 48)), .ref (o + (n + 520)), .ref (o + (n + 569)), .null, .null, .null, .null, .null])) (fun i => if i = n + 520 then .inl (cy 6, (6, .inr (.inr (.inr (.inr (fq 6 6 (g23 o n))))))) else if i = n + 569 then .inl (cy 7, (10, .inr (.inr (.inr (.inr (fq (z + 1) 10 (g24 o n))))))) else fin cy o i)) (n + (570 + 3 * z) + 1 + 2) s H locs (569 + 3 * z + 1 + 2) := hG.congr (CX_st (by omega) (by (try dsimp only); rw [if_neg (by omega)]; rw [if_pos rfl]) (fun i hi => by (try dsimp only); simp only [if_neg (show ¬ i = n + 569 by omega)]))
      refine j_iinc hx hb dX10_init_92 hl (k := 0) rfl (by decide) (fun x ex ls hl => ?_)
      have hx9 : x = ((z + 1 : Nat) : Int) := by omega
      subst hx9
      have hl : lv_has ls 2 [(1, .int (J ((z + 1 : Nat) : Int))), (0, .ref (o + n))] := hl
      refine lv_goto (tgt := 73) hx hb dX10_init_95 (by decide) ?_
      refine W.widen (k := 569 + 3 * (z + 1)) (n := 21502 + 85 * (z + 1)) (by omega) (by omega) ?_
      refine ih (z + 1) (by omega) H locs ?_ ls hl
      have e1 : n + (570 + 3 * z) + 1 + 2 = n + (570 + 3 * (z + 1)) := by omega
      have e2 : 569 + 3 * z + 1 + 2 = 569 + 3 * (z + 1) := by omega
      rw [e1, e2] at hG
      exact hG
  refine lv_iconst (v := J 0) hx hb dX10_init_71 (by decide) ?_
  refine lv_istore_n (lv' := [(1, .int (J 0)), (0, .ref (o + n))]) hx hb dX10_init_72 rfl hl (by decide) rfl (fun ls hl => ?_)
  refine lp73 (fun H locs hG ls hl => ?_) 10 0 (by omega) H locs hG ls hl
  refine lv_aload_n hx hb dX10_init_98 rfl (lv_at hl 1 rfl) ?_
  refine k_new hx hb hts (fun w h => List.mem_cons_of_mem _ (u_X2 w h)) tyX2 tyX2_ok hown (hts _ (List.mem_cons_of_mem _ cl_RX10_37)) (hts _ (List.mem_cons_of_mem _ it_RX2)) (hts _ (List.mem_cons_of_mem _ n_RX2)) hK hG (ci := 1) (fs := [.int (J 0), .int (J 0), .int (J 0), .int (J 0), .int (J 0)]) rfl (fun j hj => df_X2 j hj) (by show 599 + 1 ≤ 607; omega) (by show 22352 + 5 ≤ 23235; omega) dX10_init_99 (fun H hG => ?_)
  refine W.widen (k := 600) (n := 22357) (by omega) (by omega) ?_
  refine lv_dup hx hb dX10_init_102 rfl ?_
  refine k_sz (fun hz => ?_)
  refine k_cont (mc := 0) (ms := 0) hG (va_runIN (As := []) (rest := [.ref (o + (n + 600)), .ref (o + n)]) ⟨hx, hb, hml, hown, hts⟩ (K_X2 l (o := o) (n := n + 600) (cy := cy) (D := D) (by have q9 := kf_10_4 hk; exact_mod_cast q9) (by unfold upC; rw [if_pos rfl])) ⟨va_cnB 0 hts (gj_self k_X2_init) rfl rfl rfl (hNX.nest 4 rfl) (hts _ (List.mem_cons_of_mem _ n_RX2)) (by decide +kernel) ⟨by exact Nat.le_of_ble_eq_true rfl, by exact Nat.le_of_ble_eq_true rfl⟩, rfl, hts _ (List.mem_cons_of_mem _ i_X2_init)⟩ (k_pre hK hNX hG hz) rfl rfl hl.1 rfl (lv_room (Nat.le_of_ble_eq_true rfl)) dX10_init_103 ⟨by show _ ≤ 607; omega, by show _ ≤ 23235; omega⟩) rfl (fun H locs hG => ?_)
  refine W.widen (k := 600) (n := 22357) (by omega) (by omega) ?_
  have hG : GC D o (CX n C (.inr (9, [.ref (o + (n + 1)), .ref (o + (n + 48)), .ref (o + (n + 520)), .ref (o + (n + 569)), .null, .null, .null, .null, .null])) (fun i => if i = n + 520 then .inl (cy 6, (6, .inr (.inr (.inr (.inr (fq 6 6 (g23 o n))))))) else if i = n + 569 then .inl (cy 7, (10, .inr (.inr (.inr (.inr (fq 10 10 (g24 o n))))))) else fin cy o i)) (n + 601) s H locs (600) := hG.congr (CX_call (by omega) (fun i i1 i2 => by (try dsimp only); rw [if_neg (by omega)]; rw [if_neg (by omega)]))
  refine k_putF (v := .ref (o + (n + 600))) (k := n) hx hb hts (fun w h => List.mem_cons_of_mem _ (u_X10 w h)) tyX10 tyX10_ok nmX10 hown hK hG (by omega) CX_at (ci := 9) rfl 4 ⟨by decide, by decide, Nat.le_of_ble_eq_true rfl⟩ hin2 rfl (hts _ (List.mem_cons_of_mem _ fl_RX10_40)) (hd := rfl) (hn := rfl) (hfit := rfl) (hdg := dX10_init_106) (fun H locs hG => ?_)
  have hG : GC D o (CX n C (.inr (9, [.ref (o + (n + 1)), .ref (o + (n + 48)), .ref (o + (n + 520)), .ref (o + (n + 569)), .ref (o + (n + 600)), .null, .null, .null, .null])) (fun i => if i = n + 520 then .inl (cy 6, (6, .inr (.inr (.inr (.inr (fq 6 6 (g23 o n))))))) else if i = n + 569 then .inl (cy 7, (10, .inr (.inr (.inr (.inr (fq 10 10 (g24 o n))))))) else fin cy o i)) (n + 601) s H locs (600) := hG.congr CX_put
  refine lv_aload_n hx hb dX10_init_109 rfl (lv_at hl 1 rfl) ?_
  refine k_new hx hb hts (fun w h => List.mem_cons_of_mem _ (u_X6 w h)) tyX6 tyX6_ok hown (hts _ (List.mem_cons_of_mem _ cl_RX10_44)) (hts _ (List.mem_cons_of_mem _ it_RX6)) (hts _ (List.mem_cons_of_mem _ n_RX6)) hK hG (ci := 5) (fs := [.int (J 0), .int (J 0), .int (J 0), .int (J 0), .null, .null]) rfl (fun j hj => df_X6 j hj) (by show 600 + 1 ≤ 607; omega) (by show 22357 + 6 ≤ 23235; omega) dX10_init_110 (fun H hG => ?_)
  refine W.widen (k := 601) (n := 22363) (by omega) (by omega) ?_
  refine lv_dup hx hb dX10_init_113 rfl ?_
  refine k_sz (fun hz => ?_)
  refine k_cont (mc := 2) (ms := 150) hG (va_runIN (As := []) (rest := [.ref (o + (n + 601)), .ref (o + n)]) ⟨hx, hb, hml, hown, hts⟩ (K_X6 l (o := o) (n := n + 601) (cy := cy) (D := D) (by have q9 := kf_10_5 hk; exact_mod_cast q9) (by omega) (by unfold upC; rw [if_pos rfl])) ⟨va_cnB 0 hts (gj_self k_X6_init) rfl rfl rfl (hNX.nest 5 rfl) (hts _ (List.mem_cons_of_mem _ n_RX6)) (by decide +kernel) ⟨by exact Nat.le_of_ble_eq_true rfl, by exact Nat.le_of_ble_eq_true rfl⟩, rfl, hts _ (List.mem_cons_of_mem _ i_X6_init)⟩ (k_pre hK hNX hG hz) rfl rfl hl.1 rfl (lv_room (Nat.le_of_ble_eq_true rfl)) dX10_init_114 ⟨by show _ ≤ 607; omega, by show _ ≤ 23235; omega⟩) rfl (fun H locs hG => ?_)
  refine W.widen (k := 603) (n := 22513) (by omega) (by omega) ?_
  have hG : GC D o (CX n C (.inr (9, [.ref (o + (n + 1)), .ref (o + (n + 48)), .ref (o + (n + 520)), .ref (o + (n + 569)), .ref (o + (n + 600)), .null, .null, .null, .null])) (fun i => if i = n + 520 then .inl (cy 6, (6, .inr (.inr (.inr (.inr (fq 6 6 (g23 o n))))))) else if i = n + 569 then .inl (cy 7, (10, .inr (.inr (.inr (.inr (fq 10 10 (g24 o n))))))) else fin cy o i)) (n + 604) s H locs (603) := hG.congr (CX_call (by omega) (fun i i1 i2 => by (try dsimp only); rw [if_neg (by omega)]; rw [if_neg (by omega)]))
  refine k_putF (v := .ref (o + (n + 601))) (k := n) hx hb hts (fun w h => List.mem_cons_of_mem _ (u_X10 w h)) tyX10 tyX10_ok nmX10 hown hK hG (by omega) CX_at (ci := 9) rfl 5 ⟨by decide, by decide, Nat.le_of_ble_eq_true rfl⟩ hin2 rfl (hts _ (List.mem_cons_of_mem _ fl_RX10_47)) (hd := rfl) (hn := rfl) (hfit := rfl) (hdg := dX10_init_117) (fun H locs hG => ?_)
  have hG : GC D o (CX n C (.inr (9, [.ref (o + (n + 1)), .ref (o + (n + 48)), .ref (o + (n + 520)), .ref (o + (n + 569)), .ref (o + (n + 600)), .ref (o + (n + 601)), .null, .null, .null])) (fun i => if i = n + 520 then .inl (cy 6, (6, .inr (.inr (.inr (.inr (fq 6 6 (g23 o n))))))) else if i = n + 569 then .inl (cy 7, (10, .inr (.inr (.inr (.inr (fq 10 10 (g24 o n))))))) else fin cy o i)) (n + 604) s H locs (603) := hG.congr CX_put
  refine lv_aload_n hx hb dX10_init_120 rfl (lv_at hl 1 rfl) ?_
  refine k_new hx hb hts (fun w h => List.mem_cons_of_mem _ (u_X8 w h)) tyX8 tyX8_ok hown (hts _ (List.mem_cons_of_mem _ cl_RX10_51)) (hts _ (List.mem_cons_of_mem _ it_RX8)) (hts _ (List.mem_cons_of_mem _ n_RX8)) hK hG (ci := 7) (fs := [.int (J 0), .null]) rfl (fun j hj => df_X8 j hj) (by show 603 + 1 ≤ 607; omega) (by show 22513 + 2 ≤ 23235; omega) dX10_init_121 (fun H hG => ?_)
  refine W.widen (k := 604) (n := 22515) (by omega) (by omega) ?_
  refine lv_dup hx hb dX10_init_124 rfl ?_
  refine k_sz (fun hz => ?_)
  refine k_cont (mc := 1) (ms := 60) hG (va_runIN (As := []) (rest := [.ref (o + (n + 604)), .ref (o + n)]) ⟨hx, hb, hml, hown, hts⟩ (K_X8 l (o := o) (n := n + 604) (cy := cy) (D := D) (by have q9 := kf_10_6 hk; exact_mod_cast q9) (by unfold upC; rw [if_pos rfl])) ⟨va_cnB 0 hts (gj_self k_X8_init) rfl rfl rfl (hNX.nest 6 rfl) (hts _ (List.mem_cons_of_mem _ n_RX8)) (by decide +kernel) ⟨by exact Nat.le_of_ble_eq_true rfl, by exact Nat.le_of_ble_eq_true rfl⟩, rfl, hts _ (List.mem_cons_of_mem _ i_X8_init)⟩ (k_pre hK hNX hG hz) rfl rfl hl.1 rfl (lv_room (Nat.le_of_ble_eq_true rfl)) dX10_init_125 ⟨by show _ ≤ 607; omega, by show _ ≤ 23235; omega⟩) rfl (fun H locs hG => ?_)
  refine W.widen (k := 605) (n := 22575) (by omega) (by omega) ?_
  have hG : GC D o (CX n C (.inr (9, [.ref (o + (n + 1)), .ref (o + (n + 48)), .ref (o + (n + 520)), .ref (o + (n + 569)), .ref (o + (n + 600)), .ref (o + (n + 601)), .null, .null, .null])) (fun i => if i = n + 520 then .inl (cy 6, (6, .inr (.inr (.inr (.inr (fq 6 6 (g23 o n))))))) else if i = n + 569 then .inl (cy 7, (10, .inr (.inr (.inr (.inr (fq 10 10 (g24 o n))))))) else fin cy o i)) (n + 606) s H locs (605) := hG.congr (CX_call (by omega) (fun i i1 i2 => by (try dsimp only); rw [if_neg (by omega)]; rw [if_neg (by omega)]))
  refine k_putF (v := .ref (o + (n + 604))) (k := n) hx hb hts (fun w h => List.mem_cons_of_mem _ (u_X10 w h)) tyX10 tyX10_ok nmX10 hown hK hG (by omega) CX_at (ci := 9) rfl 6 ⟨by decide, by decide, Nat.le_of_ble_eq_true rfl⟩ hin2 rfl (hts _ (List.mem_cons_of_mem _ fl_RX10_54)) (hd := rfl) (hn := rfl) (hfit := rfl) (hdg := dX10_init_128) (fun H locs hG => ?_)
  have hG : GC D o (CX n C (.inr (9, [.ref (o + (n + 1)), .ref (o + (n + 48)), .ref (o + (n + 520)), .ref (o + (n + 569)), .ref (o + (n + 600)), .ref (o + (n + 601)), .ref (o + (n + 604)), .null, .null])) (fun i => if i = n + 520 then .inl (cy 6, (6, .inr (.inr (.inr (.inr (fq 6 6 (g23 o n))))))) else if i = n + 569 then .inl (cy 7, (10, .inr (.inr (.inr (.inr (fq 10 10 (g24 o n))))))) else fin cy o i)) (n + 606) s H locs (605) := hG.congr CX_put
  refine lv_aload_n hx hb dX10_init_131 rfl (lv_at hl 1 rfl) ?_
  refine lv_sipush (v := J 260) hx hb dX10_init_132 (by decide) ?_
  refine k_newL (cy := cy) (N := 260) hx hb (hts _ (List.mem_cons_of_mem _ ac_long)) hK hG rfl (by omega) (by show 605 + 1 ≤ 607; omega) (by show 22575 + 260 ≤ 23235; omega) dX10_init_135 (fun H hG => ?_)
  have hG : GC D o (CX n C (.inr (9, [.ref (o + (n + 1)), .ref (o + (n + 48)), .ref (o + (n + 520)), .ref (o + (n + 569)), .ref (o + (n + 600)), .ref (o + (n + 601)), .ref (o + (n + 604)), .null, .null])) (fun i => if i = n + 520 then .inl (cy 6, (6, .inr (.inr (.inr (.inr (fq 6 6 (g23 o n))))))) else if i = n + 569 then .inl (cy 7, (10, .inr (.inr (.inr (.inr (fq 10 10 (g24 o n))))))) else fin cy o i)) (n + 607) s H locs (606) := hG.congr (CX_new (by omega) (by (try dsimp only); rw [if_neg (by omega)]; rw [if_neg (by omega)]; exact fin_L (N := 260) (by have q9 := kf_10_7 hk; rw [← kd_nat]; exact_mod_cast q9) (by omega)))
  refine W.widen (k := 606) (n := 22835) (by omega) (by omega) ?_
  refine k_putF (v := .ref (o + (n + 606))) (k := n) hx hb hts (fun w h => List.mem_cons_of_mem _ (u_X10 w h)) tyX10 tyX10_ok nmX10 hown hK hG (by omega) CX_at (ci := 9) rfl 7 ⟨by decide, by decide, Nat.le_of_ble_eq_true rfl⟩ hin2 rfl (hts _ (List.mem_cons_of_mem _ fl_RX10_58)) (hd := rfl) (hn := rfl) (hfit := rfl) (hdg := dX10_init_137) (fun H locs hG => ?_)
  have hG : GC D o (CX n C (.inr (9, [.ref (o + (n + 1)), .ref (o + (n + 48)), .ref (o + (n + 520)), .ref (o + (n + 569)), .ref (o + (n + 600)), .ref (o + (n + 601)), .ref (o + (n + 604)), .ref (o + (n + 606)), .null])) (fun i => if i = n + 520 then .inl (cy 6, (6, .inr (.inr (.inr (.inr (fq 6 6 (g23 o n))))))) else if i = n + 569 then .inl (cy 7, (10, .inr (.inr (.inr (.inr (fq 10 10 (g24 o n))))))) else fin cy o i)) (n + 607) s H locs (606) := hG.congr CX_put
  refine lv_aload_n hx hb dX10_init_140 rfl (lv_at hl 1 rfl) ?_
  refine lv_sipush (v := J 400) hx hb dX10_init_141 (by decide) ?_
  refine k_newL (cy := cy) (N := 400) hx hb (hts _ (List.mem_cons_of_mem _ ac_long)) hK hG rfl (by omega) (by show 606 + 1 ≤ 607; omega) (by show 22835 + 400 ≤ 23235; omega) dX10_init_144 (fun H hG => ?_)
  have hG : GC D o (CX n C (.inr (9, [.ref (o + (n + 1)), .ref (o + (n + 48)), .ref (o + (n + 520)), .ref (o + (n + 569)), .ref (o + (n + 600)), .ref (o + (n + 601)), .ref (o + (n + 604)), .ref (o + (n + 606)), .null])) (fun i => if i = n + 520 then .inl (cy 6, (6, .inr (.inr (.inr (.inr (fq 6 6 (g23 o n))))))) else if i = n + 569 then .inl (cy 7, (10, .inr (.inr (.inr (.inr (fq 10 10 (g24 o n))))))) else fin cy o i)) (n + 608) s H locs (607) := hG.congr (CX_new (by omega) (by (try dsimp only); rw [if_neg (by omega)]; rw [if_neg (by omega)]; exact fin_L (N := 400) (by have q9 := kf_10_8 hk; rw [← kd_nat]; exact_mod_cast q9) (by omega)))
  refine W.widen (k := 607) (n := 23235) (by omega) (by omega) ?_
  refine k_putF (v := .ref (o + (n + 607))) (k := n) hx hb hts (fun w h => List.mem_cons_of_mem _ (u_X10 w h)) tyX10 tyX10_ok nmX10 hown hK hG (by omega) CX_at (ci := 9) rfl 8 ⟨by decide, by decide, Nat.le_of_ble_eq_true rfl⟩ hin2 rfl (hts _ (List.mem_cons_of_mem _ fl_RX10_62)) (hd := rfl) (hn := rfl) (hfit := rfl) (hdg := dX10_init_146) (fun H locs hG => ?_)
  have hG : GC D o (CX n C (.inr (9, [.ref (o + (n + 1)), .ref (o + (n + 48)), .ref (o + (n + 520)), .ref (o + (n + 569)), .ref (o + (n + 600)), .ref (o + (n + 601)), .ref (o + (n + 604)), .ref (o + (n + 606)), .ref (o + (n + 607))])) (fun i => if i = n + 520 then .inl (cy 6, (6, .inr (.inr (.inr (.inr (fq 6 6 (g23 o n))))))) else if i = n + 569 then .inl (cy 7, (10, .inr (.inr (.inr (.inr (fq 10 10 (g24 o n))))))) else fin cy o i)) (n + 608) s H locs (607) := hG.congr CX_put
  have hF : ∀ i, n < i → i < n + 608 → (fun i => if i = n + 520 then .inl (cy 6, (6, .inr (.inr (.inr (.inr (fq 6 6 (g23 o n))))))) else if i = n + 569 then .inl (cy 7, (10, .inr (.inr (.inr (.inr (fq 10 10 (g24 o n))))))) else fin cy o i) i = fin cy o i := by
    intro i i1 i2
    dsimp only
    by_cases c0 : i = n + 520
    · rw [if_pos c0, fq_end, c0, fin_Q (t := 23) (by have q9 := kf_10_2 hk; rw [← kd_nat]; exact_mod_cast q9) (by omega) (by omega)]; rfl
    rw [if_neg c0]
    by_cases c1 : i = n + 569
    · rw [if_pos c1, fq_end, c1, fin_Q (t := 24) (by have q9 := kf_10_3 hk; rw [← kd_nat]; exact_mod_cast q9) (by omega) (by omega)]; rfl
    rw [if_neg c1]
  rw [hQf]
  exact k_vret hx hb hr hlocks hG rfl (CX_out (fO_X10 (by rw [← kd_nat]; exact hk)) hF) (by decide) dX10_init_149

end
