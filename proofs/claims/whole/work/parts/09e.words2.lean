theorem i_mmax : Cond.static Lib.Math.max.name ∈ TB := tk4 8 (by decide +kernel) rfl
theorem k_mmax : Cond.code Lib.Math.max.name Lib.Math.max.code 2 (some .int) ∈ TB := tk4 9 (by decide +kernel) rfl
theorem i_mmin : Cond.static Lib.Math.min.name ∈ TB := tk3 103 (by decide +kernel) rfl
theorem k_mmin : Cond.code Lib.Math.min.name Lib.Math.min.code 2 (some .int) ∈ TB := tk3 104 (by decide +kernel) rfl
theorem n_Math : Cond.initialized "java/lang/Math" ∈ TB := tk1 20 (by decide +kernel) rfl
theorem nt_arraycopy : Cond.native arraycopyName ∈ TB := tk2 152 (by decide +kernel) rfl
theorem i_arraycopy : Cond.static arraycopyName ∈ TB := tk2 151 (by decide +kernel) rfl
theorem n_System : Cond.initialized "java/lang/System" ∈ TB := tk1 19 (by decide +kernel) rfl
theorem ml_RX9_31 : Cond.methodLink RX9 31 arraycopyName ∈ TB := tk2 150 (by decide +kernel) rfl
theorem ml_RX4_51 : Cond.methodLink RX4 51 arraycopyName ∈ TB := tk2 157 (by decide +kernel) rfl
theorem ml_RX3_33 : Cond.methodLink RX3 33 Lib.Math.min.name ∈ TB := tk3 102 (by decide +kernel) rfl
theorem ml_RX10_538 : Cond.methodLink RX10 538 Lib.Math.min.name ∈ TB := tk3 220 (by decide +kernel) rfl
theorem ml_RX7_88 : Cond.methodLink RX7 88 Lib.Math.max.name ∈ TB := tk4 7 (by decide +kernel) rfl
theorem ml_RX7_94 : Cond.methodLink RX7 94 Lib.Math.min.name ∈ TB := tk4 10 (by decide +kernel) rfl
theorem ml_RX5_64 : Cond.methodLink RX5 64 Lib.Math.max.name ∈ TB := tk5 42 (by decide +kernel) rfl
theorem ml_RX10_375 : Cond.methodLink RX10 375 Lib.Math.max.name ∈ TB := tk5 169 (by decide +kernel) rfl
theorem ml_RX11_194 : Cond.methodLink RX11 194 Lib.Math.max.name ∈ TB := tk7 167 (by decide +kernel) rfl
theorem ml_RX11_199 : Cond.methodLink RX11 199 Lib.Math.min.name ∈ TB := tk7 168 (by decide +kernel) rfl
theorem xl_RX10_411 : Cond.classLink RX10 411 "java/lang/IllegalStateException" ∈ TB := tk3 73 (by decide +kernel) rfl
theorem xi_3 : Cond.initialized "java/lang/IllegalStateException" ∈ TB := tk1 18 (by decide +kernel) rfl
theorem xg_RX10_415 : ∀ w ∈ (vx_atS RX10 415 "java/lang/IllegalStateException" exNs).filter goodWord, w ∈ TB := fun w h => tb_of ((by decide +kernel : ∀ w ∈ (vx_atS RX10 415 "java/lang/IllegalStateException" exNs).filter goodWord, w ∈ lw_tbl) w h) (List.mem_filter.mp h).2
theorem xb_RX10_415 : ∀ w ∈ (vx_atS RX10 415 "java/lang/IllegalStateException" exNs).filter (fun w => !goodWord w), w ∈ exB := by decide +kernel
theorem xo_RX10_415 : ∀ w ∈ Cond.classLink RX10 411 "java/lang/IllegalStateException" :: Cond.initialized "java/lang/IllegalStateException" :: vx_atS RX10 415 "java/lang/IllegalStateException" exNs, vx_ot w = true := by decide +kernel
theorem xl_RX10_454 : Cond.classLink RX10 454 "java/lang/IndexOutOfBoundsException" ∈ TB := tk3 27 (by decide +kernel) rfl
theorem xi_1 : Cond.initialized "java/lang/IndexOutOfBoundsException" ∈ TB := tk1 17 (by decide +kernel) rfl
theorem xg_RX10_458 : ∀ w ∈ (vx_atS RX10 458 "java/lang/IndexOutOfBoundsException" exNs).filter goodWord, w ∈ TB := fun w h => tb_of ((by decide +kernel : ∀ w ∈ (vx_atS RX10 458 "java/lang/IndexOutOfBoundsException" exNs).filter goodWord, w ∈ lw_tbl) w h) (List.mem_filter.mp h).2
theorem xb_RX10_458 : ∀ w ∈ (vx_atS RX10 458 "java/lang/IndexOutOfBoundsException" exNs).filter (fun w => !goodWord w), w ∈ exB := by decide +kernel
theorem xo_RX10_458 : ∀ w ∈ Cond.classLink RX10 454 "java/lang/IndexOutOfBoundsException" :: Cond.initialized "java/lang/IndexOutOfBoundsException" :: vx_atS RX10 458 "java/lang/IndexOutOfBoundsException" exNs, vx_ot w = true := by decide +kernel
theorem xl_RX10_459 : Cond.classLink RX10 459 "java/lang/IllegalArgumentException" ∈ TB := tk2 175 (by decide +kernel) rfl
theorem xi_2 : Cond.initialized "java/lang/IllegalArgumentException" ∈ TB := tk1 15 (by decide +kernel) rfl
theorem xg_RX10_463 : ∀ w ∈ (vx_atS RX10 463 "java/lang/IllegalArgumentException" exNs).filter goodWord, w ∈ TB := fun w h => tb_of ((by decide +kernel : ∀ w ∈ (vx_atS RX10 463 "java/lang/IllegalArgumentException" exNs).filter goodWord, w ∈ lw_tbl) w h) (List.mem_filter.mp h).2
theorem xb_RX10_463 : ∀ w ∈ (vx_atS RX10 463 "java/lang/IllegalArgumentException" exNs).filter (fun w => !goodWord w), w ∈ exB := by decide +kernel
theorem xo_RX10_463 : ∀ w ∈ Cond.classLink RX10 459 "java/lang/IllegalArgumentException" :: Cond.initialized "java/lang/IllegalArgumentException" :: vx_atS RX10 463 "java/lang/IllegalArgumentException" exNs, vx_ot w = true := by decide +kernel
theorem xl_RX10_464 : Cond.classLink RX10 464 "java/util/NoSuchElementException" ∈ TB := tk4 38 (by decide +kernel) rfl
theorem xi_4 : Cond.initialized "java/util/NoSuchElementException" ∈ TB := tk1 21 (by decide +kernel) rfl
theorem xg_RX10_468 : ∀ w ∈ (vn_at RX10 468 "java/util/NoSuchElementException").filter goodWord, w ∈ TB := fun w h => tb_of ((by decide +kernel : ∀ w ∈ (vn_at RX10 468 "java/util/NoSuchElementException").filter goodWord, w ∈ lw_tbl) w h) (List.mem_filter.mp h).2
theorem xb_RX10_468 : ∀ w ∈ (vn_at RX10 468 "java/util/NoSuchElementException").filter (fun w => !goodWord w), w ∈ exB := by decide +kernel
theorem xo_RX10_468 : ∀ w ∈ Cond.classLink RX10 464 "java/util/NoSuchElementException" :: Cond.initialized "java/util/NoSuchElementException" :: vn_at RX10 468 "java/util/NoSuchElementException", vx_ot w = true := by decide +kernel
theorem xl_RX10_470 : Cond.classLink RX10 470 "java/lang/UnsupportedOperationException" ∈ TB := tk4 174 (by decide +kernel) rfl
theorem xi_5 : Cond.initialized "java/lang/UnsupportedOperationException" ∈ TB := tk1 22 (by decide +kernel) rfl
theorem xg_RX10_474 : ∀ w ∈ (vx_atS RX10 474 "java/lang/UnsupportedOperationException" exNs).filter goodWord, w ∈ TB := fun w h => tb_of ((by decide +kernel : ∀ w ∈ (vx_atS RX10 474 "java/lang/UnsupportedOperationException" exNs).filter goodWord, w ∈ lw_tbl) w h) (List.mem_filter.mp h).2
theorem xb_RX10_474 : ∀ w ∈ (vx_atS RX10 474 "java/lang/UnsupportedOperationException" exNs).filter (fun w => !goodWord w), w ∈ exB := by decide +kernel
theorem xo_RX10_474 : ∀ w ∈ Cond.classLink RX10 470 "java/lang/UnsupportedOperationException" :: Cond.initialized "java/lang/UnsupportedOperationException" :: vx_atS RX10 474 "java/lang/UnsupportedOperationException" exNs, vx_ot w = true := by decide +kernel
