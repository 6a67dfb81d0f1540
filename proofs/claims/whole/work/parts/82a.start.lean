noncomputable section
abbrev NL : List Cond := flatC (Cond.and given_1 narrow_1)
theorem nl_at {args : Array Value} {s : State} (h : (Cond.and given_1 narrow_1).before args s = true) (k : Nat) {w : Cond} (hk : NL[k]? = some w) : w.before args s = true := flat_of_before _ h w (List.mem_of_getElem? hk)
theorem lt1 {w : Cond} (i : Nat) (h : tables_1_1[i]? = some w) : w ∈ lw_tbl := List.mem_append_right _ (by have h9 := List.mem_of_getElem? h; exact List.mem_append_left _ h9)
theorem lt2 {w : Cond} (i : Nat) (h : tables_1_2[i]? = some w) : w ∈ lw_tbl := List.mem_append_right _ (by have h9 := List.mem_of_getElem? h; exact List.mem_append_right _ (List.mem_append_left _ h9))
theorem lt3 {w : Cond} (i : Nat) (h : tables_1_3[i]? = some w) : w ∈ lw_tbl := List.mem_append_right _ (by have h9 := List.mem_of_getElem? h; exact List.mem_append_right _ (List.mem_append_right _ (List.mem_append_left _ h9)))
theorem lt4 {w : Cond} (i : Nat) (h : tables_1_4[i]? = some w) : w ∈ lw_tbl := List.mem_append_right _ (by have h9 := List.mem_of_getElem? h; exact List.mem_append_right _ (List.mem_append_right _ (List.mem_append_right _ (List.mem_append_left _ h9))))
theorem lt5 {w : Cond} (i : Nat) (h : tables_1_5[i]? = some w) : w ∈ lw_tbl := List.mem_append_right _ (by have h9 := List.mem_of_getElem? h; exact List.mem_append_right _ (List.mem_append_right _ (List.mem_append_right _ (List.mem_append_right _ (List.mem_append_left _ h9)))))
theorem lt6 {w : Cond} (i : Nat) (h : tables_1_6[i]? = some w) : w ∈ lw_tbl := List.mem_append_right _ (by have h9 := List.mem_of_getElem? h; exact List.mem_append_right _ (List.mem_append_right _ (List.mem_append_right _ (List.mem_append_right _ (List.mem_append_right _ (List.mem_append_left _ h9))))))
theorem lt7 {w : Cond} (i : Nat) (h : tables_1_7[i]? = some w) : w ∈ lw_tbl := List.mem_append_right _ (by have h9 := List.mem_of_getElem? h; exact List.mem_append_right _ (List.mem_append_right _ (List.mem_append_right _ (List.mem_append_right _ (List.mem_append_right _ (List.mem_append_right _ (List.mem_append_left _ h9)))))))
theorem lt8 {w : Cond} (i : Nat) (h : tables_1_8[i]? = some w) : w ∈ lw_tbl := List.mem_append_right _ (by have h9 := List.mem_of_getElem? h; exact List.mem_append_right _ (List.mem_append_right _ (List.mem_append_right _ (List.mem_append_right _ (List.mem_append_right _ (List.mem_append_right _ (List.mem_append_right _ (h9))))))))
def tmS (i : Nat) : Term := .string (sTab.getD i ("", 0, "")).1 (sTab.getD i ("", 0, "")).2.1
def nxT : List (List Nat) := [[457, 223, 205, 187, 251, 271, 304, 317, 331, 346, 362, 381, 396, 414, 438, 505], [458, 224, 206, 188, 252, 272, 305, 318, 332, 347, 363, 382, 397, 415, 439, 506], [459, 225, 207, 189, 253, 273, 306, 319, 333, 348, 364, 383, 398, 416, 440, 507], [460, 226, 208, 190, 254, 274, 307, 320, 334, 349, 365, 384, 399, 417, 441, 508], [461, 227, 209, 191, 255, 275, 308, 321, 335, 350, 366, 385, 400, 418, 442, 509]]
def nxi (k i : Nat) : Nat := (nxT.getD k []).getD i 0
def npT : List (List Nat) := [[0, 493, 492, 491, 494, 495, 496, 497, 498, 499, 500, 501, 502, 503, 504, 550], [493, 0, 250, 249, 270, 302, 314, 327, 341, 356, 374, 388, 405, 428, 446, 538], [492, 250, 0, 222, 269, 301, 313, 326, 340, 355, 373, 387, 404, 427, 445, 537], [491, 249, 222, 0, 268, 300, 312, 325, 339, 354, 372, 386, 403, 426, 444, 536], [494, 270, 269, 268, 0, 303, 315, 328, 342, 357, 375, 389, 406, 429, 447, 539], [495, 302, 301, 300, 303, 0, 316, 329, 343, 358, 376, 390, 407, 430, 448, 540], [496, 314, 313, 312, 315, 316, 0, 330, 344, 359, 377, 391, 408, 431, 449, 541], [497, 327, 326, 325, 328, 329, 330, 0, 345, 360, 378, 392, 409, 432, 450, 542], [498, 341, 340, 339, 342, 343, 344, 345, 0, 361, 379, 393, 410, 433, 451, 543], [499, 356, 355, 354, 357, 358, 359, 360, 361, 0, 380, 394, 411, 434, 452, 544], [500, 374, 373, 372, 375, 376, 377, 378, 379, 380, 0, 395, 412, 435, 453, 545], [501, 388, 387, 386, 389, 390, 391, 392, 393, 394, 395, 0, 413, 436, 454, 546], [502, 405, 404, 403, 406, 407, 408, 409, 410, 411, 412, 413, 0, 437, 455, 547], [503, 428, 427, 426, 429, 430, 431, 432, 433, 434, 435, 436, 437, 0, 456, 548], [504, 446, 445, 444, 447, 448, 449, 450, 451, 452, 453, 454, 455, 456, 0, 549], [550, 538, 537, 536, 539, 540, 541, 542, 543, 544, 545, 546, 547, 548, 549, 0]]
def npi (i j : Nat) : Nat := (npT.getD i []).getD j 0
set_option maxRecDepth 100000 in
set_option maxHeartbeats 4000000 in
theorem nx_ex : ∀ i, i < 16 → NL[nxi 0 i]? = some (Cond.exactly (tmS i) "java/lang/String") := by decide +kernel
set_option maxRecDepth 100000 in
set_option maxHeartbeats 4000000 in
theorem nx_co : ∀ i, i < 16 → NL[nxi 1 i]? = some (Cond.eq (.field (tmS i) "java/lang/String" "coder" "B") (.int 0)) := by decide +kernel
set_option maxRecDepth 100000 in
set_option maxHeartbeats 4000000 in
theorem nx_ar : ∀ i, i < 16 → NL[nxi 2 i]? = some (Cond.arrayOf (.field (tmS i) "java/lang/String" "value" "[B") .byte) := by decide +kernel
set_option maxRecDepth 100000 in
set_option maxHeartbeats 4000000 in
theorem nx_le : ∀ i, i < 16 → NL[nxi 3 i]? = some (Cond.eq (.length (.field (tmS i) "java/lang/String" "value" "[B")) (.int (Int32.ofNat (sLen.getD i 0)))) := by decide +kernel
set_option maxRecDepth 100000 in
set_option maxHeartbeats 4000000 in
theorem nx_el : ∀ i, i < 16 → ∀ j, j < sLen.getD i 0 → NL[nxi 4 i + j]? = some (Cond.eq (.elem (.field (tmS i) "java/lang/String" "value" "[B") (.int (Int32.ofNat j))) (.int ((sByt.getD i []).getD j 0))) := by decide +kernel
set_option maxRecDepth 100000 in
set_option maxHeartbeats 4000000 in
theorem nx_ne : ∀ i, i < 16 → ∀ j, j < 16 → i ≠ j → NL[npi i j]? = some (Cond.not (Cond.eq (tmS i) (tmS j))) ∨ NL[npi i j]? = some (Cond.not (Cond.eq (tmS j) (tmS i))) := by decide +kernel
set_option maxRecDepth 100000 in
set_option maxHeartbeats 4000000 in
theorem nx_ms : ∀ j, j < 13 → NL[9 + j]? = some (Cond.eq (.elem (.static "ZoneCompiler$Calendar" "MONTH_STARTS" "[I") (.int (Int32.ofNat j))) (.int (J (msV.getD j 0)))) := by decide +kernel
theorem st_NC {s : State} {b : Nat} (hts : ∀ w ∈ lw_tbl, w.before #[Value.ref b] s = true) (hn : (Cond.and given_1 narrow_1).before #[Value.ref b] s = true) : NC s := by
  intro q hq
  simp only [ncL, List.mem_cons, List.not_mem_nil, or_false] at hq
  rcases hq with rfl | rfl | rfl | rfl | rfl | rfl | rfl | rfl
  · exact va_Nc.of (nl_at hn 53 (by decide +kernel))
  · exact va_Nc.of (nl_at hn 54 (by decide +kernel))
  · exact va_Nc.of (nl_at hn 39 (by decide +kernel))
  · exact va_Nc.of (nl_at hn 55 (by decide +kernel))
  · exact va_Nc.of (nl_at hn 40 (by decide +kernel))
  · exact va_Nc.of (nl_at hn 83 (by decide +kernel))
  · exact va_Nc.of (nl_at hn 56 (by decide +kernel))
  · exact va_Nc.of (nl_at hn 41 (by decide +kernel))
theorem st_NX {s : State} {b : Nat} (hts : ∀ w ∈ lw_tbl, w.before #[Value.ref b] s = true) : NX s := by
  refine ⟨fun q hq => ?_, fun C hC => ?_⟩
  rotate_left
  · simp only [aoL, List.mem_cons, List.not_mem_nil, or_false] at hC
    rcases hC with rfl | rfl | rfl | rfl | rfl
    · exact va_AO.of (hts _ (lt1 157 (by decide +kernel)))
    · exact va_AO.of (hts _ (lt1 44 (by decide +kernel)))
    · exact va_AO.of (hts _ (lt2 6 (by decide +kernel)))
    · exact va_AO.of (hts _ (lt1 177 (by decide +kernel)))
    · exact va_AO.of (hts _ (lt1 42 (by decide +kernel)))
  simp only [nsL, List.mem_cons, List.not_mem_nil, or_false] at hq
  rcases hq with rfl | rfl | rfl | rfl | rfl | rfl | rfl | rfl
  · exact va_Nw.of rfl (hts _ (lt1 46 (by decide +kernel)))
  · exact va_Nw.of rfl (hts _ (lt1 76 (by decide +kernel)))
  · exact va_Nw.of rfl (hts _ (lt1 179 (by decide +kernel)))
  · exact va_Nw.of rfl (hts _ (lt2 8 (by decide +kernel)))
  · exact va_Nw.of rfl (hts _ (lt2 35 (by decide +kernel)))
  · exact va_Nw.of rfl (hts _ (lt2 63 (by decide +kernel)))
  · exact va_Nw.of rfl (hts _ (lt2 92 (by decide +kernel)))
  · exact va_Nw.of rfl (hts _ (lt5 97 (by decide +kernel)))
theorem st_EX {s : State} {b : Nat} (hts : ∀ w ∈ lw_tbl, w.before #[Value.ref b] s = true) : ∀ X ∈ exL, va_Nw (.castable X X) s := by
  intro q hq
  simp only [exL, List.mem_cons, List.not_mem_nil, or_false] at hq
  rcases hq with rfl | rfl | rfl | rfl | rfl
  · exact va_Nw.of rfl (hts _ (lt3 29 (by decide +kernel)))
  · exact va_Nw.of rfl (hts _ (lt2 177 (by decide +kernel)))
  · exact va_Nw.of rfl (hts _ (lt3 75 (by decide +kernel)))
  · exact va_Nw.of rfl (hts _ (lt4 40 (by decide +kernel)))
  · exact va_Nw.of rfl (hts _ (lt4 176 (by decide +kernel)))
theorem st_DC {s : State} {b : Nat} (hts : ∀ w ∈ lw_tbl, w.before #[Value.ref b] s = true) : ∀ x ∈ dcL, va_Nw (.declares x) s := by
  intro q hq
  simp only [dcL, List.mem_cons, List.not_mem_nil, or_false] at hq
  rcases hq with rfl | rfl | rfl
  · exact va_Nw.of rfl (hts _ (lt2 183 (by decide +kernel)))
  · exact va_Nw.of rfl (hts _ (lt2 181 (by decide +kernel)))
  · exact va_Nw.of rfl (hts _ (lt2 179 (by decide +kernel)))
theorem st_SR {s : State} {b : Nat} (hts : ∀ w ∈ lw_tbl, w.before #[Value.ref b] s = true) : ∀ i, i < 16 → (Cond.stringRef (sTab.getD i ("", 0, "")).1 (sTab.getD i ("", 0, "")).2.1 (sTab.getD i ("", 0, "")).2.2).before #[Value.ref b] s = true := by
  intro i hi
  match i, hi with
  | 0, _ => exact (hts _ (lt6 91 (by decide +kernel)))
  | 1, _ => exact (hts _ (lt3 82 (by decide +kernel)))
  | 2, _ => exact (hts _ (lt3 36 (by decide +kernel)))
  | 3, _ => exact (hts _ (lt2 218 (by decide +kernel)))
  | 4, _ => exact (hts _ (lt4 47 (by decide +kernel)))
  | 5, _ => exact (hts _ (lt4 183 (by decide +kernel)))
  | 6, _ => exact (hts _ (lt5 207 (by decide +kernel)))
  | 7, _ => exact (hts _ (lt5 208 (by decide +kernel)))
  | 8, _ => exact (hts _ (lt5 209 (by decide +kernel)))
  | 9, _ => exact (hts _ (lt5 210 (by decide +kernel)))
  | 10, _ => exact (hts _ (lt5 211 (by decide +kernel)))
  | 11, _ => exact (hts _ (lt6 31 (by decide +kernel)))
  | 12, _ => exact (hts _ (lt6 32 (by decide +kernel)))
  | 13, _ => exact (hts _ (lt6 33 (by decide +kernel)))
  | 14, _ => exact (hts _ (lt6 34 (by decide +kernel)))
  | 15, _ => exact (hts _ (lt8 132 (by decide +kernel)))
  | k + 16, hk => exact absurd hk (by omega)
theorem st_K {s : State} {b : Nat} (hts : ∀ w ∈ lw_tbl, w.before #[Value.ref b] s = true) : ∃ (D : va_G) (cy : Nat → ClassId), va_K D jCl (tysF cy) s := by
  have htb : ∀ w ∈ TB, w.before #[Value.ref b] s = true := fun w h => hts w (List.mem_filter.mp h).1
  obtain ⟨cX0, iX0, hX0⟩ := u_known (T := TX0) (N := 4) htb u_X0 (htb _ it_RX0)
  obtain ⟨cX2, iX2, hX2⟩ := u_known (T := TX2) (N := 5) htb u_X2 (htb _ it_RX2)
  obtain ⟨cX3, iX3, hX3⟩ := u_known (T := TX3) (N := 5) htb u_X3 (htb _ it_RX3)
  obtain ⟨cX4, iX4, hX4⟩ := u_known (T := TX4) (N := 11) htb u_X4 (htb _ it_RX4)
  obtain ⟨cX5, iX5, hX5⟩ := u_known (T := TX5) (N := 5) htb u_X5 (htb _ it_RX5)
  obtain ⟨cX6, iX6, hX6⟩ := u_known (T := TX6) (N := 6) htb u_X6 (htb _ it_RX6)
  obtain ⟨cX7, iX7, hX7⟩ := u_known (T := TX7) (N := 16) htb u_X7 (htb _ it_RX7)
  obtain ⟨cX8, iX8, hX8⟩ := u_known (T := TX8) (N := 2) htb u_X8 (htb _ it_RX8)
  obtain ⟨cX9, iX9, hX9⟩ := u_known (T := TX9) (N := 6) htb u_X9 (htb _ it_RX9)
  obtain ⟨cX10, iX10, hX10⟩ := u_known (T := TX10) (N := 9) htb u_X10 (htb _ it_RX10)
  obtain ⟨cX11, iX11, hX11⟩ := u_known (T := TX11) (N := 37) htb u_X11 (htb _ it_RX11)
  obtain ⟨a0, p0, q0, r0, s0, t0⟩ := Cond.arrayClass_spec (htb _ ac_int)
  obtain ⟨a1, p1, q1, r1, s1, t1⟩ := Cond.arrayClass_spec (htb _ ac_long)
  obtain ⟨a2, p2, q2, r2, s2, t2⟩ := Cond.arrayClass_spec (htb _ ac_char)
  obtain ⟨q3, a3, p3, r3, x3, s3, t3, y3⟩ := Cond.arrayOver_spec (n := RX9) (hts _ (lt1 42 (by decide +kernel)))
  obtain ⟨q4, a4, p4, r4, x4, s4, t4, y4⟩ := Cond.arrayOver_spec (n := RX4) (hts _ (lt1 44 (by decide +kernel)))
  obtain ⟨q5, a5, p5, r5, x5, s5, t5, y5⟩ := Cond.arrayOver_spec (n := RX0) (hts _ (lt1 157 (by decide +kernel)))
  obtain ⟨q6, a6, p6, r6, x6, s6, t6, y6⟩ := Cond.arrayOver_spec (n := RX7) (hts _ (lt1 177 (by decide +kernel)))
  obtain ⟨q7, a7, p7, r7, x7, s7, t7, y7⟩ := Cond.arrayOver_spec (n := RX5) (hts _ (lt2 6 (by decide +kernel)))
  refine ⟨(fun c => match c with | 0 => cX0 | 1 => cX2 | 2 => cX3 | 3 => cX4 | 4 => cX5 | 5 => cX6 | 6 => cX7 | 7 => cX8 | 8 => cX9 | 9 => cX10 | _ => cX11, fun c => match c with | 0 => iX0 | 1 => iX2 | 2 => iX3 | 3 => iX4 | 4 => iX5 | 5 => iX6 | 6 => iX7 | 7 => iX8 | 8 => iX9 | 9 => iX10 | _ => iX11), (fun k => match k with | 0 => a0 | 1 => a1 | 2 => a2 | 3 => a3 | 4 => a4 | 5 => a5 | 6 => a6 | _ => a7), ?_, ?_⟩
  · intro c q hq
    match c, hq with
    | 0, hq => cases hq; exact hX0
    | 1, hq => cases hq; exact hX2
    | 2, hq => cases hq; exact hX3
    | 3, hq => cases hq; exact hX4
    | 4, hq => cases hq; exact hX5
    | 5, hq => cases hq; exact hX6
    | 6, hq => cases hq; exact hX7
    | 7, hq => cases hq; exact hX8
    | 8, hq => cases hq; exact hX9
    | 9, hq => cases hq; exact hX10
    | 10, hq => cases hq; exact hX11
    | c + 11, hq => exact absurd hq (by simp [jCl])
  · intro k q hq
    match k, hq with
    | 0, hq => cases hq; exact ⟨fun n z => ⟨(fun k h => by cases h), p0, s0, q0, t0⟩, r0⟩
    | 1, hq => cases hq; exact ⟨fun n z => ⟨(fun k h => by cases h), p1, s1, q1, t1⟩, r1⟩
    | 2, hq => cases hq; exact ⟨fun n z => ⟨(fun k h => by cases h), p2, s2, q2, t2⟩, r2⟩
    | 3, hq => cases hq; exact ⟨fun n z => ⟨(fun k h => by cases h), p3, s3, q3, t3⟩, p3, q3, s3, t3, r3, y3⟩
    | 4, hq => cases hq; exact ⟨fun n z => ⟨(fun k h => by cases h), p4, s4, q4, t4⟩, p4, q4, s4, t4, r4, y4⟩
    | 5, hq => cases hq; exact ⟨fun n z => ⟨(fun k h => by cases h), p5, s5, q5, t5⟩, p5, q5, s5, t5, r5, y5⟩
    | 6, hq => cases hq; exact ⟨fun n z => ⟨(fun k h => by cases h), p6, s6, q6, t6⟩, p6, q6, s6, t6, r6, y6⟩
    | 7, hq => cases hq; exact ⟨fun n z => ⟨(fun k h => by cases h), p7, s7, q7, t7⟩, p7, q7, s7, t7, r7, y7⟩
    | k + 8, hq => exact absurd hq (by simp [tysF])
theorem st_SX {s : State} {b : Nat} (hts : ∀ w ∈ lw_tbl, w.before #[Value.ref b] s = true) (hn : (Cond.and given_1 narrow_1).before #[Value.ref b] s = true) : ∃ sK sV : Nat → Nat, SX s.heap.size sK sV s := by
  have hA : ∀ a : Nat, a < s.heap.size → ¬ oA s.heap.size a := fun a h q => by have := q.1; omega
  obtain ⟨t, ht, hT⟩ := va_Tof (tm := (.static "ZoneCompiler$Calendar" "MONTH_STARTS" "[I")) (ty := .int) (N := 13) (f := fun j => .int (J (msV.getD j 0))) (A := oA s.heap.size) (by decide) (nl_at hn 7 (by decide +kernel)) (va_eqt (nl_at hn 8 (by decide +kernel))) (fun j hj => va_eqt (nl_at hn _ (nx_ms j hj))) hA
  obtain ⟨sK, sV, hS, hK⟩ := vk_Sof (N := 16) (tm := tmS) (len := sLen) (byt := sByt) (A := oA s.heap.size) (args := #[Value.ref b]) (s := s) (by decide +kernel) (fun i hi => nl_at hn _ (nx_ex i hi)) (fun i hi => nl_at hn _ (nx_co i hi)) (fun i hi => nl_at hn _ (nx_ar i hi)) (fun i hi => nl_at hn _ (nx_le i hi)) (fun i hi j hj => nl_at hn _ (nx_el i hi j hj)) (fun i j hi hj hij => (nx_ne i hi j hj hij).elim (fun h => Or.inl (nl_at hn _ h)) (fun h => Or.inr (nl_at hn _ h))) hA
  refine ⟨sK, sV, ⟨t, va_Zref (hts _ (lt3 9 (by decide +kernel))) (hts _ (lt1 16 (by decide +kernel))) ht hA, hT⟩, vx_Zqof (hts _ (lt2 202 (by decide +kernel))) (hts _ (lt1 12 (by decide +kernel))) (nl_at hn 4 (by decide +kernel)) hA, vx_Zqof (hts _ (lt2 204 (by decide +kernel))) (hts _ (lt1 12 (by decide +kernel))) (nl_at hn 5 (by decide +kernel)) hA, fun i q hq => ?_, hS, st_DC hts, st_EX hts, va_Zof (hts _ (lt5 225 (by decide +kernel))) (hts _ (lt1 23 (by decide +kernel))) (va_eqt (nl_at hn 22 (by decide +kernel))) hA, (st_NX hts).1, vx_Zqof (hts _ (lt6 1 (by decide +kernel))) (hts _ (lt1 25 (by decide +kernel))) (nl_at hn 23 (by decide +kernel)) hA⟩
  have hi : i < 16 := (List.getElem?_eq_some_iff.mp hq).1
  have e : sTab.getD i ("", 0, "") = q := by rw [List.getD_eq_getElem?_getD, hq]; rfl
  have h1 := st_SR hts i hi
  have h2 := hK i hi
  unfold tmS at h2
  rw [e] at h1 h2
  exact vk_R.of h1 h2
end
