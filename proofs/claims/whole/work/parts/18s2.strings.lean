theorem sTx_ok : ∀ i, i < 16 → (sTx.getD i []).length = sLen.getD i 0 ∧ sLen.getD i 0 < 100 ∧ ∀ k, k < sLen.getD i 0 → ((sByt.getD i []).getD k 0 &&& J 255 = J ((sTx.getD i []).getD k 0) ∧ 0 ≤ (sTx.getD i []).getD k 0 ∧ (sTx.getD i []).getD k 0 < 128) := by decide +kernel
theorem sLn_n {i : Nat} (hi : i < 16) : sLn i = (sLen.getD i 0 : Int) := by unfold sLn; rw [(sTx_ok i hi).1]
theorem sLn_32 {i : Nat} (hi : i < 16) : Int32.ofNat (sLen.getD i 0) = J (sLn i) := by rw [sLn_n hi]; exact Int32.ofInt_eq_ofNat.symm
theorem sLn_rg {i : Nat} (hi : i < 16) : 0 ≤ sLn i ∧ sLn i < 100 := by have := (sTx_ok i hi).2.1; rw [sLn_n hi]; omega
section JS
variable {p : Program} {l : Launch} {e : Env} {R : Room} {s : State} {m : MethodId} {args : Array Value} {below : List Frame} {meth : Method} {c : Code} {H : Heap} {locs : List Loc} {cells slots : Nat} {Q : State → Prop} {cc : ByteArray} {pc : Nat} {ls : Array Slot} {rest : List Value} {D : va_G} {cy : Nat → ClassId} {o : Nat} {sK sV : Nat → Nat} {M : jT} {As : List Value}
theorem j_ldcwS (hexec : p.tables.exec = Jvm.exec) (hb : c.code = cc) {own tx : String} {index q : Nat} (hown : s.vm.findClass own = some m.cls) (hZ : vk_R own index tx q s) (hdg : decode cc pc = .ok (.ldc_w index, 3))
    (k : W p l e R s m args below meth c H locs cells slots Q (F0 m (pc + 3) ls (.ref q :: rest))) : W p l e R s m args below meth c H locs cells slots Q (F0 m pc ls rest) := by
  intro T hT X
  obtain ⟨t, a1, b1⟩ := k T hT X
  refine ⟨t, ?_, b1⟩
  obtain ⟨kc, cf, i, a', hk, hcf, hcp, -, hr, hev'⟩ := Cond.stringRef_spec hown hZ.1
  cases hZ.2.symm.trans hev'
  obtain ⟨k', hk', he⟩ := X.warmed.alike.2.2 _ _ hk
  have hr' : k'.resolved[index]? = some (some (.string q)) := by
    rcases X.warmed.entry hk hk' index with h | ⟨h, -⟩
    · rw [h]; exact hr
    · rw [hr] at h; cases h
  jvm_step X.here [hexec, hdg, Jvm.Op.ldc_w.wp_string (e := e) (s := T) (f := F0 m pc ls rest) X.here.top hk' (by rw [he]; exact hcf) hcp hr', hb]
  exact a1
theorem j_preVS (hK : va_K D jCl (tysF cy) s) (hSX : SX o sK sV s) (hG : GM D cy o M s.heap H locs) {i : Nat} (hi : i < 16) : PreV s H "java/lang/String" (sK i) (va_Pc (.ref (sK i) :: As) (GP D cy o sK sV M)) As :=
  ⟨GP.blind, vk_recv hSX.2.2.2.2.1 hi hG.2, fun U hU hW => ⟨rfl, GP.pay hK hSX hG hU hW⟩⟩
end JS
theorem SX_cs {o : Nat} {sK sV : Nat → Nat} {s : State} (h : SX o sK sV s) : va_Z "java/lang/String" "COMPACT_STRINGS" "Z" (.int (J 1)) (oA o) s s.heap := h.2.2.2.2.2.2.2.1
theorem SX_co {o : Nat} {sK sV : Nat → Nat} {s : State} (h : SX o sK sV s) {i : Nat} (hi : i < 16) : va_OF "java/lang/String" "coder" "B" (.int (J 0)) (sK i) (oA o) s s.heap := (h.2.2.2.2.1.1 i hi).2.1

abbrev rm_J00 : Room := { frames := 0, cells := 0, slots := 0, locals := 0 }

set_option maxRecDepth 100000 in
set_option maxHeartbeats 4000000 in
theorem A_J0_coder (l : Launch) {D : va_G} {cy : Nat → ClassId} {o : Nat} {sK sV : Nat → Nat} {M : jT} {i : Nat} (hi : i < 16) : CoI l yJ0_coder_7d493 (wj yJ0_coder_7d493 cJ0_coder_7d493 1 (some .byte)) rm_J00 D cy o sK sV M [.ref (sK i)] (fun z M9 => z = 0 ∧ M9 = M) := by
  refine j_ofW (cc := cJ0_coder_7d493) (maxL := 1) (ret := (some .byte)) (by decide) rfl (Nat.le_of_ble_eq_true rfl) ?_
  intro p e s m args below meth c hx hb hr hlocks hml hown hts hK hSX H locs hG ls hl Qf hQf
  have hown : s.vm.findClass RJ0 = some m.cls := hown
  have hl : lv_has ls 1 [(0, .ref (sK i))] := hl
  refine va_gets hx hb (SX_cs hSX) hG.2 hown (hts _ (List.mem_cons_of_mem _ fl_RJ0_38)) (fun _ h9 => h9) dJ0_coder_7d493_0 ?_
  refine j_if_eq (tgt := 13) hx hb dJ0_coder_7d493_3 (by decide) ⟨by omega, by omega⟩ (fun q => absurd q (by decide)) (fun _ => ?_)
  refine lv_aload_n hx hb dJ0_coder_7d493_6 rfl (lv_at hl 0 rfl) ?_
  refine vk_getf hx hb (SX_co hSX hi) hG.2 hown (hts _ (List.mem_cons_of_mem _ fl_RJ0_15)) (fun _ h9 => h9) dJ0_coder_7d493_7 ?_
  refine lv_goto (tgt := 14) hx hb dJ0_coder_7d493_10 (by decide) ?_
  rw [hQf]
  exact j_iretn hx hb hr hlocks rfl hG ⟨rfl, rfl⟩ (by decide) dJ0_coder_7d493_14

set_option maxRecDepth 100000 in
set_option maxHeartbeats 4000000 in
theorem A_J0_isLatin1 (l : Launch) {D : va_G} {cy : Nat → ClassId} {o : Nat} {sK sV : Nat → Nat} {M : jT} {i : Nat} (hi : i < 16) : CoI l yJ0_isLatin1_aae02 (wj yJ0_isLatin1_aae02 cJ0_isLatin1_aae02 1 (some .boolean)) rm_J00 D cy o sK sV M [.ref (sK i)] (fun z M9 => z = 1 ∧ M9 = M) := by
  refine j_ofW (cc := cJ0_isLatin1_aae02) (maxL := 1) (ret := (some .boolean)) (by decide) rfl (Nat.le_of_ble_eq_true rfl) ?_
  intro p e s m args below meth c hx hb hr hlocks hml hown hts hK hSX H locs hG ls hl Qf hQf
  have hown : s.vm.findClass RJ0 = some m.cls := hown
  have hl : lv_has ls 1 [(0, .ref (sK i))] := hl
  refine va_gets hx hb (SX_cs hSX) hG.2 hown (hts _ (List.mem_cons_of_mem _ fl_RJ0_38)) (fun _ h9 => h9) dJ0_isLatin1_aae02_0 ?_
  refine j_if_eq (tgt := 17) hx hb dJ0_isLatin1_aae02_3 (by decide) ⟨by omega, by omega⟩ (fun q => absurd q (by decide)) (fun _ => ?_)
  refine lv_aload_n hx hb dJ0_isLatin1_aae02_6 rfl (lv_at hl 0 rfl) ?_
  refine vk_getf hx hb (SX_co hSX hi) hG.2 hown (hts _ (List.mem_cons_of_mem _ fl_RJ0_15)) (fun _ h9 => h9) dJ0_isLatin1_aae02_7 ?_
  refine j_if_ne (tgt := 17) hx hb dJ0_isLatin1_aae02_10 (by decide) ⟨by omega, by omega⟩ (fun q => absurd rfl q) (fun _ => ?_)
  refine lv_iconst (v := J 1) hx hb dJ0_isLatin1_aae02_13 (by decide) ?_
  refine lv_goto (tgt := 18) hx hb dJ0_isLatin1_aae02_14 (by decide) ?_
  rw [hQf]
  exact j_iretn hx hb hr hlocks (nar_b (by decide)) hG ⟨rfl, rfl⟩ (by decide) dJ0_isLatin1_aae02_18

abbrev rm_J0_length : Room := { frames := 1, cells := 0, slots := 0, locals := 20 }
set_option maxRecDepth 100000 in
set_option maxHeartbeats 4000000 in
theorem A_J0_length (l : Launch) {D : va_G} {cy : Nat → ClassId} {o : Nat} {sK sV : Nat → Nat} {M : jT} {i : Nat} (hi : i < 16) : CoI l yJ0_length_8abf5 (wj yJ0_length_8abf5 cJ0_length_8abf5 1 (some .int)) rm_J0_length D cy o sK sV M [.ref (sK i)] (fun z M9 => z = sLn i ∧ M9 = M) := by
  refine j_ofW (cc := cJ0_length_8abf5) (maxL := 1) (ret := (some .int)) (by decide) rfl (Nat.le_of_ble_eq_true rfl) ?_
  intro p e s m args below meth c hx hb hr hlocks hml hown hts hK hSX H locs hG ls hl Qf hQf
  have hown : s.vm.findClass RJ0 = some m.cls := hown
  have hl : lv_has ls 1 [(0, .ref (sK i))] := hl
  refine lv_aload_n hx hb dJ0_length_8abf5_0 rfl (lv_at hl 0 rfl) ?_
  refine vk_getf hx hb (hSX.2.2.2.2.1.1 i hi).2.2.1 hG.2 hown (hts _ (List.mem_cons_of_mem _ fl_RJ0_9)) (fun _ h9 => h9) dJ0_length_8abf5_1 ?_
  refine va_tlen hx hb (hSX.2.2.2.2.1.1 i hi).2.2.2 hG.2 (sLn_32 hi) dJ0_length_8abf5_4 ?_
  refine lv_aload_n hx hb dJ0_length_8abf5_5 rfl (lv_at hl 0 rfl) ?_
  refine j_conti (va_runV (As := []) (rest := [.int (J (sLn i))]) ⟨hx, hb, hml, hown, hts⟩ (A_J0_coder l hi) (cwV 0 hts (gj_V ml_RJ0_335 i_J0_coder_7d493 s_J0_coder_7d493 n_RJ0 k_J0_coder_7d493) rfl rfl rfl (by decide +kernel) ⟨by exact Nat.le_of_ble_eq_true rfl, by exact Nat.le_of_ble_eq_true rfl⟩) (j_preVS hK hSX hG hi) rfl rfl hl.1 rfl (lv_room (Nat.le_of_ble_eq_true rfl)) dJ0_length_8abf5_6 ⟨by exact Nat.le_of_ble_eq_true rfl, by exact Nat.le_of_ble_eq_true rfl⟩) hG (c2 := 0) (s2 := 0) ⟨by exact Nat.le_of_ble_eq_true rfl, by exact Nat.le_of_ble_eq_true rfl⟩ (fun z M1 ez H locs hG => ?_)
  obtain ⟨ez, eM⟩ := ez
  subst ez
  rw [eM] at hG
  have hr9 := sLn_rg hi
  refine j_ishr hx hb 0 rfl dJ0_length_8abf5_9 ⟨by omega, by omega⟩ (by decide) ?_
  rw [hQf]
  exact j_ireti hx hb hr hlocks hG ⟨by rw [Int.pow_zero, Int.ediv_one], rfl⟩ (by decide) dJ0_length_8abf5_10

set_option maxRecDepth 100000 in
set_option maxHeartbeats 4000000 in
theorem A_J3_checkIndex_n (l : Launch) {D : va_G} {cy : Nat → ClassId} {o : Nat} {sK sV : Nat → Nat} {M : jT} {a b : Int} (h0 : 0 ≤ a) (h1 : a < b) (h2 : b < 2147483648) : CoI l yJ3_checkIndex_8e157 (wj yJ3_checkIndex_8e157 cJ3_checkIndex_8e157 3 (some .int)) rm_J00 D cy o sK sV M [.int (J a), .int (J b), .null] (fun z M9 => z = a ∧ M9 = M) := by
  refine j_ofW (cc := cJ3_checkIndex_8e157) (maxL := 3) (ret := (some .int)) (by decide) rfl (Nat.le_of_ble_eq_true rfl) ?_
  intro p e s m args below meth c hx hb hr hlocks hml hown hts hK hSX H locs hG ls hl Qf hQf
  have hown : s.vm.findClass RJ3 = some m.cls := hown
  have hl : lv_has ls 3 [(0, .int (J a)), (1, .int (J b)), (2, .null)] := hl
  refine lv_iload_n hx hb dJ3_checkIndex_8e157_0 rfl (lv_at hl 0 rfl) ?_
  refine j_if_lt (tgt := 9) hx hb dJ3_checkIndex_8e157_1 (by decide) ⟨by omega, by omega⟩ (fun q => by omega) (fun _ => ?_)
  refine lv_iload_n hx hb dJ3_checkIndex_8e157_4 rfl (lv_at hl 0 rfl) ?_
  refine lv_iload_n hx hb dJ3_checkIndex_8e157_5 rfl (lv_at hl 1 rfl) ?_
  refine j_icmp_lt (tgt := 16) hx hb dJ3_checkIndex_8e157_6 (by decide) ⟨by omega, by omega⟩ ⟨by omega, by omega⟩ (fun _ => ?_) (fun q => by omega)
  refine lv_iload_n hx hb dJ3_checkIndex_8e157_16 rfl (lv_at hl 0 rfl) ?_
  rw [hQf]
  exact j_ireti hx hb hr hlocks hG ⟨rfl, rfl⟩ (by decide) dJ3_checkIndex_8e157_17

set_option maxRecDepth 100000 in
set_option maxHeartbeats 4000000 in
theorem A_J3_checkIndex_r (l : Launch) {D : va_G} {cy : Nat → ClassId} {o : Nat} {sK sV : Nat → Nat} {M : jT} {a b : Int} {t9 : Nat} (h0 : 0 ≤ a) (h1 : a < b) (h2 : b < 2147483648) : CoI l yJ3_checkIndex_8e157 (wj yJ3_checkIndex_8e157 cJ3_checkIndex_8e157 3 (some .int)) rm_J00 D cy o sK sV M [.int (J a), .int (J b), .ref t9] (fun z M9 => z = a ∧ M9 = M) := by
  refine j_ofW (cc := cJ3_checkIndex_8e157) (maxL := 3) (ret := (some .int)) (by decide) rfl (Nat.le_of_ble_eq_true rfl) ?_
  intro p e s m args below meth c hx hb hr hlocks hml hown hts hK hSX H locs hG ls hl Qf hQf
  have hown : s.vm.findClass RJ3 = some m.cls := hown
  have hl : lv_has ls 3 [(0, .int (J a)), (1, .int (J b)), (2, .ref t9)] := hl
  refine lv_iload_n hx hb dJ3_checkIndex_8e157_0 rfl (lv_at hl 0 rfl) ?_
  refine j_if_lt (tgt := 9) hx hb dJ3_checkIndex_8e157_1 (by decide) ⟨by omega, by omega⟩ (fun q => by omega) (fun _ => ?_)
  refine lv_iload_n hx hb dJ3_checkIndex_8e157_4 rfl (lv_at hl 0 rfl) ?_
  refine lv_iload_n hx hb dJ3_checkIndex_8e157_5 rfl (lv_at hl 1 rfl) ?_
  refine j_icmp_lt (tgt := 16) hx hb dJ3_checkIndex_8e157_6 (by decide) ⟨by omega, by omega⟩ ⟨by omega, by omega⟩ (fun _ => ?_) (fun q => by omega)
  refine lv_iload_n hx hb dJ3_checkIndex_8e157_16 rfl (lv_at hl 0 rfl) ?_
  rw [hQf]
  exact j_ireti hx hb hr hlocks hG ⟨rfl, rfl⟩ (by decide) dJ3_checkIndex_8e157_17

abbrev rm_J0_checkIndex : Room := { frames := 1, cells := 0, slots := 0, locals := 22 }
set_option maxRecDepth 100000 in
set_option maxHeartbeats 4000000 in
theorem A_J0_checkIndex (l : Launch) {D : va_G} {cy : Nat → ClassId} {o : Nat} {sK sV : Nat → Nat} {M : jT} {a b : Int} (h0 : 0 ≤ a) (h1 : a < b) (h2 : b < 2147483648) : CoV l yJ0_checkIndex_df160 (wj yJ0_checkIndex_df160 cJ0_checkIndex_df160 2 none) rm_J0_checkIndex D cy o sK sV M [.int (J a), .int (J b)] (fun M9 => M9 = M) := by
  refine j_ofW (cc := cJ0_checkIndex_df160) (maxL := 2) (ret := none) (by decide) rfl (Nat.le_of_ble_eq_true rfl) ?_
  intro p e s m args below meth c hx hb hr hlocks hml hown hts hK hSX H locs hG ls hl Qf hQf
  have hown : s.vm.findClass RJ0 = some m.cls := hown
  have hl : lv_has ls 2 [(0, .int (J a)), (1, .int (J b))] := hl
  refine lv_iload_n hx hb dJ0_checkIndex_df160_0 rfl (lv_at hl 0 rfl) ?_
  refine lv_iload_n hx hb dJ0_checkIndex_df160_1 rfl (lv_at hl 1 rfl) ?_
  rcases hSX.2.2.2.2.2.2.2.2.2.1 with hZ | ⟨t9, hZ⟩
  · refine va_gets hx hb hZ hG.2 hown (hts _ (List.mem_cons_of_mem _ fl_RJ0_1053)) (fun _ h9 => h9) dJ0_checkIndex_df160_2 ?_
    refine j_conti (va_runS (As := [.int (J a), .int (J b), .null]) (rest := []) ⟨hx, hb, hml, hown, hts⟩ (A_J3_checkIndex_n l h0 h1 h2) (va_cwS 3 hts (gj_S ml_RJ0_1059 i_J3_checkIndex_8e157 n_RJ3 k_J3_checkIndex_8e157) rfl rfl rfl (by decide +kernel) ⟨by exact Nat.le_of_ble_eq_true rfl, by exact Nat.le_of_ble_eq_true rfl⟩) (j_preS hK hSX hG) rfl rfl hl.1 rfl (lv_room (Nat.le_of_ble_eq_true rfl)) dJ0_checkIndex_df160_5 ⟨by exact Nat.le_of_ble_eq_true rfl, by exact Nat.le_of_ble_eq_true rfl⟩) hG (c2 := 0) (s2 := 0) ⟨by exact Nat.le_of_ble_eq_true rfl, by exact Nat.le_of_ble_eq_true rfl⟩ (fun z M1 ez H locs hG => ?_)
    obtain ⟨ez, eM⟩ := ez
    rw [eM] at hG
    refine lv_pop hx hb dJ0_checkIndex_df160_8 rfl ?_
    rw [hQf]
    exact j_vret hx hb hr hlocks hG rfl (by decide) dJ0_checkIndex_df160_9
  · refine va_gets hx hb hZ hG.2 hown (hts _ (List.mem_cons_of_mem _ fl_RJ0_1053)) (fun _ h9 => h9) dJ0_checkIndex_df160_2 ?_
    refine j_conti (va_runS (As := [.int (J a), .int (J b), .ref t9]) (rest := []) ⟨hx, hb, hml, hown, hts⟩ (A_J3_checkIndex_r l h0 h1 h2) (va_cwS 3 hts (gj_S ml_RJ0_1059 i_J3_checkIndex_8e157 n_RJ3 k_J3_checkIndex_8e157) rfl rfl rfl (by decide +kernel) ⟨by exact Nat.le_of_ble_eq_true rfl, by exact Nat.le_of_ble_eq_true rfl⟩) (j_preS hK hSX hG) rfl rfl hl.1 rfl (lv_room (Nat.le_of_ble_eq_true rfl)) dJ0_checkIndex_df160_5 ⟨by exact Nat.le_of_ble_eq_true rfl, by exact Nat.le_of_ble_eq_true rfl⟩) hG (c2 := 0) (s2 := 0) ⟨by exact Nat.le_of_ble_eq_true rfl, by exact Nat.le_of_ble_eq_true rfl⟩ (fun z M1 ez H locs hG => ?_)
    obtain ⟨ez, eM⟩ := ez
    rw [eM] at hG
    refine lv_pop hx hb dJ0_checkIndex_df160_8 rfl ?_
    rw [hQf]
    exact j_vret hx hb hr hlocks hG rfl (by decide) dJ0_checkIndex_df160_9

abbrev rm_J1_charAt : Room := { frames := 2, cells := 0, slots := 0, locals := 43 }
set_option maxRecDepth 100000 in
set_option maxHeartbeats 4000000 in
theorem A_J1_charAt (l : Launch) {D : va_G} {cy : Nat → ClassId} {o : Nat} {sK sV : Nat → Nat} {M : jT} {i : Nat} {k : Int} (hi : i < 16) (h0 : 0 ≤ k ∧ k < sLn i) : CoI l yJ1_charAt_3b067 (wj yJ1_charAt_3b067 cJ1_charAt_3b067 2 (some .char)) rm_J1_charAt D cy o sK sV M [.ref (sV i), .int (J k)] (fun z M9 => z = sCh i k ∧ M9 = M) := by
  refine j_ofW (cc := cJ1_charAt_3b067) (maxL := 2) (ret := (some .char)) (by decide) rfl (Nat.le_of_ble_eq_true rfl) ?_
  intro p e s m args below meth c hx hb hr hlocks hml hown hts hK hSX H locs hG ls hl Qf hQf
  have hown : s.vm.findClass RJ1 = some m.cls := hown
  have hl : lv_has ls 2 [(0, .ref (sV i)), (1, .int (J k))] := hl
  have hr9 := sLn_rg hi
  have hn9 := sLn_n hi
  obtain ⟨q1, q2, q3⟩ := sTx_ok i hi
  obtain ⟨q4, q5, q6⟩ := q3 k.toNat (by omega)
  refine lv_iload_n hx hb dJ1_charAt_3b067_0 rfl (lv_at hl 1 rfl) ?_
  refine lv_aload_n hx hb dJ1_charAt_3b067_1 rfl (lv_at hl 0 rfl) ?_
  refine va_tlen hx hb (hSX.2.2.2.2.1.1 i hi).2.2.2 hG.2 (sLn_32 hi) dJ1_charAt_3b067_2 ?_
  refine j_contv (va_runS (As := [.int (J k), .int (J (sLn i))]) (rest := []) ⟨hx, hb, hml, hown, hts⟩ (A_J0_checkIndex l h0.1 h0.2 (by omega)) (va_cwS 2 hts (gj_S ml_RJ1_9 i_J0_checkIndex_df160 n_RJ0 k_J0_checkIndex_df160) rfl rfl rfl (by decide +kernel) ⟨by exact Nat.le_of_ble_eq_true rfl, by exact Nat.le_of_ble_eq_true rfl⟩) (j_preS hK hSX hG) rfl rfl hl.1 rfl (lv_room (Nat.le_of_ble_eq_true rfl)) dJ1_charAt_3b067_3 ⟨by exact Nat.le_of_ble_eq_true rfl, by exact Nat.le_of_ble_eq_true rfl⟩) hG (c2 := 0) (s2 := 0) ⟨by exact Nat.le_of_ble_eq_true rfl, by exact Nat.le_of_ble_eq_true rfl⟩ (fun M1 eM H locs hG => ?_)
  rw [eM] at hG
  refine lv_aload_n hx hb dJ1_charAt_3b067_6 rfl (lv_at hl 0 rfl) ?_
  refine lv_iload_n hx hb dJ1_charAt_3b067_7 rfl (lv_at hl 1 rfl) ?_
  refine va_tb hx hb (hSX.2.2.2.2.1.1 i hi).2.2.2 hG.2 (J_in h0.1 (by omega) (by omega)) (v := .int ((sByt.getD i []).getD k.toNat 0)) (by rw [J_cl h0.1 (by omega)]) dJ1_charAt_3b067_8 ?_
  refine lv_sipush (v := J 255) hx hb dJ1_charAt_3b067_9 (by decide) ?_
  refine lv_iand hx hb dJ1_charAt_3b067_12 ?_
  rw [q4]
  have ec : (sTx.getD i []).getD k.toNat 0 = sCh i k := rfl
  rw [ec] at q5 q6 ⊢
  refine j_i2c hx hb dJ1_charAt_3b067_13 ⟨by omega, by omega⟩ ?_
  rw [hQf]
  exact j_iretn hx hb hr hlocks (nar_c ⟨by omega, by omega⟩) hG ⟨rfl, rfl⟩ (by decide) dJ1_charAt_3b067_14

abbrev rm_J0_charAt : Room := { frames := 3, cells := 0, slots := 0, locals := 64 }
set_option maxRecDepth 100000 in
set_option maxHeartbeats 4000000 in
theorem A_J0_charAt (l : Launch) {D : va_G} {cy : Nat → ClassId} {o : Nat} {sK sV : Nat → Nat} {M : jT} {i : Nat} {k : Int} (hi : i < 16) (h0 : 0 ≤ k ∧ k < sLn i) : CoI l yJ0_charAt_5068e (wj yJ0_charAt_5068e cJ0_charAt_5068e 2 (some .char)) rm_J0_charAt D cy o sK sV M [.ref (sK i), .int (J k)] (fun z M9 => z = sCh i k ∧ M9 = M) := by
  refine j_ofW (cc := cJ0_charAt_5068e) (maxL := 2) (ret := (some .char)) (by decide) rfl (Nat.le_of_ble_eq_true rfl) ?_
  intro p e s m args below meth c hx hb hr hlocks hml hown hts hK hSX H locs hG ls hl Qf hQf
  have hown : s.vm.findClass RJ0 = some m.cls := hown
  have hl : lv_has ls 2 [(0, .ref (sK i)), (1, .int (J k))] := hl
  have hn9 := sLn_n hi
  obtain ⟨q1, q2, q3⟩ := sTx_ok i hi
  obtain ⟨q4, q5, q6⟩ := q3 k.toNat (by omega)
  have ec : (sTx.getD i []).getD k.toNat 0 = sCh i k := rfl
  rw [ec] at q5 q6
  refine lv_aload_n hx hb dJ0_charAt_5068e_0 rfl (lv_at hl 0 rfl) ?_
  refine j_conti (va_runV (As := []) (rest := []) ⟨hx, hb, hml, hown, hts⟩ (A_J0_isLatin1 l hi) (cwV 0 hts (gj_V ml_RJ0_492 i_J0_isLatin1_aae02 s_J0_isLatin1_aae02 n_RJ0 k_J0_isLatin1_aae02) rfl rfl rfl (by decide +kernel) ⟨by exact Nat.le_of_ble_eq_true rfl, by exact Nat.le_of_ble_eq_true rfl⟩) (j_preVS hK hSX hG hi) rfl rfl hl.1 rfl (lv_room (Nat.le_of_ble_eq_true rfl)) dJ0_charAt_5068e_1 ⟨by exact Nat.le_of_ble_eq_true rfl, by exact Nat.le_of_ble_eq_true rfl⟩) hG (c2 := 0) (s2 := 0) ⟨by exact Nat.le_of_ble_eq_true rfl, by exact Nat.le_of_ble_eq_true rfl⟩ (fun z M1 ez H locs hG => ?_)
  obtain ⟨ez, eM⟩ := ez
  subst ez
  rw [eM] at hG
  refine j_if_eq (tgt := 16) hx hb dJ0_charAt_5068e_4 (by decide) ⟨by omega, by omega⟩ (fun q => absurd q (by decide)) (fun _ => ?_)
  refine lv_aload_n hx hb dJ0_charAt_5068e_7 rfl (lv_at hl 0 rfl) ?_
  refine vk_getf hx hb (hSX.2.2.2.2.1.1 i hi).2.2.1 hG.2 hown (hts _ (List.mem_cons_of_mem _ fl_RJ0_9)) (fun _ h9 => h9) dJ0_charAt_5068e_8 ?_
  refine lv_iload_n hx hb dJ0_charAt_5068e_11 rfl (lv_at hl 1 rfl) ?_
  refine j_conti (va_runS (As := [.ref (sV i), .int (J k)]) (rest := []) ⟨hx, hb, hml, hown, hts⟩ (A_J1_charAt l hi h0) (va_cwS 2 hts (gj_S ml_RJ0_495 i_J1_charAt_3b067 n_RJ1 k_J1_charAt_3b067) rfl rfl rfl (by decide +kernel) ⟨by exact Nat.le_of_ble_eq_true rfl, by exact Nat.le_of_ble_eq_true rfl⟩) (j_preS hK hSX hG) rfl rfl hl.1 rfl (lv_room (Nat.le_of_ble_eq_true rfl)) dJ0_charAt_5068e_12 ⟨by exact Nat.le_of_ble_eq_true rfl, by exact Nat.le_of_ble_eq_true rfl⟩) hG (c2 := 0) (s2 := 0) ⟨by exact Nat.le_of_ble_eq_true rfl, by exact Nat.le_of_ble_eq_true rfl⟩ (fun z M2 ez H locs hG => ?_)
  obtain ⟨ez, eM⟩ := ez
  subst ez
  rw [eM] at hG
  rw [hQf]
  exact j_iretn hx hb hr hlocks (nar_c ⟨by omega, by omega⟩) hG ⟨rfl, rfl⟩ (by decide) dJ0_charAt_5068e_15

theorem J_tdiv {a b : Int} (ha : rg a) (h0 : 0 < b) (h1 : b < 2147483648) : J a / J b = J (a.tdiv b) := by
  by_cases h : 0 ≤ a
  · rw [J_div h ha.2 h0 h1, Int.tdiv_eq_ediv_of_nonneg h]
  · apply Int32.toInt_inj.mp
    have e1 : a.tdiv b = -((-a) / b) := by
      have : a = -(-a) := by omega
      rw [this, Int.neg_tdiv, Int.tdiv_eq_ediv_of_nonneg (by omega), Int.neg_neg]
    have e2 : 0 ≤ (-a) / b := Int.ediv_nonneg (by omega) (by omega)
    have e3 : (-a) / b ≤ -a := Int.ediv_le_self _ (by omega)
    obtain ⟨ha1, ha2⟩ := ha
    rw [Int32.toInt_div, J_toInt ⟨ha1, ha2⟩, J_toInt ⟨by omega, by omega⟩, J_toInt ⟨by omega, by omega⟩, e1]
    generalize (-a) / b = q at e2 e3 ⊢
    simp only [Int.bmod]
    split <;> omega
theorem J_trem {a b : Int} (ha : rg a) (h0 : 0 < b) (h1 : b < 2147483648) : J a - J a / J b * J b = J (a.tmod b) := by
  rw [J_tdiv ha h0 h1, J_mul, J_sub]
  congr 1
  rw [Int.tmod_def, Int.mul_comm]
theorem J_xorlt {a b : Int} (ha : rg a) (h0 : 0 < b) (h1 : b < 2147483648) : (J a ^^^ J b).toInt < 0 ↔ a < 0 := by
  have h := BitVec.msb_xor (x := (J a).toBitVec) (y := (J b).toBitVec)
  rw [BitVec.msb_eq_toInt, BitVec.msb_eq_toInt, BitVec.msb_eq_toInt] at h
  have e1 : (J a).toBitVec.toInt = a := J_toInt ha
  have e2 : (J b).toBitVec.toInt = b := J_toInt ⟨by omega, by omega⟩
  have e3 : ((J a).toBitVec ^^^ (J b).toBitVec).toInt = (J a ^^^ J b).toInt := rfl
  rw [e1, e2, e3, show decide (b < 0) = false from decide_eq_false (by omega), Bool.xor_false] at h
  exact decide_eq_decide.mp h

theorem j_metF {l : Launch} {y : MethodName} {ws ws' : List Cond} {rm : Room} {Pc : Array Value → State → Prop} {Qc : Array Value → State → Outcome → State → Prop} {mc ms : Nat} {free : Addr → Prop} {cc : ByteArray} {maxL : Nat} {ret : Option FieldType}
    (hy : plainFor y = true) (hw : ws = Cond.code y cc maxL ret :: ws')
    (body : ∀ p e s m args below meth c s₁, BodyLoose p l y (headSpec ws rm) cc maxL ret e s m args below meth c s₁ → c.maxLocals = maxL → Pc args s →
      W p l e (headSpec ws rm).room s m args below meth c s.heap [] 0 0 (MQ below Qc args s mc ms free) (entryFrame m args maxL)) : Met l y ws rm Pc Qc mc ms free := by
  refine MetFree.of_bodyRF (code := cc) (maxLocals := maxL) (ret := ret) hy (fun args s m h hn => ?_) (fun p e s m args below meth c s₁ B hml hP _ hst => ?_)
  · obtain ⟨meth, c, h1, h2, h3, h4, h5, h6, -, -⟩ := Cond.code_spec hn (atoms_spec (ws := ws) h _ (by rw [hw]; exact List.mem_cons_self))
    exact ⟨meth, c, h1, h2, h3, h4, h5, h6⟩
  · obtain ⟨t, a1, o, b1, b2, b3⟩ := body p e s m args below meth c s₁ B hml hP s₁ (by rw [B.state]; rfl) (Stand.of_body B)
    exact ⟨t, o, hst.trans a1, b1, b2, b3.1, b3.2⟩
theorem j_ofWF {l : Launch} {y : MethodName} {ws ws' : List Cond} {rm : Room} {as : List Value} {Qc : Array Value → State → Outcome → State → Prop} {mc ms : Nat} {cc : ByteArray} {maxL : Nat} {ret : Option FieldType} {D : va_G} {cy : Nat → ClassId} {o : Nat} {sK sV : Nat → Nat} {M : jT}
    (hy : plainFor y = true) (hw : ws = Cond.code y cc maxL ret :: ws') (hsl : (lg_sl as).length ≤ maxL)
    (body : ∀ (p : Program) (e : Env) (s : State) (m : MethodId) (args : Array Value) (below : List Frame) (meth : Method) (c : Code), p.tables.exec = Jvm.exec → c.code = cc → meth.sig.returnType = ret → meth.locks = false → c.maxLocals = maxL → s.vm.findClass y.cls = some m.cls → (∀ w ∈ ws, w.before args s = true) → va_K D jCl (tysF cy) s → SX o sK sV s → ∀ (H : Heap) (locs : List Loc), GM D cy o M s.heap H locs → ∀ ls : Array Slot, lv_has ls maxL (lv_args 0 as) → ∀ Qf : State → Prop, Qf = MQ below Qc args s mc ms (oA o) → W p l e rm s m args below meth c H locs 0 0 Qf (F0 m 0 ls [])) :
    Met l y ws rm (va_Pc as (GP D cy o sK sV M)) Qc mc ms (oA o) := by
  refine j_metF (cc := cc) (maxL := maxL) (ret := ret) hy hw ?_
  intro p e s m args below meth c s₁ B hml hv
  obtain ⟨ha, hP, hK, hSX⟩ := hv
  have hl := lv_entry as (n := maxL) hsl
  rw [ha, lg_entry_eq]
  exact body p e s m as.toArray below meth c B.exec B.bytes B.returns B.notSynchronized hml (findClass_of_methodNamed B.named) (fun w h => by rw [← ha]; exact atoms_spec (ws := ws) B.pre w h) hK hSX _ _ ⟨hP, va_S.rf⟩ _ hl _ rfl

set_option maxRecDepth 100000 in
set_option maxHeartbeats 4000000 in
theorem A_J9_floorMod (l : Launch) {D : va_G} {cy : Nat → ClassId} {o : Nat} {sK sV : Nat → Nat} {M : jT} {a b : Int} (ha : rg a) (h9 : 0 < b ∧ b < 2147483648) : CoI l yJ9_floorMod_7cf53 (wj yJ9_floorMod_7cf53 cJ9_floorMod_7cf53 3 (some .int)) rm_J00 D cy o sK sV M [.int (J a), .int (J b)] (fun z M9 => z = a % b ∧ M9 = M) := by
  refine j_ofWF (cc := cJ9_floorMod_7cf53) (maxL := 3) (ret := (some .int)) (by decide +kernel) rfl (Nat.le_of_ble_eq_true rfl) ?_
  intro p e s m args below meth c hx hb hr hlocks hml hown hts hK hSX H locs hG ls hl Qf hQf
  have hown : s.vm.findClass RJ9 = some m.cls := hown
  have hl : lv_has ls 3 [(0, .int (J a)), (1, .int (J b))] := hl
  have hb9 : (0 ≤ a ∧ a.tmod b = a % b) ∨ (a < 0 ∧ a.tmod b < 0 ∧ a.tmod b + b = a % b ∧ 0 < a % b) ∨ (a < 0 ∧ a.tmod b = 0 ∧ a % b = 0) := by
    by_cases q : 0 ≤ a
    · exact Or.inl ⟨q, Int.tmod_eq_emod_of_nonneg q⟩
    · have e1 : a.tmod b = -((-a) % b) := by
        have : a = -(-a) := by omega
        rw [this, Int.neg_tmod, Int.tmod_eq_emod_of_nonneg (by omega), Int.neg_neg]
      have e2 := Int.emod_nonneg (-a) (b := b) (by omega)
      have e3 := Int.emod_lt_of_pos (-a) h9.1
      have e4 := Int.emod_nonneg a (b := b) (by omega)
      have e5 := Int.emod_lt_of_pos a h9.1
      have e6 := Int.emod_add_mul_ediv a b
      have e7 := Int.emod_add_mul_ediv (-a) b
      have e8 : a % b + (-a) % b = b * (-(a / b) - (-a) / b) := by rw [Int.mul_sub, Int.mul_neg]; omega
      have e9 : -(a / b) - (-a) / b = 0 ∨ -(a / b) - (-a) / b = 1 := by
        generalize -(a / b) - (-a) / b = z at e8
        have z0 : 0 ≤ z := by
          by_cases z1 : z < 0
          · have : b * z ≤ b * (-1) := Int.mul_le_mul_of_nonneg_left (by omega) (by omega)
            omega
          · omega
        have z2 : z < 2 := by
          by_cases z1 : z < 2
          · exact z1
          · have : b * 2 ≤ b * z := Int.mul_le_mul_of_nonneg_left (by omega) (by omega)
            omega
        omega
      rcases e9 with e9 | e9 <;> rw [e9] at e8 <;> omega
  have hr9 : -b < a.tmod b ∧ a.tmod b < b := by
    have q1 := Int.emod_nonneg a (b := b) (by omega)
    have q2 := Int.emod_lt_of_pos a h9.1
    omega
  refine lv_iload_n hx hb dJ9_floorMod_7cf53_0 rfl (lv_at hl 0 rfl) ?_
  refine lv_iload_n hx hb dJ9_floorMod_7cf53_1 rfl (lv_at hl 1 rfl) ?_
  refine lv_irem hx hb dJ9_floorMod_7cf53_2 (J_ne0 ⟨by omega, by omega⟩ (by omega)) ?_
  rw [J_trem ha h9.1 h9.2]
  refine lv_istore_n (lv' := [(2, .int (J (a.tmod b))), (0, .int (J a)), (1, .int (J b))]) hx hb dJ9_floorMod_7cf53_3 rfl hl (by decide) rfl (fun ls hl => ?_)
  refine lv_iload_n hx hb dJ9_floorMod_7cf53_4 rfl (lv_at hl 1 rfl) ?_
  refine lv_iload_n hx hb dJ9_floorMod_7cf53_5 rfl (lv_at hl 2 rfl) ?_
  refine lv_ixor hx hb dJ9_floorMod_7cf53_6 ?_
  have hz := J_xorlt ha h9.1 h9.2
  rw [← J_of (J a ^^^ J b)]
  refine j_if_ge (tgt := 18) hx hb dJ9_floorMod_7cf53_7 (by decide) ⟨Int32.le_toInt _, Int32.toInt_lt _⟩ (fun q => ?_) (fun q => ?_)
  · have ha0 : 0 ≤ a := Int.not_lt.mp (fun z => absurd (hz.mpr z) (by omega))
    refine lv_iload_n hx hb dJ9_floorMod_7cf53_18 rfl (lv_at hl 0 rfl) ?_
    rw [hQf]
    exact j_ireti hx hb hr hlocks hG ⟨by omega, rfl⟩ (by decide) dJ9_floorMod_7cf53_19
  · have ha0 : a < 0 := hz.mp (by omega)
    refine lv_iload_n hx hb dJ9_floorMod_7cf53_10 rfl (lv_at hl 0 rfl) ?_
    refine j_if_eq (tgt := 18) hx hb dJ9_floorMod_7cf53_11 (by decide) ⟨by omega, by omega⟩ (fun q2 => ?_) (fun q2 => ?_)
    · refine lv_iload_n hx hb dJ9_floorMod_7cf53_18 rfl (lv_at hl 0 rfl) ?_
      rw [hQf]
      exact j_ireti hx hb hr hlocks hG ⟨by omega, rfl⟩ (by decide) dJ9_floorMod_7cf53_19
    · refine lv_iload_n hx hb dJ9_floorMod_7cf53_14 rfl (lv_at hl 0 rfl) ?_
      refine lv_iload_n hx hb dJ9_floorMod_7cf53_15 rfl (lv_at hl 2 rfl) ?_
      refine j_iadd hx hb dJ9_floorMod_7cf53_16 ?_
      rw [hQf]
      exact j_ireti hx hb hr hlocks hG ⟨by omega, rfl⟩ (by decide) dJ9_floorMod_7cf53_17

