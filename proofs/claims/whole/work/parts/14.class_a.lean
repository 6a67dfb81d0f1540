abbrev rm_X10_isYear : Room := { frames := 0, cells := 0, slots := 0, locals := 0 }
set_option maxRecDepth 100000 in
set_option maxHeartbeats 4000000 in
theorem A_X10_isYear (l : Launch) {D : va_G} {cy : Nat → ClassId} {o : Nat} {sK sV : Nat → Nat} {M : jT} {a0 : Int} (h : pg_X10_isYear a0) : CoI l yX10_isYear (wj yX10_isYear cX10_isYear 1 (some .boolean)) rm_X10_isYear D cy o sK sV M [.int (J a0)] (fun z M9 => z = b2i (pb_X10_isYear a0) ∧ M9 = M) := by
  refine j_ofW (cc := cX10_isYear) (maxL := 1) (ret := (some .boolean)) (by decide) rfl (Nat.le_of_ble_eq_true rfl) ?_
  intro p e s m args below meth c hx hb hr hlocks hml hown hts hK hSX H locs hG ls hl Qf hQf
  have hown : s.vm.findClass RX10 = some m.cls := hown
  have hl : lv_has ls 1 [(0, .int (J a0))] := hl
  unfold pg_X10_isYear at h
  refine lv_iload_n hx hb dX10_isYear_0 rfl (lv_at hl 0 rfl) ?_
  obtain ⟨g2, h⟩ := h
  refine j_if_lt (tgt := 14) hx hb dX10_isYear_1 (by decide) g2 (fun c1 => ?_) (fun c1 => ?_)
  · have h := h.1 c1
    refine lv_iconst (v := J 0) hx hb dX10_isYear_14 (by decide) ?_
    rw [hQf]
    exact j_iretn hx hb hr hlocks (nar_b (by decide)) hG ⟨(b2i_iff0 (iff_of_false (fun q8 => (show ¬ (0 ≤ a0) from by omega) q8.1) id)), rfl⟩ (by decide) dX10_isYear_15
  · have h := h.2 c1
    refine lv_iload_n hx hb dX10_isYear_4 rfl (lv_at hl 0 rfl) ?_
    refine lv_bipush (v := J 32) hx hb dX10_isYear_5 (by decide) ?_
    refine j_icmp_ge (tgt := 14) hx hb dX10_isYear_7 (by decide) g2 (by decide) (fun c3 => ?_) (fun c3 => ?_)
    · have h := h.1 c3
      refine lv_iconst (v := J 0) hx hb dX10_isYear_14 (by decide) ?_
      rw [hQf]
      exact j_iretn hx hb hr hlocks (nar_b (by decide)) hG ⟨(b2i_iff0 ((and_iff_right c1).trans (iff_of_false (show ¬ (a0 < 32) from by omega) id))), rfl⟩ (by decide) dX10_isYear_15
    · have h := h.2 c3
      refine lv_iconst (v := J 1) hx hb dX10_isYear_10 (by decide) ?_
      refine lv_goto (tgt := 15) hx hb dX10_isYear_11 (by decide) ?_
      rw [hQf]
      exact j_iretn hx hb hr hlocks (nar_b (by decide)) hG ⟨(b2i_iff1 ((and_iff_right c1).trans (iff_of_true c3 trivial))), rfl⟩ (by decide) dX10_isYear_15

abbrev rm_X10_isMonth : Room := { frames := 0, cells := 0, slots := 0, locals := 0 }
set_option maxRecDepth 100000 in
set_option maxHeartbeats 4000000 in
theorem A_X10_isMonth (l : Launch) {D : va_G} {cy : Nat → ClassId} {o : Nat} {sK sV : Nat → Nat} {M : jT} {a0 : Int} (h : pg_X10_isMonth a0) : CoI l yX10_isMonth (wj yX10_isMonth cX10_isMonth 1 (some .boolean)) rm_X10_isMonth D cy o sK sV M [.int (J a0)] (fun z M9 => z = b2i (pb_X10_isMonth a0) ∧ M9 = M) := by
  refine j_ofW (cc := cX10_isMonth) (maxL := 1) (ret := (some .boolean)) (by decide) rfl (Nat.le_of_ble_eq_true rfl) ?_
  intro p e s m args below meth c hx hb hr hlocks hml hown hts hK hSX H locs hG ls hl Qf hQf
  have hown : s.vm.findClass RX10 = some m.cls := hown
  have hl : lv_has ls 1 [(0, .int (J a0))] := hl
  unfold pg_X10_isMonth at h
  refine lv_iload_n hx hb dX10_isMonth_0 rfl (lv_at hl 0 rfl) ?_
  refine lv_iconst (v := J 1) hx hb dX10_isMonth_1 (by decide) ?_
  obtain ⟨g2, h⟩ := h
  refine j_icmp_lt (tgt := 15) hx hb dX10_isMonth_2 (by decide) g2 (by decide) (fun c1 => ?_) (fun c1 => ?_)
  · have h := h.1 c1
    refine lv_iconst (v := J 0) hx hb dX10_isMonth_15 (by decide) ?_
    rw [hQf]
    exact j_iretn hx hb hr hlocks (nar_b (by decide)) hG ⟨(b2i_iff0 (iff_of_false (fun q8 => (show ¬ (1 ≤ a0) from by omega) q8.1) id)), rfl⟩ (by decide) dX10_isMonth_16
  · have h := h.2 c1
    refine lv_iload_n hx hb dX10_isMonth_5 rfl (lv_at hl 0 rfl) ?_
    refine lv_bipush (v := J 12) hx hb dX10_isMonth_6 (by decide) ?_
    refine j_icmp_gt (tgt := 15) hx hb dX10_isMonth_8 (by decide) g2 (by decide) (fun c3 => ?_) (fun c3 => ?_)
    · have h := h.1 c3
      refine lv_iconst (v := J 0) hx hb dX10_isMonth_15 (by decide) ?_
      rw [hQf]
      exact j_iretn hx hb hr hlocks (nar_b (by decide)) hG ⟨(b2i_iff0 ((and_iff_right c1).trans (iff_of_false (show ¬ (a0 ≤ 12) from by omega) id))), rfl⟩ (by decide) dX10_isMonth_16
    · have h := h.2 c3
      refine lv_iconst (v := J 1) hx hb dX10_isMonth_11 (by decide) ?_
      refine lv_goto (tgt := 16) hx hb dX10_isMonth_12 (by decide) ?_
      rw [hQf]
      exact j_iretn hx hb hr hlocks (nar_b (by decide)) hG ⟨(b2i_iff1 ((and_iff_right c1).trans (iff_of_true c3 trivial))), rfl⟩ (by decide) dX10_isMonth_16

abbrev rom_X10_needArgument : Room := { frames := 0, cells := 0, slots := 0, locals := 0 }
set_option maxRecDepth 100000 in
set_option maxHeartbeats 4000000 in
theorem Ao_X10_needArgument (l : Launch) {D : va_G} {cy : Nat → ClassId} {o : Nat} {sK sV : Nat → Nat} {M : jT} {a0 : Int} {Q : Prop} (h : wo_X10_needArgument M a0 Q) : CoV l yX10_needArgument (wj yX10_needArgument cX10_needArgument 1 none) rom_X10_needArgument D cy o sK sV M [.int (J a0)] (fun M9 => Q ∧ M9 = M) := by
  refine j_ofW (cc := cX10_needArgument) (maxL := 1) (ret := none) (by decide) rfl (Nat.le_of_ble_eq_true rfl) ?_
  intro p e s m args below meth c hx hb hr hlocks hml hown hts hK hSX H locs hG ls hl Qf hQf
  have hown : s.vm.findClass RX10 = some m.cls := hown
  have hl : lv_has ls 1 [(0, .int (J a0))] := hl
  unfold wo_X10_needArgument at h
  refine lv_iload_n hx hb dX10_needArgument_0 rfl (lv_at hl 0 rfl) ?_
  obtain ⟨g2, h⟩ := h
  refine j_if_ne (tgt := 15) hx hb dX10_needArgument_1 (by decide) g2 (fun c1 => ?_) (fun c1 => ?_)
  · have h := h.1 c1
    rw [hQf]
    exact j_vret hx hb hr hlocks hG ⟨h, rfl⟩ (by decide) dX10_needArgument_15
  · have h := h.2 c1
    exact h.elim
abbrev rm_X10_needArgument : Room := { frames := 6, cells := 1, slots := 6, locals := 90 }
set_option maxRecDepth 100000 in
set_option maxHeartbeats 4000000 in
theorem A_X10_needArgument (l : Launch) (hst : l.stackTraces = false) {D : va_G} {cy : Nat → ClassId} {o : Nat} {sK sV : Nat → Nat} {M : jT} {a0 : Int} {Q : jT → Prop} {X : Nat → jT → Prop} (h : wp_X10_needArgument M a0 Q X) : CxV l yX10_needArgument (wj yX10_needArgument cX10_needArgument 1 none) rm_X10_needArgument D cy o sK sV M [.int (J a0)] Q X := by
  refine j_ofWx (cc := cX10_needArgument) (maxL := 1) (ret := none) (by decide) rfl (Nat.le_of_ble_eq_true rfl) ?_
  intro p e s m args below meth c hx hb hr hlocks hout hml hown hts hK hSX H locs hsz hG ls hl Qf hQf
  have hown : s.vm.findClass RX10 = some m.cls := hown
  have hl : lv_has ls 1 [(0, .int (J a0))] := hl
  unfold wp_X10_needArgument at h
  refine lv_iload_n hx hb dX10_needArgument_0 rfl (lv_at hl 0 rfl) ?_
  obtain ⟨g2, h⟩ := h
  refine j_if_ne (tgt := 15) hx hb dX10_needArgument_1 (by decide) g2 (fun c1 => ?_) (fun c1 => ?_)
  · have h := h.1 c1
    rw [hQf]
    exact vx_ret (j_vret hx hb hr hlocks hG h (by decide) dX10_needArgument_15)
  · have h := h.2 c1
    rw [hQf]
    exact j_throw (xn := 2) (si := 3) hx hb hst hts hown hSX hG (hml.trans hl.1.symm) (by decide +kernel) (List.mem_cons_of_mem _ xl_RX10_459) (List.mem_cons_of_mem _ xi_2) rfl (fun w h => List.mem_cons_of_mem _ (xg_RX10_463 w h)) xb_RX10_463 xo_RX10_463 rfl dX10_needArgument_4 dX10_needArgument_7 dX10_needArgument_8 dX10_needArgument_11 dX10_needArgument_14 hout (by decide) (by exact Nat.le_of_ble_eq_true rfl) (by decide) (by decide) hlocks h (by decide)

abbrev rm_X1_monthLength : Room := { frames := 0, cells := 0, slots := 0, locals := 0 }
set_option maxRecDepth 100000 in
set_option maxHeartbeats 4000000 in
theorem A_X1_monthLength (l : Launch) {D : va_G} {cy : Nat → ClassId} {o : Nat} {sK sV : Nat → Nat} {M : jT} {a0 : Int} {a1 : Int} (h : pg_X1_monthLength a0 a1) : CoI l yX1_monthLength (wj yX1_monthLength cX1_monthLength 3 (some .int)) rm_X1_monthLength D cy o sK sV M [.int (J a0), .int (J a1)] (fun z M9 => z = pf_X1_monthLength a0 a1 ∧ M9 = M) := by
  refine j_ofW (cc := cX1_monthLength) (maxL := 3) (ret := (some .int)) (by decide) rfl (Nat.le_of_ble_eq_true rfl) ?_
  intro p e s m args below meth c hx hb hr hlocks hml hown hts hK hSX H locs hG ls hl Qf hQf
  have hown : s.vm.findClass RX1 = some m.cls := hown
  have hl : lv_has ls 3 [(0, .int (J a0)), (1, .int (J a1))] := hl
  obtain ⟨tS, hZ1, hT1⟩ := hSX.1
  have w_fl_RX1_7 := hts _ (List.mem_cons_of_mem _ fl_RX1_7)
  unfold pg_X1_monthLength at h
  refine lv_iload_n hx hb dX1_monthLength_0 rfl (lv_at hl 0 rfl) ?_
  refine lv_iconst (v := J 4) hx hb dX1_monthLength_1 (by decide) ?_
  obtain ⟨g1, h⟩ := h
  refine j_irem hx hb dX1_monthLength_2 g1 (by decide) ?_
  obtain ⟨g3, h⟩ := h
  refine j_if_ne (tgt := 15) hx hb dX1_monthLength_3 (by decide) g3 (fun c2 => ?_) (fun c2 => ?_)
  · have h := h.1 c2
    refine lv_iconst (v := J 0) hx hb dX1_monthLength_15 (by decide) ?_
    refine lv_istore_n (lv' := [(2, .int (J 0)), (0, .int (J a0)), (1, .int (J a1))]) hx hb dX1_monthLength_16 rfl hl (by decide) rfl (fun ls hl => ?_)
    refine va_gets hx hb hZ1 hG.2 hown w_fl_RX1_7 (fun _ h9 => h9) dX1_monthLength_17 ?_
    refine lv_iload_n hx hb dX1_monthLength_20 rfl (lv_at hl 2 rfl) ?_
    obtain ⟨g4, h⟩ := h
    refine j_ti hx hb hT1 hG.2 g4 (by decide) dX1_monthLength_21 ?_
    refine va_gets hx hb hZ1 hG.2 hown w_fl_RX1_7 (fun _ h9 => h9) dX1_monthLength_22 ?_
    refine lv_iload_n hx hb dX1_monthLength_25 rfl (lv_at hl 2 rfl) ?_
    refine lv_iconst (v := J 1) hx hb dX1_monthLength_26 (by decide) ?_
    refine j_isub hx hb dX1_monthLength_27 ?_
    obtain ⟨g5, h⟩ := h
    refine j_ti hx hb hT1 hG.2 g5 (by decide) dX1_monthLength_28 ?_
    refine j_isub hx hb dX1_monthLength_29 ?_
    refine lv_iload_n hx hb dX1_monthLength_30 rfl (lv_at hl 0 rfl) ?_
    refine j_iadd hx hb dX1_monthLength_31 ?_
    rw [hQf]
    exact j_ireti hx hb hr hlocks hG ⟨(by unfold pf_X1_monthLength; rw [if_pos c2]), rfl⟩ (by decide) dX1_monthLength_32
  · have h := h.2 c2
    refine lv_iload_n hx hb dX1_monthLength_6 rfl (lv_at hl 1 rfl) ?_
    refine lv_iconst (v := J 2) hx hb dX1_monthLength_7 (by decide) ?_
    obtain ⟨g7, h⟩ := h
    refine j_icmp_ne (tgt := 15) hx hb dX1_monthLength_8 (by decide) g7 (by decide) (fun c6 => ?_) (fun c6 => ?_)
    · have h := h.1 c6
      refine lv_iconst (v := J 0) hx hb dX1_monthLength_15 (by decide) ?_
      refine lv_istore_n (lv' := [(2, .int (J 0)), (0, .int (J a0)), (1, .int (J a1))]) hx hb dX1_monthLength_16 rfl hl (by decide) rfl (fun ls hl => ?_)
      refine va_gets hx hb hZ1 hG.2 hown w_fl_RX1_7 (fun _ h9 => h9) dX1_monthLength_17 ?_
      refine lv_iload_n hx hb dX1_monthLength_20 rfl (lv_at hl 2 rfl) ?_
      obtain ⟨g8, h⟩ := h
      refine j_ti hx hb hT1 hG.2 g8 (by decide) dX1_monthLength_21 ?_
      refine va_gets hx hb hZ1 hG.2 hown w_fl_RX1_7 (fun _ h9 => h9) dX1_monthLength_22 ?_
      refine lv_iload_n hx hb dX1_monthLength_25 rfl (lv_at hl 2 rfl) ?_
      refine lv_iconst (v := J 1) hx hb dX1_monthLength_26 (by decide) ?_
      refine j_isub hx hb dX1_monthLength_27 ?_
      obtain ⟨g9, h⟩ := h
      refine j_ti hx hb hT1 hG.2 g9 (by decide) dX1_monthLength_28 ?_
      refine j_isub hx hb dX1_monthLength_29 ?_
      refine lv_iload_n hx hb dX1_monthLength_30 rfl (lv_at hl 0 rfl) ?_
      refine j_iadd hx hb dX1_monthLength_31 ?_
      rw [hQf]
      exact j_ireti hx hb hr hlocks hG ⟨(by unfold pf_X1_monthLength; rw [if_neg (show ¬ (a0 % 4 ≠ 0) from by omega), if_pos c6]), rfl⟩ (by decide) dX1_monthLength_32
    · have h := h.2 c6
      refine lv_iconst (v := J 1) hx hb dX1_monthLength_11 (by decide) ?_
      refine lv_goto (tgt := 16) hx hb dX1_monthLength_12 (by decide) ?_
      refine lv_istore_n (lv' := [(2, .int (J 1)), (0, .int (J a0)), (1, .int (J a1))]) hx hb dX1_monthLength_16 rfl hl (by decide) rfl (fun ls hl => ?_)
      refine va_gets hx hb hZ1 hG.2 hown w_fl_RX1_7 (fun _ h9 => h9) dX1_monthLength_17 ?_
      refine lv_iload_n hx hb dX1_monthLength_20 rfl (lv_at hl 2 rfl) ?_
      obtain ⟨g10, h⟩ := h
      refine j_ti hx hb hT1 hG.2 g10 (by decide) dX1_monthLength_21 ?_
      refine va_gets hx hb hZ1 hG.2 hown w_fl_RX1_7 (fun _ h9 => h9) dX1_monthLength_22 ?_
      refine lv_iload_n hx hb dX1_monthLength_25 rfl (lv_at hl 2 rfl) ?_
      refine lv_iconst (v := J 1) hx hb dX1_monthLength_26 (by decide) ?_
      refine j_isub hx hb dX1_monthLength_27 ?_
      obtain ⟨g11, h⟩ := h
      refine j_ti hx hb hT1 hG.2 g11 (by decide) dX1_monthLength_28 ?_
      refine j_isub hx hb dX1_monthLength_29 ?_
      refine lv_iload_n hx hb dX1_monthLength_30 rfl (lv_at hl 0 rfl) ?_
      refine j_iadd hx hb dX1_monthLength_31 ?_
      rw [hQf]
      exact j_ireti hx hb hr hlocks hG ⟨(by unfold pf_X1_monthLength; rw [if_neg (show ¬ (a0 % 4 ≠ 0) from by omega), if_neg (show ¬ (a1 ≠ 2) from by omega)]), rfl⟩ (by decide) dX1_monthLength_32

abbrev rm_X1_monthStart : Room := { frames := 0, cells := 0, slots := 0, locals := 0 }
set_option maxRecDepth 100000 in
set_option maxHeartbeats 4000000 in
theorem A_X1_monthStart (l : Launch) {D : va_G} {cy : Nat → ClassId} {o : Nat} {sK sV : Nat → Nat} {M : jT} {a0 : Int} {a1 : Int} (h : pg_X1_monthStart a0 a1) : CoI l yX1_monthStart (wj yX1_monthStart cX1_monthStart 3 (some .int)) rm_X1_monthStart D cy o sK sV M [.int (J a0), .int (J a1)] (fun z M9 => z = pf_X1_monthStart a0 a1 ∧ M9 = M) := by
  refine j_ofW (cc := cX1_monthStart) (maxL := 3) (ret := (some .int)) (by decide) rfl (Nat.le_of_ble_eq_true rfl) ?_
  intro p e s m args below meth c hx hb hr hlocks hml hown hts hK hSX H locs hG ls hl Qf hQf
  have hown : s.vm.findClass RX1 = some m.cls := hown
  have hl : lv_has ls 3 [(0, .int (J a0)), (1, .int (J a1))] := hl
  obtain ⟨tS, hZ1, hT1⟩ := hSX.1
  have w_fl_RX1_7 := hts _ (List.mem_cons_of_mem _ fl_RX1_7)
  unfold pg_X1_monthStart at h
  refine lv_iload_n hx hb dX1_monthStart_0 rfl (lv_at hl 0 rfl) ?_
  refine lv_iconst (v := J 4) hx hb dX1_monthStart_1 (by decide) ?_
  obtain ⟨g1, h⟩ := h
  refine j_irem hx hb dX1_monthStart_2 g1 (by decide) ?_
  obtain ⟨g3, h⟩ := h
  refine j_if_ne (tgt := 15) hx hb dX1_monthStart_3 (by decide) g3 (fun c2 => ?_) (fun c2 => ?_)
  · have h := h.1 c2
    refine lv_iconst (v := J 0) hx hb dX1_monthStart_15 (by decide) ?_
    refine lv_istore_n (lv' := [(2, .int (J 0)), (0, .int (J a0)), (1, .int (J a1))]) hx hb dX1_monthStart_16 rfl hl (by decide) rfl (fun ls hl => ?_)
    refine lv_sipush (v := J 365) hx hb dX1_monthStart_17 (by decide) ?_
    refine lv_iload_n hx hb dX1_monthStart_20 rfl (lv_at hl 1 rfl) ?_
    refine j_imul hx hb dX1_monthStart_21 ?_
    refine lv_iload_n hx hb dX1_monthStart_22 rfl (lv_at hl 1 rfl) ?_
    refine lv_iconst (v := J 3) hx hb dX1_monthStart_23 (by decide) ?_
    refine j_iadd hx hb dX1_monthStart_24 ?_
    refine lv_iconst (v := J 4) hx hb dX1_monthStart_25 (by decide) ?_
    obtain ⟨g4, h⟩ := h
    refine j_idiv hx hb dX1_monthStart_26 g4 (by decide) ?_
    refine j_iadd hx hb dX1_monthStart_27 ?_
    refine va_gets hx hb hZ1 hG.2 hown w_fl_RX1_7 (fun _ h9 => h9) dX1_monthStart_28 ?_
    refine lv_iload_n hx hb dX1_monthStart_31 rfl (lv_at hl 2 rfl) ?_
    refine lv_iconst (v := J 1) hx hb dX1_monthStart_32 (by decide) ?_
    refine j_isub hx hb dX1_monthStart_33 ?_
    obtain ⟨g5, h⟩ := h
    refine j_ti hx hb hT1 hG.2 g5 (by decide) dX1_monthStart_34 ?_
    refine j_iadd hx hb dX1_monthStart_35 ?_
    refine lv_iload_n hx hb dX1_monthStart_36 rfl (lv_at hl 0 rfl) ?_
    refine j_iadd hx hb dX1_monthStart_37 ?_
    rw [hQf]
    exact j_ireti hx hb hr hlocks hG ⟨(by unfold pf_X1_monthStart; rw [if_pos c2]), rfl⟩ (by decide) dX1_monthStart_38
  · have h := h.2 c2
    refine lv_iload_n hx hb dX1_monthStart_6 rfl (lv_at hl 1 rfl) ?_
    refine lv_iconst (v := J 2) hx hb dX1_monthStart_7 (by decide) ?_
    obtain ⟨g7, h⟩ := h
    refine j_icmp_le (tgt := 15) hx hb dX1_monthStart_8 (by decide) g7 (by decide) (fun c6 => ?_) (fun c6 => ?_)
    · have h := h.1 c6
      refine lv_iconst (v := J 0) hx hb dX1_monthStart_15 (by decide) ?_
      refine lv_istore_n (lv' := [(2, .int (J 0)), (0, .int (J a0)), (1, .int (J a1))]) hx hb dX1_monthStart_16 rfl hl (by decide) rfl (fun ls hl => ?_)
      refine lv_sipush (v := J 365) hx hb dX1_monthStart_17 (by decide) ?_
      refine lv_iload_n hx hb dX1_monthStart_20 rfl (lv_at hl 1 rfl) ?_
      refine j_imul hx hb dX1_monthStart_21 ?_
      refine lv_iload_n hx hb dX1_monthStart_22 rfl (lv_at hl 1 rfl) ?_
      refine lv_iconst (v := J 3) hx hb dX1_monthStart_23 (by decide) ?_
      refine j_iadd hx hb dX1_monthStart_24 ?_
      refine lv_iconst (v := J 4) hx hb dX1_monthStart_25 (by decide) ?_
      obtain ⟨g8, h⟩ := h
      refine j_idiv hx hb dX1_monthStart_26 g8 (by decide) ?_
      refine j_iadd hx hb dX1_monthStart_27 ?_
      refine va_gets hx hb hZ1 hG.2 hown w_fl_RX1_7 (fun _ h9 => h9) dX1_monthStart_28 ?_
      refine lv_iload_n hx hb dX1_monthStart_31 rfl (lv_at hl 2 rfl) ?_
      refine lv_iconst (v := J 1) hx hb dX1_monthStart_32 (by decide) ?_
      refine j_isub hx hb dX1_monthStart_33 ?_
      obtain ⟨g9, h⟩ := h
      refine j_ti hx hb hT1 hG.2 g9 (by decide) dX1_monthStart_34 ?_
      refine j_iadd hx hb dX1_monthStart_35 ?_
      refine lv_iload_n hx hb dX1_monthStart_36 rfl (lv_at hl 0 rfl) ?_
      refine j_iadd hx hb dX1_monthStart_37 ?_
      rw [hQf]
      exact j_ireti hx hb hr hlocks hG ⟨(by unfold pf_X1_monthStart; rw [if_neg (show ¬ (a0 % 4 ≠ 0) from by omega), if_pos c6]), rfl⟩ (by decide) dX1_monthStart_38
    · have h := h.2 c6
      refine lv_iconst (v := J 1) hx hb dX1_monthStart_11 (by decide) ?_
      refine lv_goto (tgt := 16) hx hb dX1_monthStart_12 (by decide) ?_
      refine lv_istore_n (lv' := [(2, .int (J 1)), (0, .int (J a0)), (1, .int (J a1))]) hx hb dX1_monthStart_16 rfl hl (by decide) rfl (fun ls hl => ?_)
      refine lv_sipush (v := J 365) hx hb dX1_monthStart_17 (by decide) ?_
      refine lv_iload_n hx hb dX1_monthStart_20 rfl (lv_at hl 1 rfl) ?_
      refine j_imul hx hb dX1_monthStart_21 ?_
      refine lv_iload_n hx hb dX1_monthStart_22 rfl (lv_at hl 1 rfl) ?_
      refine lv_iconst (v := J 3) hx hb dX1_monthStart_23 (by decide) ?_
      refine j_iadd hx hb dX1_monthStart_24 ?_
      refine lv_iconst (v := J 4) hx hb dX1_monthStart_25 (by decide) ?_
      obtain ⟨g10, h⟩ := h
      refine j_idiv hx hb dX1_monthStart_26 g10 (by decide) ?_
      refine j_iadd hx hb dX1_monthStart_27 ?_
      refine va_gets hx hb hZ1 hG.2 hown w_fl_RX1_7 (fun _ h9 => h9) dX1_monthStart_28 ?_
      refine lv_iload_n hx hb dX1_monthStart_31 rfl (lv_at hl 2 rfl) ?_
      refine lv_iconst (v := J 1) hx hb dX1_monthStart_32 (by decide) ?_
      refine j_isub hx hb dX1_monthStart_33 ?_
      obtain ⟨g11, h⟩ := h
      refine j_ti hx hb hT1 hG.2 g11 (by decide) dX1_monthStart_34 ?_
      refine j_iadd hx hb dX1_monthStart_35 ?_
      refine lv_iload_n hx hb dX1_monthStart_36 rfl (lv_at hl 0 rfl) ?_
      refine j_iadd hx hb dX1_monthStart_37 ?_
      rw [hQf]
      exact j_ireti hx hb hr hlocks hG ⟨(by unfold pf_X1_monthStart; rw [if_neg (show ¬ (a0 % 4 ≠ 0) from by omega), if_neg (show ¬ (a1 ≤ 2) from by omega)]), rfl⟩ (by decide) dX1_monthStart_38

abbrev rom_X10_day : Room := { frames := 1, cells := 0, slots := 0, locals := 22 }
set_option maxRecDepth 100000 in
set_option maxHeartbeats 4000000 in
theorem Ao_X10_day (l : Launch) {D : va_G} {cy : Nat → ClassId} {o : Nat} {sK sV : Nat → Nat} {M : jT} {a0 : Int} {a1 : Int} {a2 : Int} {a3 : Int} (ka0 : kd a0 = 10) {Q : Int → Prop} (h : wo_X10_day M a0 a1 a2 a3 Q) : CoI l yX10_day (wj yX10_day cX10_day 4 (some .int)) rom_X10_day D cy o sK sV M [.ref (rA o a0), .int (J a1), .int (J a2), .int (J a3)] (fun z M9 => Q z ∧ M9 = M) := by
  refine j_ofW (cc := cX10_day) (maxL := 4) (ret := (some .int)) (by decide) rfl (Nat.le_of_ble_eq_true rfl) ?_
  intro p e s m args below meth c hx hb hr hlocks hml hown hts hK hSX H locs hG ls hl Qf hQf
  have hown : s.vm.findClass RX10 = some m.cls := hown
  have hl : lv_has ls 4 [(0, .ref (rA o a0)), (1, .int (J a1)), (2, .int (J a2)), (3, .int (J a3))] := hl
  unfold wo_X10_day at h
  refine lv_iload_n hx hb dX10_day_0 rfl (lv_at hl 1 rfl) ?_
  obtain ⟨g1, h⟩ := h
  refine j_conti (va_runS (As := [.int (J a1)]) (rest := []) ⟨hx, hb, hml, hown, hts⟩ (A_X10_isYear l g1) (va_cwS 1 hts (gj_S ml_RX10_65 i_X10_isYear n_RX10 k_X10_isYear) rfl rfl rfl (by decide +kernel) ⟨by exact Nat.le_of_ble_eq_true rfl, by exact Nat.le_of_ble_eq_true rfl⟩) (j_preS hK hSX hG) rfl rfl hl.1 rfl (lv_room (Nat.le_of_ble_eq_true rfl)) dX10_day_1 ⟨by exact Nat.le_of_ble_eq_true rfl, by exact Nat.le_of_ble_eq_true rfl⟩) hG (c2 := 0) (s2 := 0) ⟨by exact Nat.le_of_ble_eq_true rfl, by exact Nat.le_of_ble_eq_true rfl⟩ (fun z2 M3 ez2 H locs hG => ?_)
  obtain ⟨ez2, eM3⟩ := ez2
  subst ez2
  rw [eM3] at hG
  obtain ⟨K16, hK16, h⟩ := h
  have jK16 : ∀ (x15 : Int), K16 x15 → ∀ (H : Heap) (locs : List Loc), GM D cy o M s.heap H locs → ∀ ls : Array Slot, lv_has ls 4 [(1, .int (J a1)), (2, .int (J a2)), (3, .int (J a3))] → W p l e rom_X10_day s m args below meth c H locs 0 0 Qf (F0 m 19 ls [.int (J x15)]) := by
    intro x15 hcK16 H locs hG ls hl
    have h := hK16 x15 hcK16
    refine j_contv (va_runS (As := [.int (J x15)]) (rest := []) ⟨hx, hb, hml, hown, hts⟩ (Ao_X10_needArgument l h) (va_cwS 1 hts (gj_S ml_RX10_72 i_X10_needArgument n_RX10 k_X10_needArgument) rfl rfl rfl (by decide +kernel) ⟨by exact Nat.le_of_ble_eq_true rfl, by exact Nat.le_of_ble_eq_true rfl⟩) (j_preS hK hSX hG) rfl rfl hl.1 rfl (lv_room (Nat.le_of_ble_eq_true rfl)) dX10_day_19 ⟨by exact Nat.le_of_ble_eq_true rfl, by exact Nat.le_of_ble_eq_true rfl⟩) hG (c2 := 0) (s2 := 0) ⟨by exact Nat.le_of_ble_eq_true rfl, by exact Nat.le_of_ble_eq_true rfl⟩ (fun M18 h H locs hG => ?_)
    obtain ⟨h, eM18⟩ := h
    rw [eM18] at hG
    refine lv_iload_n hx hb dX10_day_22 rfl (lv_at hl 2 rfl) ?_
    refine lv_iconst (v := J 1) hx hb dX10_day_23 (by decide) ?_
    obtain ⟨K35, hK35, h⟩ := h
    have jK35 : ∀ (x34 : Int), K35 x34 → ∀ (H : Heap) (locs : List Loc), GM D cy o M s.heap H locs → ∀ ls : Array Slot, lv_has ls 4 [(1, .int (J a1)), (2, .int (J a2)), (3, .int (J a3))] → W p l e rom_X10_day s m args below meth c H locs 0 0 Qf (F0 m 41 ls [.int (J x34)]) := by
      intro x34 hcK35 H locs hG ls hl
      have h := hK35 x34 hcK35
      refine j_contv (va_runS (As := [.int (J x34)]) (rest := []) ⟨hx, hb, hml, hown, hts⟩ (Ao_X10_needArgument l h) (va_cwS 1 hts (gj_S ml_RX10_72 i_X10_needArgument n_RX10 k_X10_needArgument) rfl rfl rfl (by decide +kernel) ⟨by exact Nat.le_of_ble_eq_true rfl, by exact Nat.le_of_ble_eq_true rfl⟩) (j_preS hK hSX hG) rfl rfl hl.1 rfl (lv_room (Nat.le_of_ble_eq_true rfl)) dX10_day_41 ⟨by exact Nat.le_of_ble_eq_true rfl, by exact Nat.le_of_ble_eq_true rfl⟩) hG (c2 := 0) (s2 := 0) ⟨by exact Nat.le_of_ble_eq_true rfl, by exact Nat.le_of_ble_eq_true rfl⟩ (fun M37 h H locs hG => ?_)
      obtain ⟨h, eM37⟩ := h
      rw [eM37] at hG
      refine lv_iload_n hx hb dX10_day_44 rfl (lv_at hl 0 rfl) ?_
      refine lv_iload_n hx hb dX10_day_45 rfl (lv_at hl 1 rfl) ?_
      obtain ⟨g38, h⟩ := h
      refine j_conti (va_runS (As := [.int (J a1), .int (J a2)]) (rest := []) ⟨hx, hb, hml, hown, hts⟩ (A_X1_monthStart l g38) (va_cwS 2 hts (gj_S ml_RX10_82 i_X1_monthStart n_RX1 k_X1_monthStart) rfl rfl rfl (by decide +kernel) ⟨by exact Nat.le_of_ble_eq_true rfl, by exact Nat.le_of_ble_eq_true rfl⟩) (j_preS hK hSX hG) rfl rfl hl.1 rfl (lv_room (Nat.le_of_ble_eq_true rfl)) dX10_day_46 ⟨by exact Nat.le_of_ble_eq_true rfl, by exact Nat.le_of_ble_eq_true rfl⟩) hG (c2 := 0) (s2 := 0) ⟨by exact Nat.le_of_ble_eq_true rfl, by exact Nat.le_of_ble_eq_true rfl⟩ (fun z39 M40 ez39 H locs hG => ?_)
      obtain ⟨ez39, eM40⟩ := ez39
      subst ez39
      rw [eM40] at hG
      refine lv_iload_n hx hb dX10_day_49 rfl (lv_at hl 2 rfl) ?_
      refine j_iadd hx hb dX10_day_50 ?_
      refine lv_iconst (v := J 1) hx hb dX10_day_51 (by decide) ?_
      refine j_isub hx hb dX10_day_52 ?_
      rw [hQf]
      exact j_ireti hx hb hr hlocks hG ⟨h, rfl⟩ (by decide) dX10_day_53
    obtain ⟨K48, hK48, h⟩ := h
    have jK48 : K48 → ∀ (H : Heap) (locs : List Loc), GM D cy o M s.heap H locs → ∀ ls : Array Slot, lv_has ls 4 [(1, .int (J a1)), (2, .int (J a2)), (3, .int (J a3))] → W p l e rom_X10_day s m args below meth c H locs 0 0 Qf (F0 m 40 ls []) := by
      intro hcK48 H locs hG ls hl
      have h := hK48 hcK48
      refine lv_iconst (v := J 0) hx hb dX10_day_40 (by decide) ?_
      exact jK35 0 h H locs hG ls (lv_sub hl [0, 1, 2] rfl)
    obtain ⟨g50, h⟩ := h
    refine j_icmp_lt (tgt := 40) hx hb dX10_day_24 (by decide) g50 (by decide) (fun c49 => ?_) (fun c49 => ?_)
    · have h := h.1 c49
      exact jK48 h H locs hG ls (lv_sub hl [0, 1, 2] rfl)
    · have h := h.2 c49
      refine lv_iload_n hx hb dX10_day_27 rfl (lv_at hl 2 rfl) ?_
      refine lv_iload_n hx hb dX10_day_28 rfl (lv_at hl 0 rfl) ?_
      refine lv_iload_n hx hb dX10_day_29 rfl (lv_at hl 1 rfl) ?_
      obtain ⟨g51, h⟩ := h
      refine j_conti (va_runS (As := [.int (J a1), .int (J a2)]) (rest := [.int (J a3)]) ⟨hx, hb, hml, hown, hts⟩ (A_X1_monthLength l g51) (va_cwS 2 hts (gj_S ml_RX10_76 i_X1_monthLength n_RX1 k_X1_monthLength) rfl rfl rfl (by decide +kernel) ⟨by exact Nat.le_of_ble_eq_true rfl, by exact Nat.le_of_ble_eq_true rfl⟩) (j_preS hK hSX hG) rfl rfl hl.1 rfl (lv_room (Nat.le_of_ble_eq_true rfl)) dX10_day_30 ⟨by exact Nat.le_of_ble_eq_true rfl, by exact Nat.le_of_ble_eq_true rfl⟩) hG (c2 := 0) (s2 := 0) ⟨by exact Nat.le_of_ble_eq_true rfl, by exact Nat.le_of_ble_eq_true rfl⟩ (fun z52 M53 ez52 H locs hG => ?_)
      obtain ⟨ez52, eM53⟩ := ez52
      subst ez52
      rw [eM53] at hG
      obtain ⟨g55, h⟩ := h
      refine j_icmp_gt (tgt := 40) hx hb dX10_day_33 (by decide) g50 g55 (fun c54 => ?_) (fun c54 => ?_)
      · have h := h.1 c54
        exact jK48 h H locs hG ls (lv_sub hl [0, 1, 2] rfl)
      · have h := h.2 c54
        refine lv_iconst (v := J 1) hx hb dX10_day_36 (by decide) ?_
        refine lv_goto (tgt := 41) hx hb dX10_day_37 (by decide) ?_
        exact jK35 1 h H locs hG ls (lv_sub hl [0, 1, 2] rfl)
  obtain ⟨K61, hK61, h⟩ := h
  have jK61 : K61 → ∀ (H : Heap) (locs : List Loc), GM D cy o M s.heap H locs → ∀ ls : Array Slot, lv_has ls 4 [(1, .int (J a1)), (2, .int (J a2)), (3, .int (J a3))] → W p l e rom_X10_day s m args below meth c H locs 0 0 Qf (F0 m 18 ls []) := by
    intro hcK61 H locs hG ls hl
    have h := hK61 hcK61
    refine lv_iconst (v := J 0) hx hb dX10_day_18 (by decide) ?_
    exact jK16 0 h H locs hG ls (lv_sub hl [0, 1, 2] rfl)
  refine j_if_eq_b (tgt := 18) hx hb dX10_day_4 (by decide) (fun c62 => ?_) (fun c62 => ?_)
  · have h := h.1 c62
    exact jK61 h H locs hG ls (lv_sub hl [1, 2, 3] rfl)
  · have h := h.2 c62
    refine lv_iload_n hx hb dX10_day_7 rfl (lv_at hl 2 rfl) ?_
    obtain ⟨g63, h⟩ := h
    refine j_conti (va_runS (As := [.int (J a2)]) (rest := []) ⟨hx, hb, hml, hown, hts⟩ (A_X10_isMonth l g63) (va_cwS 1 hts (gj_S ml_RX10_69 i_X10_isMonth n_RX10 k_X10_isMonth) rfl rfl rfl (by decide +kernel) ⟨by exact Nat.le_of_ble_eq_true rfl, by exact Nat.le_of_ble_eq_true rfl⟩) (j_preS hK hSX hG) rfl rfl hl.1 rfl (lv_room (Nat.le_of_ble_eq_true rfl)) dX10_day_8 ⟨by exact Nat.le_of_ble_eq_true rfl, by exact Nat.le_of_ble_eq_true rfl⟩) hG (c2 := 0) (s2 := 0) ⟨by exact Nat.le_of_ble_eq_true rfl, by exact Nat.le_of_ble_eq_true rfl⟩ (fun z64 M65 ez64 H locs hG => ?_)
    obtain ⟨ez64, eM65⟩ := ez64
    subst ez64
    rw [eM65] at hG
    refine j_if_eq_b (tgt := 18) hx hb dX10_day_11 (by decide) (fun c66 => ?_) (fun c66 => ?_)
    · have h := h.1 c66
      exact jK61 h H locs hG ls (lv_sub hl [1, 2, 3] rfl)
    · have h := h.2 c66
      refine lv_iconst (v := J 1) hx hb dX10_day_14 (by decide) ?_
      refine lv_goto (tgt := 19) hx hb dX10_day_15 (by decide) ?_
      exact jK16 1 h H locs hG ls (lv_sub hl [1, 2, 3] rfl)
abbrev rm_X10_day : Room := { frames := 7, cells := 1, slots := 6, locals := 110 }
set_option maxRecDepth 100000 in
set_option maxHeartbeats 4000000 in
theorem A_X10_day (l : Launch) (hst : l.stackTraces = false) {D : va_G} {cy : Nat → ClassId} {o : Nat} {sK sV : Nat → Nat} {M : jT} {a0 : Int} {a1 : Int} {a2 : Int} {a3 : Int} (ka0 : kd a0 = 10) {Q : Int → jT → Prop} {X : Nat → jT → Prop} (h : wp_X10_day M a0 a1 a2 a3 Q X) : CxI l yX10_day (wj yX10_day cX10_day 4 (some .int)) rm_X10_day D cy o sK sV M [.ref (rA o a0), .int (J a1), .int (J a2), .int (J a3)] Q X := by
  refine j_ofWx (cc := cX10_day) (maxL := 4) (ret := (some .int)) (by decide) rfl (Nat.le_of_ble_eq_true rfl) ?_
  intro p e s m args below meth c hx hb hr hlocks hout hml hown hts hK hSX H locs hsz hG ls hl Qf hQf
  have hown : s.vm.findClass RX10 = some m.cls := hown
  have hl : lv_has ls 4 [(0, .ref (rA o a0)), (1, .int (J a1)), (2, .int (J a2)), (3, .int (J a3))] := hl
  unfold wp_X10_day at h
  refine lv_iload_n hx hb dX10_day_0 rfl (lv_at hl 1 rfl) ?_
  obtain ⟨g1, h⟩ := h
  refine j_conti (va_runS (As := [.int (J a1)]) (rest := []) ⟨hx, hb, hml, hown, hts⟩ (A_X10_isYear l g1) (va_cwS 1 hts (gj_S ml_RX10_65 i_X10_isYear n_RX10 k_X10_isYear) rfl rfl rfl (by decide +kernel) ⟨by exact Nat.le_of_ble_eq_true rfl, by exact Nat.le_of_ble_eq_true rfl⟩) (j_preS hK hSX hG) rfl rfl hl.1 rfl (lv_room (Nat.le_of_ble_eq_true rfl)) dX10_day_1 ⟨by exact Nat.le_of_ble_eq_true rfl, by exact Nat.le_of_ble_eq_true rfl⟩) hG (c2 := 0) (s2 := 0) ⟨by exact Nat.le_of_ble_eq_true rfl, by exact Nat.le_of_ble_eq_true rfl⟩ (fun z2 M3 ez2 H locs hG => ?_)
  obtain ⟨ez2, eM3⟩ := ez2
  subst ez2
  rw [eM3] at hG
  obtain ⟨K16, hK16, h⟩ := h
  have jK16 : ∀ (x15 : Int), K16 x15 → ∀ (H : Heap) (locs : List Loc), GM D cy o M s.heap H locs → ∀ ls : Array Slot, lv_has ls 4 [(1, .int (J a1)), (2, .int (J a2)), (3, .int (J a3))] → W p l e rm_X10_day s m args below meth c H locs 0 0 Qf (F0 m 19 ls [.int (J x15)]) := by
    intro x15 hcK16 H locs hG ls hl
    have h := hK16 x15 hcK16
    rcases h with h | h
    · refine j_contv (va_runS (As := [.int (J x15)]) (rest := []) ⟨hx, hb, hml, hown, hts⟩ (Ao_X10_needArgument l h) (va_cwS 1 hts (gj_S ml_RX10_72 i_X10_needArgument n_RX10 k_X10_needArgument) rfl rfl rfl (by decide +kernel) ⟨by exact Nat.le_of_ble_eq_true rfl, by exact Nat.le_of_ble_eq_true rfl⟩) (j_preS hK hSX hG) rfl rfl hl.1 rfl (lv_room (Nat.le_of_ble_eq_true rfl)) dX10_day_19 ⟨by exact Nat.le_of_ble_eq_true rfl, by exact Nat.le_of_ble_eq_true rfl⟩) hG (c2 := 0) (s2 := 0) ⟨by exact Nat.le_of_ble_eq_true rfl, by exact Nat.le_of_ble_eq_true rfl⟩ (fun M18 h H locs hG => ?_)
      obtain ⟨h, eM18⟩ := h
      rw [eM18] at hG
      refine lv_iload_n hx hb dX10_day_22 rfl (lv_at hl 2 rfl) ?_
      refine lv_iconst (v := J 1) hx hb dX10_day_23 (by decide) ?_
      obtain ⟨K35, hK35, h⟩ := h
      have jK35 : ∀ (x34 : Int), K35 x34 → ∀ (H : Heap) (locs : List Loc), GM D cy o M s.heap H locs → ∀ ls : Array Slot, lv_has ls 4 [(1, .int (J a1)), (2, .int (J a2)), (3, .int (J a3))] → W p l e rm_X10_day s m args below meth c H locs 0 0 Qf (F0 m 41 ls [.int (J x34)]) := by
        intro x34 hcK35 H locs hG ls hl
        have h := hK35 x34 hcK35
        rcases h with h | h
        · refine j_contv (va_runS (As := [.int (J x34)]) (rest := []) ⟨hx, hb, hml, hown, hts⟩ (Ao_X10_needArgument l h) (va_cwS 1 hts (gj_S ml_RX10_72 i_X10_needArgument n_RX10 k_X10_needArgument) rfl rfl rfl (by decide +kernel) ⟨by exact Nat.le_of_ble_eq_true rfl, by exact Nat.le_of_ble_eq_true rfl⟩) (j_preS hK hSX hG) rfl rfl hl.1 rfl (lv_room (Nat.le_of_ble_eq_true rfl)) dX10_day_41 ⟨by exact Nat.le_of_ble_eq_true rfl, by exact Nat.le_of_ble_eq_true rfl⟩) hG (c2 := 0) (s2 := 0) ⟨by exact Nat.le_of_ble_eq_true rfl, by exact Nat.le_of_ble_eq_true rfl⟩ (fun M37 h H locs hG => ?_)
          obtain ⟨h, eM37⟩ := h
          rw [eM37] at hG
          refine lv_iload_n hx hb dX10_day_44 rfl (lv_at hl 0 rfl) ?_
          refine lv_iload_n hx hb dX10_day_45 rfl (lv_at hl 1 rfl) ?_
          obtain ⟨g38, h⟩ := h
          refine j_conti (va_runS (As := [.int (J a1), .int (J a2)]) (rest := []) ⟨hx, hb, hml, hown, hts⟩ (A_X1_monthStart l g38) (va_cwS 2 hts (gj_S ml_RX10_82 i_X1_monthStart n_RX1 k_X1_monthStart) rfl rfl rfl (by decide +kernel) ⟨by exact Nat.le_of_ble_eq_true rfl, by exact Nat.le_of_ble_eq_true rfl⟩) (j_preS hK hSX hG) rfl rfl hl.1 rfl (lv_room (Nat.le_of_ble_eq_true rfl)) dX10_day_46 ⟨by exact Nat.le_of_ble_eq_true rfl, by exact Nat.le_of_ble_eq_true rfl⟩) hG (c2 := 0) (s2 := 0) ⟨by exact Nat.le_of_ble_eq_true rfl, by exact Nat.le_of_ble_eq_true rfl⟩ (fun z39 M40 ez39 H locs hG => ?_)
          obtain ⟨ez39, eM40⟩ := ez39
          subst ez39
          rw [eM40] at hG
          refine lv_iload_n hx hb dX10_day_49 rfl (lv_at hl 2 rfl) ?_
          refine j_iadd hx hb dX10_day_50 ?_
          refine lv_iconst (v := J 1) hx hb dX10_day_51 (by decide) ?_
          refine j_isub hx hb dX10_day_52 ?_
          rw [hQf]
          exact vx_ret (j_ireti hx hb hr hlocks hG h (by decide) dX10_day_53)
        · refine j_contxv (vx_runS (As := [.int (J x34)]) (rest := []) ⟨hx, hb, hml, hown, hts⟩ (A_X10_needArgument l hst h) (va_cwS 1 hts (gj_S ml_RX10_72 i_X10_needArgument n_RX10 k_X10_needArgument) rfl rfl rfl (by decide +kernel) ⟨by exact Nat.le_of_ble_eq_true rfl, by exact Nat.le_of_ble_eq_true rfl⟩) (j_preS hK hSX hG) rfl rfl hl.1 rfl (lv_room (Nat.le_of_ble_eq_true rfl)) dX10_day_41 ⟨by exact Nat.le_of_ble_eq_true rfl, by exact Nat.le_of_ble_eq_true rfl⟩) hG (c2 := 1) (s2 := 6) ⟨by exact Nat.le_of_ble_eq_true rfl, by exact Nat.le_of_ble_eq_true rfl⟩ (fun x M h ce q H locs hG h1 h2 h3 => ?_) (fun M h H locs hG => h.elim)
          rw [hQf]
          exact j_xout hlocks hout hG h h1 h2 h3 (by decide)
      obtain ⟨K48, hK48, h⟩ := h
      have jK48 : K48 → ∀ (H : Heap) (locs : List Loc), GM D cy o M s.heap H locs → ∀ ls : Array Slot, lv_has ls 4 [(1, .int (J a1)), (2, .int (J a2)), (3, .int (J a3))] → W p l e rm_X10_day s m args below meth c H locs 0 0 Qf (F0 m 40 ls []) := by
        intro hcK48 H locs hG ls hl
        have h := hK48 hcK48
        refine lv_iconst (v := J 0) hx hb dX10_day_40 (by decide) ?_
        exact jK35 0 h H locs hG ls (lv_sub hl [0, 1, 2] rfl)
      obtain ⟨g50, h⟩ := h
      refine j_icmp_lt (tgt := 40) hx hb dX10_day_24 (by decide) g50 (by decide) (fun c49 => ?_) (fun c49 => ?_)
      · have h := h.1 c49
        exact jK48 h H locs hG ls (lv_sub hl [0, 1, 2] rfl)
      · have h := h.2 c49
        refine lv_iload_n hx hb dX10_day_27 rfl (lv_at hl 2 rfl) ?_
        refine lv_iload_n hx hb dX10_day_28 rfl (lv_at hl 0 rfl) ?_
        refine lv_iload_n hx hb dX10_day_29 rfl (lv_at hl 1 rfl) ?_
        obtain ⟨g51, h⟩ := h
        refine j_conti (va_runS (As := [.int (J a1), .int (J a2)]) (rest := [.int (J a3)]) ⟨hx, hb, hml, hown, hts⟩ (A_X1_monthLength l g51) (va_cwS 2 hts (gj_S ml_RX10_76 i_X1_monthLength n_RX1 k_X1_monthLength) rfl rfl rfl (by decide +kernel) ⟨by exact Nat.le_of_ble_eq_true rfl, by exact Nat.le_of_ble_eq_true rfl⟩) (j_preS hK hSX hG) rfl rfl hl.1 rfl (lv_room (Nat.le_of_ble_eq_true rfl)) dX10_day_30 ⟨by exact Nat.le_of_ble_eq_true rfl, by exact Nat.le_of_ble_eq_true rfl⟩) hG (c2 := 0) (s2 := 0) ⟨by exact Nat.le_of_ble_eq_true rfl, by exact Nat.le_of_ble_eq_true rfl⟩ (fun z52 M53 ez52 H locs hG => ?_)
        obtain ⟨ez52, eM53⟩ := ez52
        subst ez52
        rw [eM53] at hG
        obtain ⟨g55, h⟩ := h
        refine j_icmp_gt (tgt := 40) hx hb dX10_day_33 (by decide) g50 g55 (fun c54 => ?_) (fun c54 => ?_)
        · have h := h.1 c54
          exact jK48 h H locs hG ls (lv_sub hl [0, 1, 2] rfl)
        · have h := h.2 c54
          refine lv_iconst (v := J 1) hx hb dX10_day_36 (by decide) ?_
          refine lv_goto (tgt := 41) hx hb dX10_day_37 (by decide) ?_
          exact jK35 1 h H locs hG ls (lv_sub hl [0, 1, 2] rfl)
    · refine j_contxv (vx_runS (As := [.int (J x15)]) (rest := []) ⟨hx, hb, hml, hown, hts⟩ (A_X10_needArgument l hst h) (va_cwS 1 hts (gj_S ml_RX10_72 i_X10_needArgument n_RX10 k_X10_needArgument) rfl rfl rfl (by decide +kernel) ⟨by exact Nat.le_of_ble_eq_true rfl, by exact Nat.le_of_ble_eq_true rfl⟩) (j_preS hK hSX hG) rfl rfl hl.1 rfl (lv_room (Nat.le_of_ble_eq_true rfl)) dX10_day_19 ⟨by exact Nat.le_of_ble_eq_true rfl, by exact Nat.le_of_ble_eq_true rfl⟩) hG (c2 := 1) (s2 := 6) ⟨by exact Nat.le_of_ble_eq_true rfl, by exact Nat.le_of_ble_eq_true rfl⟩ (fun x M h ce q H locs hG h1 h2 h3 => ?_) (fun M h H locs hG => h.elim)
      rw [hQf]
      exact j_xout hlocks hout hG h h1 h2 h3 (by decide)
  obtain ⟨K61, hK61, h⟩ := h
  have jK61 : K61 → ∀ (H : Heap) (locs : List Loc), GM D cy o M s.heap H locs → ∀ ls : Array Slot, lv_has ls 4 [(1, .int (J a1)), (2, .int (J a2)), (3, .int (J a3))] → W p l e rm_X10_day s m args below meth c H locs 0 0 Qf (F0 m 18 ls []) := by
    intro hcK61 H locs hG ls hl
    have h := hK61 hcK61
    refine lv_iconst (v := J 0) hx hb dX10_day_18 (by decide) ?_
    exact jK16 0 h H locs hG ls (lv_sub hl [0, 1, 2] rfl)
  refine j_if_eq_b (tgt := 18) hx hb dX10_day_4 (by decide) (fun c62 => ?_) (fun c62 => ?_)
  · have h := h.1 c62
    exact jK61 h H locs hG ls (lv_sub hl [1, 2, 3] rfl)
  · have h := h.2 c62
    refine lv_iload_n hx hb dX10_day_7 rfl (lv_at hl 2 rfl) ?_
    obtain ⟨g63, h⟩ := h
    refine j_conti (va_runS (As := [.int (J a2)]) (rest := []) ⟨hx, hb, hml, hown, hts⟩ (A_X10_isMonth l g63) (va_cwS 1 hts (gj_S ml_RX10_69 i_X10_isMonth n_RX10 k_X10_isMonth) rfl rfl rfl (by decide +kernel) ⟨by exact Nat.le_of_ble_eq_true rfl, by exact Nat.le_of_ble_eq_true rfl⟩) (j_preS hK hSX hG) rfl rfl hl.1 rfl (lv_room (Nat.le_of_ble_eq_true rfl)) dX10_day_8 ⟨by exact Nat.le_of_ble_eq_true rfl, by exact Nat.le_of_ble_eq_true rfl⟩) hG (c2 := 0) (s2 := 0) ⟨by exact Nat.le_of_ble_eq_true rfl, by exact Nat.le_of_ble_eq_true rfl⟩ (fun z64 M65 ez64 H locs hG => ?_)
    obtain ⟨ez64, eM65⟩ := ez64
    subst ez64
    rw [eM65] at hG
    refine j_if_eq_b (tgt := 18) hx hb dX10_day_11 (by decide) (fun c66 => ?_) (fun c66 => ?_)
    · have h := h.1 c66
      exact jK61 h H locs hG ls (lv_sub hl [1, 2, 3] rfl)
    · have h := h.2 c66
      refine lv_iconst (v := J 1) hx hb dX10_day_14 (by decide) ?_
      refine lv_goto (tgt := 19) hx hb dX10_day_15 (by decide) ?_
      exact jK16 1 h H locs hG ls (lv_sub hl [1, 2, 3] rfl)

abbrev rm_X10_isDay : Room := { frames := 0, cells := 0, slots := 0, locals := 0 }
set_option maxRecDepth 100000 in
set_option maxHeartbeats 4000000 in
theorem A_X10_isDay (l : Launch) {D : va_G} {cy : Nat → ClassId} {o : Nat} {sK sV : Nat → Nat} {M : jT} {a0 : Int} (h : pg_X10_isDay a0) : CoI l yX10_isDay (wj yX10_isDay cX10_isDay 1 (some .boolean)) rm_X10_isDay D cy o sK sV M [.int (J a0)] (fun z M9 => z = b2i (pb_X10_isDay a0) ∧ M9 = M) := by
  refine j_ofW (cc := cX10_isDay) (maxL := 1) (ret := (some .boolean)) (by decide) rfl (Nat.le_of_ble_eq_true rfl) ?_
  intro p e s m args below meth c hx hb hr hlocks hml hown hts hK hSX H locs hG ls hl Qf hQf
  have hown : s.vm.findClass RX10 = some m.cls := hown
  have hl : lv_has ls 1 [(0, .int (J a0))] := hl
  unfold pg_X10_isDay at h
  refine lv_iload_n hx hb dX10_isDay_0 rfl (lv_at hl 0 rfl) ?_
  obtain ⟨g2, h⟩ := h
  refine j_if_lt (tgt := 15) hx hb dX10_isDay_1 (by decide) g2 (fun c1 => ?_) (fun c1 => ?_)
  · have h := h.1 c1
    refine lv_iconst (v := J 0) hx hb dX10_isDay_15 (by decide) ?_
    rw [hQf]
    exact j_iretn hx hb hr hlocks (nar_b (by decide)) hG ⟨(b2i_iff0 (iff_of_false (fun q8 => (show ¬ (0 ≤ a0) from by omega) q8.1) id)), rfl⟩ (by decide) dX10_isDay_16
  · have h := h.2 c1
    refine lv_iload_n hx hb dX10_isDay_4 rfl (lv_at hl 0 rfl) ?_
    refine lv_sipush (v := J 11687) hx hb dX10_isDay_5 (by decide) ?_
    refine j_icmp_gt (tgt := 15) hx hb dX10_isDay_8 (by decide) g2 (by decide) (fun c3 => ?_) (fun c3 => ?_)
    · have h := h.1 c3
      refine lv_iconst (v := J 0) hx hb dX10_isDay_15 (by decide) ?_
      rw [hQf]
      exact j_iretn hx hb hr hlocks (nar_b (by decide)) hG ⟨(b2i_iff0 ((and_iff_right c1).trans (iff_of_false (show ¬ (a0 ≤ 11687) from by omega) id))), rfl⟩ (by decide) dX10_isDay_16
    · have h := h.2 c3
      refine lv_iconst (v := J 1) hx hb dX10_isDay_11 (by decide) ?_
      refine lv_goto (tgt := 16) hx hb dX10_isDay_12 (by decide) ?_
      rw [hQf]
      exact j_iretn hx hb hr hlocks (nar_b (by decide)) hG ⟨(b2i_iff1 ((and_iff_right c1).trans (iff_of_true c3 trivial))), rfl⟩ (by decide) dX10_isDay_16

abbrev rom_X10_needIndex : Room := { frames := 0, cells := 0, slots := 0, locals := 0 }
set_option maxRecDepth 100000 in
set_option maxHeartbeats 4000000 in
theorem Ao_X10_needIndex (l : Launch) {D : va_G} {cy : Nat → ClassId} {o : Nat} {sK sV : Nat → Nat} {M : jT} {a0 : Int} {Q : Prop} (h : wo_X10_needIndex M a0 Q) : CoV l yX10_needIndex (wj yX10_needIndex cX10_needIndex 1 none) rom_X10_needIndex D cy o sK sV M [.int (J a0)] (fun M9 => Q ∧ M9 = M) := by
  refine j_ofW (cc := cX10_needIndex) (maxL := 1) (ret := none) (by decide) rfl (Nat.le_of_ble_eq_true rfl) ?_
  intro p e s m args below meth c hx hb hr hlocks hml hown hts hK hSX H locs hG ls hl Qf hQf
  have hown : s.vm.findClass RX10 = some m.cls := hown
  have hl : lv_has ls 1 [(0, .int (J a0))] := hl
  unfold wo_X10_needIndex at h
  refine lv_iload_n hx hb dX10_needIndex_0 rfl (lv_at hl 0 rfl) ?_
  obtain ⟨g2, h⟩ := h
  refine j_if_ne (tgt := 15) hx hb dX10_needIndex_1 (by decide) g2 (fun c1 => ?_) (fun c1 => ?_)
  · have h := h.1 c1
    rw [hQf]
    exact j_vret hx hb hr hlocks hG ⟨h, rfl⟩ (by decide) dX10_needIndex_15
  · have h := h.2 c1
    exact h.elim
abbrev rm_X10_needIndex : Room := { frames := 6, cells := 1, slots := 6, locals := 90 }
set_option maxRecDepth 100000 in
set_option maxHeartbeats 4000000 in
theorem A_X10_needIndex (l : Launch) (hst : l.stackTraces = false) {D : va_G} {cy : Nat → ClassId} {o : Nat} {sK sV : Nat → Nat} {M : jT} {a0 : Int} {Q : jT → Prop} {X : Nat → jT → Prop} (h : wp_X10_needIndex M a0 Q X) : CxV l yX10_needIndex (wj yX10_needIndex cX10_needIndex 1 none) rm_X10_needIndex D cy o sK sV M [.int (J a0)] Q X := by
  refine j_ofWx (cc := cX10_needIndex) (maxL := 1) (ret := none) (by decide) rfl (Nat.le_of_ble_eq_true rfl) ?_
  intro p e s m args below meth c hx hb hr hlocks hout hml hown hts hK hSX H locs hsz hG ls hl Qf hQf
  have hown : s.vm.findClass RX10 = some m.cls := hown
  have hl : lv_has ls 1 [(0, .int (J a0))] := hl
  unfold wp_X10_needIndex at h
  refine lv_iload_n hx hb dX10_needIndex_0 rfl (lv_at hl 0 rfl) ?_
  obtain ⟨g2, h⟩ := h
  refine j_if_ne (tgt := 15) hx hb dX10_needIndex_1 (by decide) g2 (fun c1 => ?_) (fun c1 => ?_)
  · have h := h.1 c1
    rw [hQf]
    exact vx_ret (j_vret hx hb hr hlocks hG h (by decide) dX10_needIndex_15)
  · have h := h.2 c1
    rw [hQf]
    exact j_throw (xn := 1) (si := 2) hx hb hst hts hown hSX hG (hml.trans hl.1.symm) (by decide +kernel) (List.mem_cons_of_mem _ xl_RX10_454) (List.mem_cons_of_mem _ xi_1) rfl (fun w h => List.mem_cons_of_mem _ (xg_RX10_458 w h)) xb_RX10_458 xo_RX10_458 rfl dX10_needIndex_4 dX10_needIndex_7 dX10_needIndex_8 dX10_needIndex_11 dX10_needIndex_14 hout (by decide) (by exact Nat.le_of_ble_eq_true rfl) (by decide) (by decide) hlocks h (by decide)

abbrev rm_X1_yearOf : Room := { frames := 0, cells := 0, slots := 0, locals := 0 }
set_option maxRecDepth 100000 in
set_option maxHeartbeats 4000000 in
theorem A_X1_yearOf (l : Launch) {D : va_G} {cy : Nat → ClassId} {o : Nat} {sK sV : Nat → Nat} {M : jT} {a0 : Int} (h : pg_X1_yearOf a0) : CoI l yX1_yearOf (wj yX1_yearOf cX1_yearOf 2 (some .int)) rm_X1_yearOf D cy o sK sV M [.int (J a0)] (fun z M9 => z = pf_X1_yearOf a0 ∧ M9 = M) := by
  refine j_ofW (cc := cX1_yearOf) (maxL := 2) (ret := (some .int)) (by decide) rfl (Nat.le_of_ble_eq_true rfl) ?_
  intro p e s m args below meth c hx hb hr hlocks hml hown hts hK hSX H locs hG ls hl Qf hQf
  have hown : s.vm.findClass RX1 = some m.cls := hown
  have hl : lv_has ls 2 [(0, .int (J a0))] := hl
  unfold pg_X1_yearOf at h
  refine lv_iload_n hx hb dX1_yearOf_0 rfl (lv_at hl 0 rfl) ?_
  refine lv_sipush (v := J 1461) hx hb dX1_yearOf_1 (by decide) ?_
  obtain ⟨g1, h⟩ := h
  refine j_irem hx hb dX1_yearOf_4 g1 (by decide) ?_
  refine lv_istore_n (lv' := [(1, .int (J (a0 % 1461))), (0, .int (J a0))]) hx hb dX1_yearOf_5 rfl hl (by decide) rfl (fun ls hl => ?_)
  refine lv_iload_n hx hb dX1_yearOf_6 rfl (lv_at hl 1 rfl) ?_
  refine lv_sipush (v := J 1461) hx hb dX1_yearOf_7 (by decide) ?_
  refine j_idiv hx hb dX1_yearOf_10 g1 (by decide) ?_
  refine lv_iconst (v := J 4) hx hb dX1_yearOf_11 (by decide) ?_
  refine j_imul hx hb dX1_yearOf_12 ?_
  refine lv_iload_n hx hb dX1_yearOf_13 rfl (lv_at hl 0 rfl) ?_
  refine lv_sipush (v := J 366) hx hb dX1_yearOf_14 (by decide) ?_
  obtain ⟨g3, h⟩ := h
  refine j_icmp_ge (tgt := 24) hx hb dX1_yearOf_17 (by decide) g3 (by decide) (fun c2 => ?_) (fun c2 => ?_)
  · have h := h.1 c2
    refine lv_iload_n hx hb dX1_yearOf_24 rfl (lv_at hl 0 rfl) ?_
    refine lv_iconst (v := J 1) hx hb dX1_yearOf_25 (by decide) ?_
    refine j_isub hx hb dX1_yearOf_26 ?_
    refine lv_sipush (v := J 365) hx hb dX1_yearOf_27 (by decide) ?_
    obtain ⟨g4, h⟩ := h
    refine j_idiv hx hb dX1_yearOf_30 g4 (by decide) ?_
    refine j_iadd hx hb dX1_yearOf_31 ?_
    rw [hQf]
    exact j_ireti hx hb hr hlocks hG ⟨(by unfold pf_X1_yearOf; rw [if_pos c2]), rfl⟩ (by decide) dX1_yearOf_32
  · have h := h.2 c2
    refine lv_iconst (v := J 0) hx hb dX1_yearOf_20 (by decide) ?_
    refine lv_goto (tgt := 31) hx hb dX1_yearOf_21 (by decide) ?_
    refine j_iadd hx hb dX1_yearOf_31 ?_
    rw [hQf]
    exact j_ireti hx hb hr hlocks hG ⟨(by unfold pf_X1_yearOf; rw [if_neg (show ¬ (366 ≤ a0 % 1461) from by omega)]), rfl⟩ (by decide) dX1_yearOf_32

abbrev rm_X1_monthOf : Room := { frames := 0, cells := 0, slots := 0, locals := 0 }
set_option maxRecDepth 100000 in
set_option maxHeartbeats 4000000 in
theorem A_X1_monthOf (l : Launch) {D : va_G} {cy : Nat → ClassId} {o : Nat} {sK sV : Nat → Nat} {M : jT} {a0 : Int} {a1 : Int} {Q : Int → Prop} (h : wp_X1_monthOf M a0 a1 Q) : CoI l yX1_monthOf (wj yX1_monthOf cX1_monthOf 6 (some .int)) rm_X1_monthOf D cy o sK sV M [.int (J a0), .int (J a1)] (fun z M9 => Q z ∧ M9 = M) := by
  refine j_ofW (cc := cX1_monthOf) (maxL := 6) (ret := (some .int)) (by decide) rfl (Nat.le_of_ble_eq_true rfl) ?_
  intro p e s m args below meth c hx hb hr hlocks hml hown hts hK hSX H locs hG ls hl Qf hQf
  have hown : s.vm.findClass RX1 = some m.cls := hown
  have hl : lv_has ls 6 [(0, .int (J a0)), (1, .int (J a1))] := hl
  obtain ⟨tS, hZ1, hT1⟩ := hSX.1
  have w_fl_RX1_7 := hts _ (List.mem_cons_of_mem _ fl_RX1_7)
  unfold wp_X1_monthOf at h
  refine lv_iload_n hx hb dX1_monthOf_0 rfl (lv_at hl 1 rfl) ?_
  refine lv_sipush (v := J 365) hx hb dX1_monthOf_1 (by decide) ?_
  refine lv_iload_n hx hb dX1_monthOf_4 rfl (lv_at hl 0 rfl) ?_
  refine j_imul hx hb dX1_monthOf_5 ?_
  refine j_isub hx hb dX1_monthOf_6 ?_
  refine lv_iload_n hx hb dX1_monthOf_7 rfl (lv_at hl 0 rfl) ?_
  refine lv_iconst (v := J 3) hx hb dX1_monthOf_8 (by decide) ?_
  refine j_iadd hx hb dX1_monthOf_9 ?_
  refine lv_iconst (v := J 4) hx hb dX1_monthOf_10 (by decide) ?_
  obtain ⟨g1, h⟩ := h
  refine j_idiv hx hb dX1_monthOf_11 g1 (by decide) ?_
  refine j_isub hx hb dX1_monthOf_12 ?_
  refine j_topi (fun x2 ex2 => ?_)
  have h := h x2 ex2
  refine lv_istore_n (lv' := [(2, .int (J x2)), (0, .int (J a0)), (1, .int (J a1))]) hx hb dX1_monthOf_13 rfl hl (by decide) rfl (fun ls hl => ?_)
  refine lv_iconst (v := J 1) hx hb dX1_monthOf_14 (by decide) ?_
  refine lv_istore_n (lv' := [(3, .int (J 1)), (2, .int (J x2)), (0, .int (J a0)), (1, .int (J a1))]) hx hb dX1_monthOf_15 rfl hl (by decide) rfl (fun ls hl => ?_)
  refine lv_iconst (v := J 1) hx hb dX1_monthOf_16 (by decide) ?_
  refine lv_istore (lv' := [(4, .int (J 1)), (3, .int (J 1)), (2, .int (J x2)), (0, .int (J a0)), (1, .int (J a1))]) hx hb dX1_monthOf_17 hl (by decide) rfl (fun ls hl => ?_)
  obtain ⟨I5, ⟨n6s, iI5⟩, qI5⟩ := h
  have lI5 : ∀ (n6 : Nat) (x3 : Int) (x4 : Int), I5 n6 x3 x4 → ∀ (H : Heap) (locs : List Loc), GM D cy o M s.heap H locs → ∀ ls : Array Slot, lv_has ls 6 [(0, .int (J a0)), (2, .int (J x2)), (3, .int (J x3)), (4, .int (J x4))] → W p l e rm_X1_monthOf s m args below meth c H locs 0 0 Qf (F0 m 19 ls []) := by
    intro n6
    induction n6 using Nat.strongRecOn with
    | ind n6 rI5 =>
      intro x3 x4 iI5 H locs hG ls hl
      have h := qI5 n6 x3 x4 iI5
      refine lv_iload hx hb dX1_monthOf_19 (lv_at hl 3 rfl) ?_
      refine lv_bipush (v := J 12) hx hb dX1_monthOf_21 (by decide) ?_
      obtain ⟨g8, h⟩ := h
      refine j_icmp_ge (tgt := 72) hx hb dX1_monthOf_23 (by decide) g8 (by decide) (fun c7 => ?_) (fun c7 => ?_)
      · have h := h.1 c7
        refine lv_iload_n hx hb dX1_monthOf_72 rfl (lv_at hl 2 rfl) ?_
        rw [hQf]
        exact j_ireti hx hb hr hlocks hG ⟨h, rfl⟩ (by decide) dX1_monthOf_73
      · have h := h.2 c7
        refine lv_iload_n hx hb dX1_monthOf_26 rfl (lv_at hl 0 rfl) ?_
        refine lv_iconst (v := J 4) hx hb dX1_monthOf_27 (by decide) ?_
        obtain ⟨g9, h⟩ := h
        refine j_irem hx hb dX1_monthOf_28 g9 (by decide) ?_
        obtain ⟨K18, hK18, h⟩ := h
        have jK18 : ∀ (x17 : Int), K18 x17 → ∀ (H : Heap) (locs : List Loc), GM D cy o M s.heap H locs → ∀ ls : Array Slot, lv_has ls 6 [(0, .int (J a0)), (2, .int (J x2)), (3, .int (J x3)), (4, .int (J x4))] → W p l e rm_X1_monthOf s m args below meth c H locs 0 0 Qf (F0 m 43 ls [.int (J x17)]) := by
          intro x17 hcK18 H locs hG ls hl
          have h := hK18 x17 hcK18
          refine lv_istore (lv' := [(5, .int (J x17)), (0, .int (J a0)), (2, .int (J x2)), (3, .int (J x3)), (4, .int (J x4))]) hx hb dX1_monthOf_43 hl (by decide) rfl (fun ls hl => ?_)
          refine lv_iload_n hx hb dX1_monthOf_45 rfl (lv_at hl 3 rfl) ?_
          refine lv_iload_n hx hb dX1_monthOf_46 rfl (lv_at hl 2 rfl) ?_
          refine va_gets hx hb hZ1 hG.2 hown w_fl_RX1_7 (fun _ h9 => h9) dX1_monthOf_47 ?_
          refine lv_iload hx hb dX1_monthOf_50 (lv_at hl 4 rfl) ?_
          obtain ⟨g19, h⟩ := h
          refine j_ti hx hb hT1 hG.2 g19 (by decide) dX1_monthOf_52 ?_
          refine lv_iload hx hb dX1_monthOf_53 (lv_at hl 0 rfl) ?_
          refine j_iadd hx hb dX1_monthOf_55 ?_
          obtain ⟨hg, h⟩ := h
          have jK24 : ∀ x23 : Int, x23 = b2i ((msF x4) + x17 ≤ x2) → ∀ (H : Heap) (locs : List Loc), GM D cy o M s.heap H locs → ∀ ls : Array Slot, lv_has ls 6 [(0, .int (J a0)), (2, .int (J x2)), (4, .int (J x4))] → W p l e rm_X1_monthOf s m args below meth c H locs 0 0 Qf (F0 m 64 ls [.int (J x23), .int (J x3)]) := by
            intro x23 ex23 H locs hG ls hl
            subst ex23
            refine j_iadd hx hb dX1_monthOf_64 ?_
            refine j_topi (fun x28 ex28 => ?_)
            have h := h x28 ex28
            refine lv_istore_n (lv' := [(3, .int (J x28)), (0, .int (J a0)), (2, .int (J x2)), (4, .int (J x4))]) hx hb dX1_monthOf_65 rfl hl (by decide) rfl (fun ls hl => ?_)
            refine j_iinc hx hb dX1_monthOf_66 hl (k := 3) rfl (by decide) (fun x29 ex29 ls hl => ?_)
            have h := h x29 ex29
            have hl : lv_has ls 6 [(4, .int (J x29)), (3, .int (J x28)), (0, .int (J a0)), (2, .int (J x2))] := hl
            refine lv_goto (tgt := 19) hx hb dX1_monthOf_69 (by decide) ?_
            obtain ⟨n30, ln30, iI5⟩ := h
            exact rI5 n30 ln30 x28 x29 iI5 H locs hG ls (lv_sub hl [2, 3, 1, 0] rfl)
          have h := hg
          obtain ⟨g26, h⟩ := h
          obtain ⟨g27, h⟩ := h
          refine j_icmp_lt (tgt := 63) hx hb dX1_monthOf_56 (by decide) g26 g27 (fun c25 => ?_) (fun c25 => ?_)
          · have h := h.1 c25
            refine lv_iconst (v := J 0) hx hb dX1_monthOf_63 (by decide) ?_
            exact jK24 0 (b2i_iff0 (iff_of_false (show ¬ ((msF x4) + x17 ≤ x2) from by omega) id)) H locs hG ls (lv_sub hl [1, 2, 4] rfl)
          · have h := h.2 c25
            refine lv_iconst (v := J 1) hx hb dX1_monthOf_59 (by decide) ?_
            refine lv_goto (tgt := 64) hx hb dX1_monthOf_60 (by decide) ?_
            exact jK24 1 (b2i_iff1 (iff_of_true c25 trivial)) H locs hG ls (lv_sub hl [1, 2, 4] rfl)
        obtain ⟨K34, hK34, h⟩ := h
        have jK34 : K34 → ∀ (H : Heap) (locs : List Loc), GM D cy o M s.heap H locs → ∀ ls : Array Slot, lv_has ls 6 [(0, .int (J a0)), (2, .int (J x2)), (3, .int (J x3)), (4, .int (J x4))] → W p l e rm_X1_monthOf s m args below meth c H locs 0 0 Qf (F0 m 42 ls []) := by
          intro hcK34 H locs hG ls hl
          have h := hK34 hcK34
          refine lv_iconst (v := J 0) hx hb dX1_monthOf_42 (by decide) ?_
          exact jK18 0 h H locs hG ls (lv_sub hl [0, 1, 2, 3] rfl)
        obtain ⟨g36, h⟩ := h
        refine j_if_ne (tgt := 42) hx hb dX1_monthOf_29 (by decide) g36 (fun c35 => ?_) (fun c35 => ?_)
        · have h := h.1 c35
          exact jK34 h H locs hG ls (lv_sub hl [0, 1, 2, 3] rfl)
        · have h := h.2 c35
          refine lv_iload hx hb dX1_monthOf_32 (lv_at hl 3 rfl) ?_
          refine lv_iconst (v := J 1) hx hb dX1_monthOf_34 (by decide) ?_
          refine j_icmp_le (tgt := 42) hx hb dX1_monthOf_35 (by decide) g8 (by decide) (fun c37 => ?_) (fun c37 => ?_)
          · have h := h.1 c37
            exact jK34 h H locs hG ls (lv_sub hl [0, 1, 2, 3] rfl)
          · have h := h.2 c37
            refine lv_iconst (v := J 1) hx hb dX1_monthOf_38 (by decide) ?_
            refine lv_goto (tgt := 43) hx hb dX1_monthOf_39 (by decide) ?_
            exact jK18 1 h H locs hG ls (lv_sub hl [0, 1, 2, 3] rfl)
  exact lI5 n6s 1 1 iI5 H locs hG ls (lv_sub hl [3, 2, 1, 0] rfl)

abbrev rm_X1_weekday : Room := { frames := 0, cells := 0, slots := 0, locals := 0 }
set_option maxRecDepth 100000 in
set_option maxHeartbeats 4000000 in
theorem A_X1_weekday (l : Launch) {D : va_G} {cy : Nat → ClassId} {o : Nat} {sK sV : Nat → Nat} {M : jT} {a0 : Int} (h : pg_X1_weekday a0) : CoI l yX1_weekday (wj yX1_weekday cX1_weekday 1 (some .int)) rm_X1_weekday D cy o sK sV M [.int (J a0)] (fun z M9 => z = pf_X1_weekday a0 ∧ M9 = M) := by
  refine j_ofW (cc := cX1_weekday) (maxL := 1) (ret := (some .int)) (by decide) rfl (Nat.le_of_ble_eq_true rfl) ?_
  intro p e s m args below meth c hx hb hr hlocks hml hown hts hK hSX H locs hG ls hl Qf hQf
  have hown : s.vm.findClass RX1 = some m.cls := hown
  have hl : lv_has ls 1 [(0, .int (J a0))] := hl
  unfold pg_X1_weekday at h
  refine lv_iload_n hx hb dX1_weekday_0 rfl (lv_at hl 0 rfl) ?_
  refine lv_iconst (v := J 5) hx hb dX1_weekday_1 (by decide) ?_
  refine j_iadd hx hb dX1_weekday_2 ?_
  refine lv_bipush (v := J 7) hx hb dX1_weekday_3 (by decide) ?_
  obtain ⟨g1, h⟩ := h
  refine j_irem hx hb dX1_weekday_5 g1 (by decide) ?_
  rw [hQf]
  exact j_ireti hx hb hr hlocks hG ⟨rfl, rfl⟩ (by decide) dX1_weekday_6

abbrev rm_X1_yearStart : Room := { frames := 0, cells := 0, slots := 0, locals := 0 }
set_option maxRecDepth 100000 in
set_option maxHeartbeats 4000000 in
theorem A_X1_yearStart (l : Launch) {D : va_G} {cy : Nat → ClassId} {o : Nat} {sK sV : Nat → Nat} {M : jT} {a0 : Int} (h : pg_X1_yearStart a0) : CoI l yX1_yearStart (wj yX1_yearStart cX1_yearStart 1 (some .int)) rm_X1_yearStart D cy o sK sV M [.int (J a0)] (fun z M9 => z = pf_X1_yearStart a0 ∧ M9 = M) := by
  refine j_ofW (cc := cX1_yearStart) (maxL := 1) (ret := (some .int)) (by decide) rfl (Nat.le_of_ble_eq_true rfl) ?_
  intro p e s m args below meth c hx hb hr hlocks hml hown hts hK hSX H locs hG ls hl Qf hQf
  have hown : s.vm.findClass RX1 = some m.cls := hown
  have hl : lv_has ls 1 [(0, .int (J a0))] := hl
  unfold pg_X1_yearStart at h
  refine lv_sipush (v := J 365) hx hb dX1_yearStart_0 (by decide) ?_
  refine lv_iload_n hx hb dX1_yearStart_3 rfl (lv_at hl 0 rfl) ?_
  refine j_imul hx hb dX1_yearStart_4 ?_
  refine lv_iload_n hx hb dX1_yearStart_5 rfl (lv_at hl 0 rfl) ?_
  refine lv_iconst (v := J 3) hx hb dX1_yearStart_6 (by decide) ?_
  refine j_iadd hx hb dX1_yearStart_7 ?_
  refine lv_iconst (v := J 4) hx hb dX1_yearStart_8 (by decide) ?_
  obtain ⟨g1, h⟩ := h
  refine j_idiv hx hb dX1_yearStart_9 g1 (by decide) ?_
  refine j_iadd hx hb dX1_yearStart_10 ?_
  rw [hQf]
  exact j_ireti hx hb hr hlocks hG ⟨rfl, rfl⟩ (by decide) dX1_yearStart_11

abbrev rom_X10_date : Room := { frames := 1, cells := 0, slots := 0, locals := 25 }
set_option maxRecDepth 100000 in
set_option maxHeartbeats 4000000 in
theorem Ao_X10_date (l : Launch) {D : va_G} {cy : Nat → ClassId} {o : Nat} {sK sV : Nat → Nat} {M : jT} {a0 : Int} {a1 : Int} {a2 : Int} (ka0 : kd a0 = 10) {Q : Int → Prop} (h : wo_X10_date M a0 a1 a2 Q) : CoI l yX10_date (wj yX10_date cX10_date 6 (some .int)) rom_X10_date D cy o sK sV M [.ref (rA o a0), .int (J a1), .int (J a2)] (fun z M9 => Q z ∧ M9 = M) := by
  refine j_ofW (cc := cX10_date) (maxL := 6) (ret := (some .int)) (by decide) rfl (Nat.le_of_ble_eq_true rfl) ?_
  intro p e s m args below meth c hx hb hr hlocks hml hown hts hK hSX H locs hG ls hl Qf hQf
  have hown : s.vm.findClass RX10 = some m.cls := hown
  have hl : lv_has ls 6 [(0, .ref (rA o a0)), (1, .int (J a1)), (2, .int (J a2))] := hl
  unfold wo_X10_date at h
  refine lv_iload_n hx hb dX10_date_0 rfl (lv_at hl 1 rfl) ?_
  obtain ⟨g1, h⟩ := h
  refine j_conti (va_runS (As := [.int (J a1)]) (rest := []) ⟨hx, hb, hml, hown, hts⟩ (A_X10_isDay l g1) (va_cwS 1 hts (gj_S ml_RX10_85 i_X10_isDay n_RX10 k_X10_isDay) rfl rfl rfl (by decide +kernel) ⟨by exact Nat.le_of_ble_eq_true rfl, by exact Nat.le_of_ble_eq_true rfl⟩) (j_preS hK hSX hG) rfl rfl hl.1 rfl (lv_room (Nat.le_of_ble_eq_true rfl)) dX10_date_1 ⟨by exact Nat.le_of_ble_eq_true rfl, by exact Nat.le_of_ble_eq_true rfl⟩) hG (c2 := 0) (s2 := 0) ⟨by exact Nat.le_of_ble_eq_true rfl, by exact Nat.le_of_ble_eq_true rfl⟩ (fun z2 M3 ez2 H locs hG => ?_)
  obtain ⟨ez2, eM3⟩ := ez2
  subst ez2
  rw [eM3] at hG
  refine j_contv (va_runS (As := [.int (J (b2i (pb_X10_isDay a1)))]) (rest := []) ⟨hx, hb, hml, hown, hts⟩ (Ao_X10_needIndex l h) (va_cwS 1 hts (gj_S ml_RX10_88 i_X10_needIndex n_RX10 k_X10_needIndex) rfl rfl rfl (by decide +kernel) ⟨by exact Nat.le_of_ble_eq_true rfl, by exact Nat.le_of_ble_eq_true rfl⟩) (j_preS hK hSX hG) rfl rfl hl.1 rfl (lv_room (Nat.le_of_ble_eq_true rfl)) dX10_date_4 ⟨by exact Nat.le_of_ble_eq_true rfl, by exact Nat.le_of_ble_eq_true rfl⟩) hG (c2 := 0) (s2 := 0) ⟨by exact Nat.le_of_ble_eq_true rfl, by exact Nat.le_of_ble_eq_true rfl⟩ (fun M5 h H locs hG => ?_)
  obtain ⟨h, eM5⟩ := h
  rw [eM5] at hG
  refine lv_iload_n hx hb dX10_date_7 rfl (lv_at hl 2 rfl) ?_
  obtain ⟨K14, hK14, h⟩ := h
  have jK14 : ∀ (x13 : Int), K14 x13 → ∀ (H : Heap) (locs : List Loc), GM D cy o M s.heap H locs → ∀ ls : Array Slot, lv_has ls 6 [(1, .int (J a1)), (2, .int (J a2))] → W p l e rom_X10_date s m args below meth c H locs 0 0 Qf (F0 m 21 ls [.int (J x13)]) := by
    intro x13 hcK14 H locs hG ls hl
    have h := hK14 x13 hcK14
    refine j_contv (va_runS (As := [.int (J x13)]) (rest := []) ⟨hx, hb, hml, hown, hts⟩ (Ao_X10_needArgument l h) (va_cwS 1 hts (gj_S ml_RX10_72 i_X10_needArgument n_RX10 k_X10_needArgument) rfl rfl rfl (by decide +kernel) ⟨by exact Nat.le_of_ble_eq_true rfl, by exact Nat.le_of_ble_eq_true rfl⟩) (j_preS hK hSX hG) rfl rfl hl.1 rfl (lv_room (Nat.le_of_ble_eq_true rfl)) dX10_date_21 ⟨by exact Nat.le_of_ble_eq_true rfl, by exact Nat.le_of_ble_eq_true rfl⟩) hG (c2 := 0) (s2 := 0) ⟨by exact Nat.le_of_ble_eq_true rfl, by exact Nat.le_of_ble_eq_true rfl⟩ (fun M16 h H locs hG => ?_)
    obtain ⟨h, eM16⟩ := h
    rw [eM16] at hG
    refine lv_iload_n hx hb dX10_date_24 rfl (lv_at hl 0 rfl) ?_
    obtain ⟨g17, h⟩ := h
    refine j_conti (va_runS (As := [.int (J a1)]) (rest := []) ⟨hx, hb, hml, hown, hts⟩ (A_X1_yearOf l g17) (va_cwS 1 hts (gj_S ml_RX10_91 i_X1_yearOf n_RX1 k_X1_yearOf) rfl rfl rfl (by decide +kernel) ⟨by exact Nat.le_of_ble_eq_true rfl, by exact Nat.le_of_ble_eq_true rfl⟩) (j_preS hK hSX hG) rfl rfl hl.1 rfl (lv_room (Nat.le_of_ble_eq_true rfl)) dX10_date_25 ⟨by exact Nat.le_of_ble_eq_true rfl, by exact Nat.le_of_ble_eq_true rfl⟩) hG (c2 := 0) (s2 := 0) ⟨by exact Nat.le_of_ble_eq_true rfl, by exact Nat.le_of_ble_eq_true rfl⟩ (fun z18 M19 ez18 H locs hG => ?_)
    obtain ⟨ez18, eM19⟩ := ez18
    subst ez18
    rw [eM19] at hG
    refine j_topi (fun x20 ex20 => ?_)
    have h := h x20 ex20
    refine lv_istore_n (lv' := [(3, .int (J x20)), (1, .int (J a1)), (2, .int (J a2))]) hx hb dX10_date_28 rfl hl (by decide) rfl (fun ls hl => ?_)
    refine lv_iload_n hx hb dX10_date_29 rfl (lv_at hl 0 rfl) ?_
    refine lv_iload_n hx hb dX10_date_30 rfl (lv_at hl 1 rfl) ?_
    refine j_conti (va_runS (As := [.int (J x20), .int (J a1)]) (rest := []) ⟨hx, hb, hml, hown, hts⟩ (A_X1_monthOf l h) (va_cwS 2 hts (gj_S ml_RX10_95 i_X1_monthOf n_RX1 k_X1_monthOf) rfl rfl rfl (by decide +kernel) ⟨by exact Nat.le_of_ble_eq_true rfl, by exact Nat.le_of_ble_eq_true rfl⟩) (j_preS hK hSX hG) rfl rfl hl.1 rfl (lv_room (Nat.le_of_ble_eq_true rfl)) dX10_date_31 ⟨by exact Nat.le_of_ble_eq_true rfl, by exact Nat.le_of_ble_eq_true rfl⟩) hG (c2 := 0) (s2 := 0) ⟨by exact Nat.le_of_ble_eq_true rfl, by exact Nat.le_of_ble_eq_true rfl⟩ (fun z21 M22 h H locs hG => ?_)
    obtain ⟨h, eM22⟩ := h
    rw [eM22] at hG
    refine lv_istore (lv' := [(4, .int (J z21)), (3, .int (J x20)), (1, .int (J a1)), (2, .int (J a2))]) hx hb dX10_date_34 hl (by decide) rfl (fun ls hl => ?_)
    refine lv_iload_n hx hb dX10_date_36 rfl (lv_at hl 2 rfl) ?_
    refine lv_iload_n hx hb dX10_date_37 rfl (lv_at hl 1 rfl) ?_
    refine lv_iload hx hb dX10_date_38 (lv_at hl 0 rfl) ?_
    obtain ⟨g23, h⟩ := h
    refine j_conti (va_runS (As := [.int (J x20), .int (J z21)]) (rest := [.int (J a1)]) ⟨hx, hb, hml, hown, hts⟩ (A_X1_monthStart l g23) (va_cwS 2 hts (gj_S ml_RX10_82 i_X1_monthStart n_RX1 k_X1_monthStart) rfl rfl rfl (by decide +kernel) ⟨by exact Nat.le_of_ble_eq_true rfl, by exact Nat.le_of_ble_eq_true rfl⟩) (j_preS hK hSX hG) rfl rfl hl.1 rfl (lv_room (Nat.le_of_ble_eq_true rfl)) dX10_date_40 ⟨by exact Nat.le_of_ble_eq_true rfl, by exact Nat.le_of_ble_eq_true rfl⟩) hG (c2 := 0) (s2 := 0) ⟨by exact Nat.le_of_ble_eq_true rfl, by exact Nat.le_of_ble_eq_true rfl⟩ (fun z24 M25 ez24 H locs hG => ?_)
    obtain ⟨ez24, eM25⟩ := ez24
    subst ez24
    rw [eM25] at hG
    refine j_isub hx hb dX10_date_43 ?_
    refine lv_iconst (v := J 1) hx hb dX10_date_44 (by decide) ?_
    refine j_iadd hx hb dX10_date_45 ?_
    refine j_topi (fun x26 ex26 => ?_)
    have h := h x26 ex26
    refine lv_istore (lv' := [(5, .int (J x26)), (4, .int (J z21)), (3, .int (J x20)), (1, .int (J a1)), (2, .int (J a2))]) hx hb dX10_date_46 hl (by decide) rfl (fun ls hl => ?_)
    refine lv_iload_n hx hb dX10_date_48 rfl (lv_at hl 4 rfl) ?_
    obtain ⟨g27, h⟩ := h
    rcases em_eqI (a2) 0 with c28 | c28_0
    · refine j_tsw hx hb dX10_date_49 g27 (k := 0) (tgt := 84) c28 ⟨by decide, by decide, rfl⟩ (by decide) ?_
      have h := h.1 c28
      refine lv_iload_n hx hb dX10_date_84 rfl (lv_at hl 2 rfl) ?_
      rw [hQf]
      exact j_ireti hx hb hr hlocks hG ⟨h, rfl⟩ (by decide) dX10_date_85
    · rcases em_eqI (a2) 1 with c28 | c28_1
      · refine j_tsw hx hb dX10_date_49 g27 (k := 1) (tgt := 86) c28 ⟨by decide, by decide, rfl⟩ (by decide) ?_
        have h := h.2.1 c28
        refine lv_iload hx hb dX10_date_86 (lv_at hl 1 rfl) ?_
        rw [hQf]
        exact j_ireti hx hb hr hlocks hG ⟨h, rfl⟩ (by decide) dX10_date_88
      · rcases em_eqI (a2) 2 with c28 | c28_2
        · refine j_tsw hx hb dX10_date_49 g27 (k := 2) (tgt := 89) c28 ⟨by decide, by decide, rfl⟩ (by decide) ?_
          have h := h.2.2.1 c28
          refine lv_iload hx hb dX10_date_89 (lv_at hl 0 rfl) ?_
          rw [hQf]
          exact j_ireti hx hb hr hlocks hG ⟨h, rfl⟩ (by decide) dX10_date_91
        · rcases em_eqI (a2) 3 with c28 | c28_3
          · refine j_tsw hx hb dX10_date_49 g27 (k := 3) (tgt := 92) c28 ⟨by decide, by decide, rfl⟩ (by decide) ?_
            have h := h.2.2.2.1 c28
            refine lv_iload_n hx hb dX10_date_92 rfl (lv_at hl 3 rfl) ?_
            obtain ⟨g29, h⟩ := h
            refine j_conti (va_runS (As := [.int (J a1)]) (rest := []) ⟨hx, hb, hml, hown, hts⟩ (A_X1_weekday l g29) (va_cwS 1 hts (gj_S ml_RX10_98 i_X1_weekday n_RX1 k_X1_weekday) rfl rfl rfl (by decide +kernel) ⟨by exact Nat.le_of_ble_eq_true rfl, by exact Nat.le_of_ble_eq_true rfl⟩) (j_preS hK hSX hG) rfl rfl hl.1 rfl (lv_room (Nat.le_of_ble_eq_true rfl)) dX10_date_93 ⟨by exact Nat.le_of_ble_eq_true rfl, by exact Nat.le_of_ble_eq_true rfl⟩) hG (c2 := 0) (s2 := 0) ⟨by exact Nat.le_of_ble_eq_true rfl, by exact Nat.le_of_ble_eq_true rfl⟩ (fun z30 M31 ez30 H locs hG => ?_)
            obtain ⟨ez30, eM31⟩ := ez30
            subst ez30
            rw [eM31] at hG
            rw [hQf]
            exact j_ireti hx hb hr hlocks hG ⟨h, rfl⟩ (by decide) dX10_date_96
          · rcases em_eqI (a2) 4 with c28 | c28_4
            · refine j_tsw hx hb dX10_date_49 g27 (k := 4) (tgt := 97) c28 ⟨by decide, by decide, rfl⟩ (by decide) ?_
              have h := h.2.2.2.2.1 c28
              refine lv_iload_n hx hb dX10_date_97 rfl (lv_at hl 3 rfl) ?_
              refine lv_iload_n hx hb dX10_date_98 rfl (lv_at hl 2 rfl) ?_
              obtain ⟨g32, h⟩ := h
              refine j_conti (va_runS (As := [.int (J x20)]) (rest := [.int (J a1)]) ⟨hx, hb, hml, hown, hts⟩ (A_X1_yearStart l g32) (va_cwS 1 hts (gj_S ml_RX10_101 i_X1_yearStart n_RX1 k_X1_yearStart) rfl rfl rfl (by decide +kernel) ⟨by exact Nat.le_of_ble_eq_true rfl, by exact Nat.le_of_ble_eq_true rfl⟩) (j_preS hK hSX hG) rfl rfl hl.1 rfl (lv_room (Nat.le_of_ble_eq_true rfl)) dX10_date_99 ⟨by exact Nat.le_of_ble_eq_true rfl, by exact Nat.le_of_ble_eq_true rfl⟩) hG (c2 := 0) (s2 := 0) ⟨by exact Nat.le_of_ble_eq_true rfl, by exact Nat.le_of_ble_eq_true rfl⟩ (fun z33 M34 ez33 H locs hG => ?_)
              obtain ⟨ez33, eM34⟩ := ez33
              subst ez33
              rw [eM34] at hG
              refine j_isub hx hb dX10_date_102 ?_
              refine lv_iconst (v := J 1) hx hb dX10_date_103 (by decide) ?_
              refine j_iadd hx hb dX10_date_104 ?_
              rw [hQf]
              exact j_ireti hx hb hr hlocks hG ⟨h, rfl⟩ (by decide) dX10_date_105
            · have c28 : a2 ≠ 0 ∧ a2 ≠ 1 ∧ a2 ≠ 2 ∧ a2 ≠ 3 ∧ a2 ≠ 4 := ⟨c28_0, c28_1, c28_2, c28_3, c28_4⟩
              have h := h.2.2.2.2.2 c28
              refine j_tswd hx hb dX10_date_49 g27 (tgt := 106) (by omega) (by decide) ?_
              refine lv_iload hx hb dX10_date_106 (lv_at hl 0 rfl) ?_
              refine lv_iconst (v := J 1) hx hb dX10_date_108 (by decide) ?_
              refine j_isub hx hb dX10_date_109 ?_
              refine lv_bipush (v := J 7) hx hb dX10_date_110 (by decide) ?_
              obtain ⟨g35, h⟩ := h
              refine j_idiv hx hb dX10_date_112 g35 (by decide) ?_
              refine lv_iconst (v := J 1) hx hb dX10_date_113 (by decide) ?_
              refine j_iadd hx hb dX10_date_114 ?_
              rw [hQf]
              exact j_ireti hx hb hr hlocks hG ⟨h, rfl⟩ (by decide) dX10_date_115
  obtain ⟨K39, hK39, h⟩ := h
  have jK39 : K39 → ∀ (H : Heap) (locs : List Loc), GM D cy o M s.heap H locs → ∀ ls : Array Slot, lv_has ls 6 [(1, .int (J a1)), (2, .int (J a2))] → W p l e rom_X10_date s m args below meth c H locs 0 0 Qf (F0 m 20 ls []) := by
    intro hcK39 H locs hG ls hl
    have h := hK39 hcK39
    refine lv_iconst (v := J 0) hx hb dX10_date_20 (by decide) ?_
    exact jK14 0 h H locs hG ls (lv_sub hl [0, 1] rfl)
  obtain ⟨g41, h⟩ := h
  refine j_if_lt (tgt := 20) hx hb dX10_date_8 (by decide) g41 (fun c40 => ?_) (fun c40 => ?_)
  · have h := h.1 c40
    exact jK39 h H locs hG ls (lv_sub hl [1, 2] rfl)
  · have h := h.2 c40
    refine lv_iload_n hx hb dX10_date_11 rfl (lv_at hl 2 rfl) ?_
    refine lv_iconst (v := J 5) hx hb dX10_date_12 (by decide) ?_
    refine j_icmp_gt (tgt := 20) hx hb dX10_date_13 (by decide) g41 (by decide) (fun c42 => ?_) (fun c42 => ?_)
    · have h := h.1 c42
      exact jK39 h H locs hG ls (lv_sub hl [1, 2] rfl)
    · have h := h.2 c42
      refine lv_iconst (v := J 1) hx hb dX10_date_16 (by decide) ?_
      refine lv_goto (tgt := 21) hx hb dX10_date_17 (by decide) ?_
      exact jK14 1 h H locs hG ls (lv_sub hl [1, 2] rfl)
abbrev rm_X10_date : Room := { frames := 7, cells := 1, slots := 6, locals := 110 }
set_option maxRecDepth 100000 in
set_option maxHeartbeats 4000000 in
theorem A_X10_date (l : Launch) (hst : l.stackTraces = false) {D : va_G} {cy : Nat → ClassId} {o : Nat} {sK sV : Nat → Nat} {M : jT} {a0 : Int} {a1 : Int} {a2 : Int} (ka0 : kd a0 = 10) {Q : Int → jT → Prop} {X : Nat → jT → Prop} (h : wp_X10_date M a0 a1 a2 Q X) : CxI l yX10_date (wj yX10_date cX10_date 6 (some .int)) rm_X10_date D cy o sK sV M [.ref (rA o a0), .int (J a1), .int (J a2)] Q X := by
  refine j_ofWx (cc := cX10_date) (maxL := 6) (ret := (some .int)) (by decide) rfl (Nat.le_of_ble_eq_true rfl) ?_
  intro p e s m args below meth c hx hb hr hlocks hout hml hown hts hK hSX H locs hsz hG ls hl Qf hQf
  have hown : s.vm.findClass RX10 = some m.cls := hown
  have hl : lv_has ls 6 [(0, .ref (rA o a0)), (1, .int (J a1)), (2, .int (J a2))] := hl
  unfold wp_X10_date at h
  refine lv_iload_n hx hb dX10_date_0 rfl (lv_at hl 1 rfl) ?_
  obtain ⟨g1, h⟩ := h
  refine j_conti (va_runS (As := [.int (J a1)]) (rest := []) ⟨hx, hb, hml, hown, hts⟩ (A_X10_isDay l g1) (va_cwS 1 hts (gj_S ml_RX10_85 i_X10_isDay n_RX10 k_X10_isDay) rfl rfl rfl (by decide +kernel) ⟨by exact Nat.le_of_ble_eq_true rfl, by exact Nat.le_of_ble_eq_true rfl⟩) (j_preS hK hSX hG) rfl rfl hl.1 rfl (lv_room (Nat.le_of_ble_eq_true rfl)) dX10_date_1 ⟨by exact Nat.le_of_ble_eq_true rfl, by exact Nat.le_of_ble_eq_true rfl⟩) hG (c2 := 0) (s2 := 0) ⟨by exact Nat.le_of_ble_eq_true rfl, by exact Nat.le_of_ble_eq_true rfl⟩ (fun z2 M3 ez2 H locs hG => ?_)
  obtain ⟨ez2, eM3⟩ := ez2
  subst ez2
  rw [eM3] at hG
  rcases h with h | h
  · refine j_contv (va_runS (As := [.int (J (b2i (pb_X10_isDay a1)))]) (rest := []) ⟨hx, hb, hml, hown, hts⟩ (Ao_X10_needIndex l h) (va_cwS 1 hts (gj_S ml_RX10_88 i_X10_needIndex n_RX10 k_X10_needIndex) rfl rfl rfl (by decide +kernel) ⟨by exact Nat.le_of_ble_eq_true rfl, by exact Nat.le_of_ble_eq_true rfl⟩) (j_preS hK hSX hG) rfl rfl hl.1 rfl (lv_room (Nat.le_of_ble_eq_true rfl)) dX10_date_4 ⟨by exact Nat.le_of_ble_eq_true rfl, by exact Nat.le_of_ble_eq_true rfl⟩) hG (c2 := 0) (s2 := 0) ⟨by exact Nat.le_of_ble_eq_true rfl, by exact Nat.le_of_ble_eq_true rfl⟩ (fun M5 h H locs hG => ?_)
    obtain ⟨h, eM5⟩ := h
    rw [eM5] at hG
    refine lv_iload_n hx hb dX10_date_7 rfl (lv_at hl 2 rfl) ?_
    obtain ⟨K14, hK14, h⟩ := h
    have jK14 : ∀ (x13 : Int), K14 x13 → ∀ (H : Heap) (locs : List Loc), GM D cy o M s.heap H locs → ∀ ls : Array Slot, lv_has ls 6 [(1, .int (J a1)), (2, .int (J a2))] → W p l e rm_X10_date s m args below meth c H locs 0 0 Qf (F0 m 21 ls [.int (J x13)]) := by
      intro x13 hcK14 H locs hG ls hl
      have h := hK14 x13 hcK14
      rcases h with h | h
      · refine j_contv (va_runS (As := [.int (J x13)]) (rest := []) ⟨hx, hb, hml, hown, hts⟩ (Ao_X10_needArgument l h) (va_cwS 1 hts (gj_S ml_RX10_72 i_X10_needArgument n_RX10 k_X10_needArgument) rfl rfl rfl (by decide +kernel) ⟨by exact Nat.le_of_ble_eq_true rfl, by exact Nat.le_of_ble_eq_true rfl⟩) (j_preS hK hSX hG) rfl rfl hl.1 rfl (lv_room (Nat.le_of_ble_eq_true rfl)) dX10_date_21 ⟨by exact Nat.le_of_ble_eq_true rfl, by exact Nat.le_of_ble_eq_true rfl⟩) hG (c2 := 0) (s2 := 0) ⟨by exact Nat.le_of_ble_eq_true rfl, by exact Nat.le_of_ble_eq_true rfl⟩ (fun M16 h H locs hG => ?_)
        obtain ⟨h, eM16⟩ := h
        rw [eM16] at hG
        refine lv_iload_n hx hb dX10_date_24 rfl (lv_at hl 0 rfl) ?_
        obtain ⟨g17, h⟩ := h
        refine j_conti (va_runS (As := [.int (J a1)]) (rest := []) ⟨hx, hb, hml, hown, hts⟩ (A_X1_yearOf l g17) (va_cwS 1 hts (gj_S ml_RX10_91 i_X1_yearOf n_RX1 k_X1_yearOf) rfl rfl rfl (by decide +kernel) ⟨by exact Nat.le_of_ble_eq_true rfl, by exact Nat.le_of_ble_eq_true rfl⟩) (j_preS hK hSX hG) rfl rfl hl.1 rfl (lv_room (Nat.le_of_ble_eq_true rfl)) dX10_date_25 ⟨by exact Nat.le_of_ble_eq_true rfl, by exact Nat.le_of_ble_eq_true rfl⟩) hG (c2 := 0) (s2 := 0) ⟨by exact Nat.le_of_ble_eq_true rfl, by exact Nat.le_of_ble_eq_true rfl⟩ (fun z18 M19 ez18 H locs hG => ?_)
        obtain ⟨ez18, eM19⟩ := ez18
        subst ez18
        rw [eM19] at hG
        refine j_topi (fun x20 ex20 => ?_)
        have h := h x20 ex20
        refine lv_istore_n (lv' := [(3, .int (J x20)), (1, .int (J a1)), (2, .int (J a2))]) hx hb dX10_date_28 rfl hl (by decide) rfl (fun ls hl => ?_)
        refine lv_iload_n hx hb dX10_date_29 rfl (lv_at hl 0 rfl) ?_
        refine lv_iload_n hx hb dX10_date_30 rfl (lv_at hl 1 rfl) ?_
        refine j_conti (va_runS (As := [.int (J x20), .int (J a1)]) (rest := []) ⟨hx, hb, hml, hown, hts⟩ (A_X1_monthOf l h) (va_cwS 2 hts (gj_S ml_RX10_95 i_X1_monthOf n_RX1 k_X1_monthOf) rfl rfl rfl (by decide +kernel) ⟨by exact Nat.le_of_ble_eq_true rfl, by exact Nat.le_of_ble_eq_true rfl⟩) (j_preS hK hSX hG) rfl rfl hl.1 rfl (lv_room (Nat.le_of_ble_eq_true rfl)) dX10_date_31 ⟨by exact Nat.le_of_ble_eq_true rfl, by exact Nat.le_of_ble_eq_true rfl⟩) hG (c2 := 0) (s2 := 0) ⟨by exact Nat.le_of_ble_eq_true rfl, by exact Nat.le_of_ble_eq_true rfl⟩ (fun z21 M22 h H locs hG => ?_)
        obtain ⟨h, eM22⟩ := h
        rw [eM22] at hG
        refine lv_istore (lv' := [(4, .int (J z21)), (3, .int (J x20)), (1, .int (J a1)), (2, .int (J a2))]) hx hb dX10_date_34 hl (by decide) rfl (fun ls hl => ?_)
        refine lv_iload_n hx hb dX10_date_36 rfl (lv_at hl 2 rfl) ?_
        refine lv_iload_n hx hb dX10_date_37 rfl (lv_at hl 1 rfl) ?_
        refine lv_iload hx hb dX10_date_38 (lv_at hl 0 rfl) ?_
        obtain ⟨g23, h⟩ := h
        refine j_conti (va_runS (As := [.int (J x20), .int (J z21)]) (rest := [.int (J a1)]) ⟨hx, hb, hml, hown, hts⟩ (A_X1_monthStart l g23) (va_cwS 2 hts (gj_S ml_RX10_82 i_X1_monthStart n_RX1 k_X1_monthStart) rfl rfl rfl (by decide +kernel) ⟨by exact Nat.le_of_ble_eq_true rfl, by exact Nat.le_of_ble_eq_true rfl⟩) (j_preS hK hSX hG) rfl rfl hl.1 rfl (lv_room (Nat.le_of_ble_eq_true rfl)) dX10_date_40 ⟨by exact Nat.le_of_ble_eq_true rfl, by exact Nat.le_of_ble_eq_true rfl⟩) hG (c2 := 0) (s2 := 0) ⟨by exact Nat.le_of_ble_eq_true rfl, by exact Nat.le_of_ble_eq_true rfl⟩ (fun z24 M25 ez24 H locs hG => ?_)
        obtain ⟨ez24, eM25⟩ := ez24
        subst ez24
        rw [eM25] at hG
        refine j_isub hx hb dX10_date_43 ?_
        refine lv_iconst (v := J 1) hx hb dX10_date_44 (by decide) ?_
        refine j_iadd hx hb dX10_date_45 ?_
        refine j_topi (fun x26 ex26 => ?_)
        have h := h x26 ex26
        refine lv_istore (lv' := [(5, .int (J x26)), (4, .int (J z21)), (3, .int (J x20)), (1, .int (J a1)), (2, .int (J a2))]) hx hb dX10_date_46 hl (by decide) rfl (fun ls hl => ?_)
        refine lv_iload_n hx hb dX10_date_48 rfl (lv_at hl 4 rfl) ?_
        obtain ⟨g27, h⟩ := h
        rcases em_eqI (a2) 0 with c28 | c28_0
        · refine j_tsw hx hb dX10_date_49 g27 (k := 0) (tgt := 84) c28 ⟨by decide, by decide, rfl⟩ (by decide) ?_
          have h := h.1 c28
          refine lv_iload_n hx hb dX10_date_84 rfl (lv_at hl 2 rfl) ?_
          rw [hQf]
          exact vx_ret (j_ireti hx hb hr hlocks hG h (by decide) dX10_date_85)
        · rcases em_eqI (a2) 1 with c28 | c28_1
          · refine j_tsw hx hb dX10_date_49 g27 (k := 1) (tgt := 86) c28 ⟨by decide, by decide, rfl⟩ (by decide) ?_
            have h := h.2.1 c28
            refine lv_iload hx hb dX10_date_86 (lv_at hl 1 rfl) ?_
            rw [hQf]
            exact vx_ret (j_ireti hx hb hr hlocks hG h (by decide) dX10_date_88)
          · rcases em_eqI (a2) 2 with c28 | c28_2
            · refine j_tsw hx hb dX10_date_49 g27 (k := 2) (tgt := 89) c28 ⟨by decide, by decide, rfl⟩ (by decide) ?_
              have h := h.2.2.1 c28
              refine lv_iload hx hb dX10_date_89 (lv_at hl 0 rfl) ?_
              rw [hQf]
              exact vx_ret (j_ireti hx hb hr hlocks hG h (by decide) dX10_date_91)
            · rcases em_eqI (a2) 3 with c28 | c28_3
              · refine j_tsw hx hb dX10_date_49 g27 (k := 3) (tgt := 92) c28 ⟨by decide, by decide, rfl⟩ (by decide) ?_
                have h := h.2.2.2.1 c28
                refine lv_iload_n hx hb dX10_date_92 rfl (lv_at hl 3 rfl) ?_
                obtain ⟨g29, h⟩ := h
                refine j_conti (va_runS (As := [.int (J a1)]) (rest := []) ⟨hx, hb, hml, hown, hts⟩ (A_X1_weekday l g29) (va_cwS 1 hts (gj_S ml_RX10_98 i_X1_weekday n_RX1 k_X1_weekday) rfl rfl rfl (by decide +kernel) ⟨by exact Nat.le_of_ble_eq_true rfl, by exact Nat.le_of_ble_eq_true rfl⟩) (j_preS hK hSX hG) rfl rfl hl.1 rfl (lv_room (Nat.le_of_ble_eq_true rfl)) dX10_date_93 ⟨by exact Nat.le_of_ble_eq_true rfl, by exact Nat.le_of_ble_eq_true rfl⟩) hG (c2 := 0) (s2 := 0) ⟨by exact Nat.le_of_ble_eq_true rfl, by exact Nat.le_of_ble_eq_true rfl⟩ (fun z30 M31 ez30 H locs hG => ?_)
                obtain ⟨ez30, eM31⟩ := ez30
                subst ez30
                rw [eM31] at hG
                rw [hQf]
                exact vx_ret (j_ireti hx hb hr hlocks hG h (by decide) dX10_date_96)
              · rcases em_eqI (a2) 4 with c28 | c28_4
                · refine j_tsw hx hb dX10_date_49 g27 (k := 4) (tgt := 97) c28 ⟨by decide, by decide, rfl⟩ (by decide) ?_
                  have h := h.2.2.2.2.1 c28
                  refine lv_iload_n hx hb dX10_date_97 rfl (lv_at hl 3 rfl) ?_
                  refine lv_iload_n hx hb dX10_date_98 rfl (lv_at hl 2 rfl) ?_
                  obtain ⟨g32, h⟩ := h
                  refine j_conti (va_runS (As := [.int (J x20)]) (rest := [.int (J a1)]) ⟨hx, hb, hml, hown, hts⟩ (A_X1_yearStart l g32) (va_cwS 1 hts (gj_S ml_RX10_101 i_X1_yearStart n_RX1 k_X1_yearStart) rfl rfl rfl (by decide +kernel) ⟨by exact Nat.le_of_ble_eq_true rfl, by exact Nat.le_of_ble_eq_true rfl⟩) (j_preS hK hSX hG) rfl rfl hl.1 rfl (lv_room (Nat.le_of_ble_eq_true rfl)) dX10_date_99 ⟨by exact Nat.le_of_ble_eq_true rfl, by exact Nat.le_of_ble_eq_true rfl⟩) hG (c2 := 0) (s2 := 0) ⟨by exact Nat.le_of_ble_eq_true rfl, by exact Nat.le_of_ble_eq_true rfl⟩ (fun z33 M34 ez33 H locs hG => ?_)
                  obtain ⟨ez33, eM34⟩ := ez33
                  subst ez33
                  rw [eM34] at hG
                  refine j_isub hx hb dX10_date_102 ?_
                  refine lv_iconst (v := J 1) hx hb dX10_date_103 (by decide) ?_
                  refine j_iadd hx hb dX10_date_104 ?_
                  rw [hQf]
                  exact vx_ret (j_ireti hx hb hr hlocks hG h (by decide) dX10_date_105)
                · have c28 : a2 ≠ 0 ∧ a2 ≠ 1 ∧ a2 ≠ 2 ∧ a2 ≠ 3 ∧ a2 ≠ 4 := ⟨c28_0, c28_1, c28_2, c28_3, c28_4⟩
                  have h := h.2.2.2.2.2 c28
                  refine j_tswd hx hb dX10_date_49 g27 (tgt := 106) (by omega) (by decide) ?_
                  refine lv_iload hx hb dX10_date_106 (lv_at hl 0 rfl) ?_
                  refine lv_iconst (v := J 1) hx hb dX10_date_108 (by decide) ?_
                  refine j_isub hx hb dX10_date_109 ?_
                  refine lv_bipush (v := J 7) hx hb dX10_date_110 (by decide) ?_
                  obtain ⟨g35, h⟩ := h
                  refine j_idiv hx hb dX10_date_112 g35 (by decide) ?_
                  refine lv_iconst (v := J 1) hx hb dX10_date_113 (by decide) ?_
                  refine j_iadd hx hb dX10_date_114 ?_
                  rw [hQf]
                  exact vx_ret (j_ireti hx hb hr hlocks hG h (by decide) dX10_date_115)
      · refine j_contxv (vx_runS (As := [.int (J x13)]) (rest := []) ⟨hx, hb, hml, hown, hts⟩ (A_X10_needArgument l hst h) (va_cwS 1 hts (gj_S ml_RX10_72 i_X10_needArgument n_RX10 k_X10_needArgument) rfl rfl rfl (by decide +kernel) ⟨by exact Nat.le_of_ble_eq_true rfl, by exact Nat.le_of_ble_eq_true rfl⟩) (j_preS hK hSX hG) rfl rfl hl.1 rfl (lv_room (Nat.le_of_ble_eq_true rfl)) dX10_date_21 ⟨by exact Nat.le_of_ble_eq_true rfl, by exact Nat.le_of_ble_eq_true rfl⟩) hG (c2 := 1) (s2 := 6) ⟨by exact Nat.le_of_ble_eq_true rfl, by exact Nat.le_of_ble_eq_true rfl⟩ (fun x M h ce q H locs hG h1 h2 h3 => ?_) (fun M h H locs hG => h.elim)
        rw [hQf]
        exact j_xout hlocks hout hG h h1 h2 h3 (by decide)
    obtain ⟨K39, hK39, h⟩ := h
    have jK39 : K39 → ∀ (H : Heap) (locs : List Loc), GM D cy o M s.heap H locs → ∀ ls : Array Slot, lv_has ls 6 [(1, .int (J a1)), (2, .int (J a2))] → W p l e rm_X10_date s m args below meth c H locs 0 0 Qf (F0 m 20 ls []) := by
      intro hcK39 H locs hG ls hl
      have h := hK39 hcK39
      refine lv_iconst (v := J 0) hx hb dX10_date_20 (by decide) ?_
      exact jK14 0 h H locs hG ls (lv_sub hl [0, 1] rfl)
    obtain ⟨g41, h⟩ := h
    refine j_if_lt (tgt := 20) hx hb dX10_date_8 (by decide) g41 (fun c40 => ?_) (fun c40 => ?_)
    · have h := h.1 c40
      exact jK39 h H locs hG ls (lv_sub hl [1, 2] rfl)
    · have h := h.2 c40
      refine lv_iload_n hx hb dX10_date_11 rfl (lv_at hl 2 rfl) ?_
      refine lv_iconst (v := J 5) hx hb dX10_date_12 (by decide) ?_
      refine j_icmp_gt (tgt := 20) hx hb dX10_date_13 (by decide) g41 (by decide) (fun c42 => ?_) (fun c42 => ?_)
      · have h := h.1 c42
        exact jK39 h H locs hG ls (lv_sub hl [1, 2] rfl)
      · have h := h.2 c42
        refine lv_iconst (v := J 1) hx hb dX10_date_16 (by decide) ?_
        refine lv_goto (tgt := 21) hx hb dX10_date_17 (by decide) ?_
        exact jK14 1 h H locs hG ls (lv_sub hl [1, 2] rfl)
  · refine j_contxv (vx_runS (As := [.int (J (b2i (pb_X10_isDay a1)))]) (rest := []) ⟨hx, hb, hml, hown, hts⟩ (A_X10_needIndex l hst h) (va_cwS 1 hts (gj_S ml_RX10_88 i_X10_needIndex n_RX10 k_X10_needIndex) rfl rfl rfl (by decide +kernel) ⟨by exact Nat.le_of_ble_eq_true rfl, by exact Nat.le_of_ble_eq_true rfl⟩) (j_preS hK hSX hG) rfl rfl hl.1 rfl (lv_room (Nat.le_of_ble_eq_true rfl)) dX10_date_4 ⟨by exact Nat.le_of_ble_eq_true rfl, by exact Nat.le_of_ble_eq_true rfl⟩) hG (c2 := 1) (s2 := 6) ⟨by exact Nat.le_of_ble_eq_true rfl, by exact Nat.le_of_ble_eq_true rfl⟩ (fun x M h ce q H locs hG h1 h2 h3 => ?_) (fun M h H locs hG => h.elim)
    rw [hQf]
    exact j_xout hlocks hout hG h h1 h2 h3 (by decide)

abbrev rm_X10_isBase : Room := { frames := 0, cells := 0, slots := 0, locals := 0 }
set_option maxRecDepth 100000 in
set_option maxHeartbeats 4000000 in
theorem A_X10_isBase (l : Launch) {D : va_G} {cy : Nat → ClassId} {o : Nat} {sK sV : Nat → Nat} {M : jT} {a0 : Int} (h : pg_X10_isBase a0) : CoI l yX10_isBase (wj yX10_isBase cX10_isBase 1 (some .boolean)) rm_X10_isBase D cy o sK sV M [.int (J a0)] (fun z M9 => z = b2i (pb_X10_isBase a0) ∧ M9 = M) := by
  refine j_ofW (cc := cX10_isBase) (maxL := 1) (ret := (some .boolean)) (by decide) rfl (Nat.le_of_ble_eq_true rfl) ?_
  intro p e s m args below meth c hx hb hr hlocks hml hown hts hK hSX H locs hG ls hl Qf hQf
  have hown : s.vm.findClass RX10 = some m.cls := hown
  have hl : lv_has ls 1 [(0, .int (J a0))] := hl
  unfold pg_X10_isBase at h
  refine lv_iload_n hx hb dX10_isBase_0 rfl (lv_at hl 0 rfl) ?_
  refine lv_sipush (v := J (-720)) hx hb dX10_isBase_1 (by decide) ?_
  obtain ⟨g2, h⟩ := h
  refine j_icmp_lt (tgt := 18) hx hb dX10_isBase_4 (by decide) g2 (by decide) (fun c1 => ?_) (fun c1 => ?_)
  · have h := h.1 c1
    refine lv_iconst (v := J 0) hx hb dX10_isBase_18 (by decide) ?_
    rw [hQf]
    exact j_iretn hx hb hr hlocks (nar_b (by decide)) hG ⟨(b2i_iff0 (iff_of_false (fun q8 => (show ¬ ((-720) ≤ a0) from by omega) q8.1) id)), rfl⟩ (by decide) dX10_isBase_19
  · have h := h.2 c1
    refine lv_iload_n hx hb dX10_isBase_7 rfl (lv_at hl 0 rfl) ?_
    refine lv_sipush (v := J 840) hx hb dX10_isBase_8 (by decide) ?_
    refine j_icmp_gt (tgt := 18) hx hb dX10_isBase_11 (by decide) g2 (by decide) (fun c3 => ?_) (fun c3 => ?_)
    · have h := h.1 c3
      refine lv_iconst (v := J 0) hx hb dX10_isBase_18 (by decide) ?_
      rw [hQf]
      exact j_iretn hx hb hr hlocks (nar_b (by decide)) hG ⟨(b2i_iff0 ((and_iff_right c1).trans (iff_of_false (show ¬ (a0 ≤ 840) from by omega) id))), rfl⟩ (by decide) dX10_isBase_19
    · have h := h.2 c3
      refine lv_iconst (v := J 1) hx hb dX10_isBase_14 (by decide) ?_
      refine lv_goto (tgt := 19) hx hb dX10_isBase_15 (by decide) ?_
      rw [hQf]
      exact j_iretn hx hb hr hlocks (nar_b (by decide)) hG ⟨(b2i_iff1 ((and_iff_right c1).trans (iff_of_true c3 trivial))), rfl⟩ (by decide) dX10_isBase_19

abbrev rm_X10_zoneFault : Room := { frames := 1, cells := 0, slots := 0, locals := 20 }
set_option maxRecDepth 100000 in
set_option maxHeartbeats 4000000 in
theorem A_X10_zoneFault (l : Launch) {D : va_G} {cy : Nat → ClassId} {o : Nat} {sK sV : Nat → Nat} {M : jT} {a0 : Int} {a1 : Int} (ka0 : kd a0 = 10) (h : pg_X10_zoneFault M a0 a1) : CoI l yX10_zoneFault (wj yX10_zoneFault cX10_zoneFault 2 (some .int)) rm_X10_zoneFault D cy o sK sV M [.ref (rA o a0), .int (J a1)] (fun z M9 => z = pf_X10_zoneFault M a0 a1 ∧ M9 = M) := by
  refine j_ofW (cc := cX10_zoneFault) (maxL := 2) (ret := (some .int)) (by decide) rfl (Nat.le_of_ble_eq_true rfl) ?_
  intro p e s m args below meth c hx hb hr hlocks hml hown hts hK hSX H locs hG ls hl Qf hQf
  have hown : s.vm.findClass RX10 = some m.cls := hown
  have hl : lv_has ls 2 [(0, .ref (rA o a0)), (1, .int (J a1))] := hl
  have w_fl_RX10_12 := hts _ (List.mem_cons_of_mem _ fl_RX10_12)
  have w_fl_RX10_443 := hts _ (List.mem_cons_of_mem _ fl_RX10_443)
  unfold pg_X10_zoneFault at h
  refine lv_iload_n hx hb dX10_zoneFault_0 rfl (lv_at hl 1 rfl) ?_
  obtain ⟨g1, h⟩ := h
  refine j_conti (va_runS (As := [.int (J a1)]) (rest := []) ⟨hx, hb, hml, hown, hts⟩ (A_X10_isBase l g1) (va_cwS 1 hts (gj_S ml_RX10_480 i_X10_isBase n_RX10 k_X10_isBase) rfl rfl rfl (by decide +kernel) ⟨by exact Nat.le_of_ble_eq_true rfl, by exact Nat.le_of_ble_eq_true rfl⟩) (j_preS hK hSX hG) rfl rfl hl.1 rfl (lv_room (Nat.le_of_ble_eq_true rfl)) dX10_zoneFault_1 ⟨by exact Nat.le_of_ble_eq_true rfl, by exact Nat.le_of_ble_eq_true rfl⟩) hG (c2 := 0) (s2 := 0) ⟨by exact Nat.le_of_ble_eq_true rfl, by exact Nat.le_of_ble_eq_true rfl⟩ (fun z2 M3 ez2 H locs hG => ?_)
  obtain ⟨ez2, eM3⟩ := ez2
  subst ez2
  rw [eM3] at hG
  refine j_if_ne_b (tgt := 9) hx hb dX10_zoneFault_4 (by decide) (fun c4 => ?_) (fun c4 => ?_)
  · have h := h.1 c4
    refine lv_aload_n hx hb dX10_zoneFault_9 rfl (lv_at hl 0 rfl) ?_
    refine j_getr hx hb hts hown hK hG (k := a0) (fun w h => List.mem_cons_of_mem _ (u_X10 w h)) (ci := 9) rfl ka0 0 (k2 := a0 + 1) (by decide) (by show a0 + (1 : Int) = a0 + 1; omega) w_fl_RX10_12 dX10_zoneFault_10 ?_
    refine j_geti hx hb hts hown hK hG (k := a0 + 1) (fun w h => List.mem_cons_of_mem _ (u_X0 w h)) (ci := 0) rfl (kf_10_0 ka0) 0 (by decide) (jz := 0) rfl w_fl_RX10_443 dX10_zoneFault_13 ?_
    refine lv_bipush (v := J 6) hx hb dX10_zoneFault_16 (by decide) ?_
    obtain ⟨g6, h⟩ := h
    refine j_icmp_ge (tgt := 25) hx hb dX10_zoneFault_18 (by decide) g6 (by decide) (fun c5 => ?_) (fun c5 => ?_)
    · have h := h.1 c5
      refine lv_iconst (v := J 3) hx hb dX10_zoneFault_25 (by decide) ?_
      rw [hQf]
      exact j_ireti hx hb hr hlocks hG ⟨(by unfold pf_X10_zoneFault; rw [if_pos c4, if_pos c5]), rfl⟩ (by decide) dX10_zoneFault_26
    · have h := h.2 c5
      refine lv_iconst (v := J 0) hx hb dX10_zoneFault_21 (by decide) ?_
      refine lv_goto (tgt := 26) hx hb dX10_zoneFault_22 (by decide) ?_
      rw [hQf]
      exact j_ireti hx hb hr hlocks hG ⟨(by unfold pf_X10_zoneFault; rw [if_pos c4, if_neg (show ¬ (6 ≤ M (a0 + 1) 0) from by omega)]), rfl⟩ (by decide) dX10_zoneFault_26
  · have h := h.2 c4
    refine lv_iconst (v := J 2) hx hb dX10_zoneFault_7 (by decide) ?_
    rw [hQf]
    exact j_ireti hx hb hr hlocks hG ⟨(by unfold pf_X10_zoneFault; rw [if_neg c4]), rfl⟩ (by decide) dX10_zoneFault_8

abbrev rom_X10_refuse : Room := { frames := 1, cells := 0, slots := 0, locals := 20 }
set_option maxRecDepth 100000 in
set_option maxHeartbeats 4000000 in
theorem Ao_X10_refuse (l : Launch) {D : va_G} {cy : Nat → ClassId} {o : Nat} {sK sV : Nat → Nat} {M : jT} {a0 : Int} {Q : Prop} (h : wo_X10_refuse M a0 Q) : CoV l yX10_refuse (wj yX10_refuse cX10_refuse 1 none) rom_X10_refuse D cy o sK sV M [.int (J a0)] (fun M9 => Q ∧ M9 = M) := by
  refine j_ofW (cc := cX10_refuse) (maxL := 1) (ret := none) (by decide) rfl (Nat.le_of_ble_eq_true rfl) ?_
  intro p e s m args below meth c hx hb hr hlocks hml hown hts hK hSX H locs hG ls hl Qf hQf
  have hown : s.vm.findClass RX10 = some m.cls := hown
  have hl : lv_has ls 1 [(0, .int (J a0))] := hl
  unfold wo_X10_refuse at h
  refine lv_iload_n hx hb dX10_refuse_0 rfl (lv_at hl 0 rfl) ?_
  refine lv_iconst (v := J 1) hx hb dX10_refuse_1 (by decide) ?_
  obtain ⟨hg, h⟩ := h
  have jK4 : ∀ x3 : Int, x3 = b2i (a0 ≠ 1) → ∀ (H : Heap) (locs : List Loc), GM D cy o M s.heap H locs → ∀ ls : Array Slot, lv_has ls 1 [(0, .int (J a0))] → W p l e rom_X10_refuse s m args below meth c H locs 0 0 Qf (F0 m 10 ls [.int (J x3)]) := by
    intro x3 ex3 H locs hG ls hl
    subst ex3
    refine j_contv (va_runS (As := [.int (J (b2i (a0 ≠ 1)))]) (rest := []) ⟨hx, hb, hml, hown, hts⟩ (Ao_X10_needIndex l h) (va_cwS 1 hts (gj_S ml_RX10_88 i_X10_needIndex n_RX10 k_X10_needIndex) rfl rfl rfl (by decide +kernel) ⟨by exact Nat.le_of_ble_eq_true rfl, by exact Nat.le_of_ble_eq_true rfl⟩) (j_preS hK hSX hG) rfl rfl hl.1 rfl (lv_room (Nat.le_of_ble_eq_true rfl)) dX10_refuse_10 ⟨by exact Nat.le_of_ble_eq_true rfl, by exact Nat.le_of_ble_eq_true rfl⟩) hG (c2 := 0) (s2 := 0) ⟨by exact Nat.le_of_ble_eq_true rfl, by exact Nat.le_of_ble_eq_true rfl⟩ (fun M8 h H locs hG => ?_)
    obtain ⟨h, eM8⟩ := h
    rw [eM8] at hG
    refine lv_iload_n hx hb dX10_refuse_13 rfl (lv_at hl 0 rfl) ?_
    refine lv_iconst (v := J 2) hx hb dX10_refuse_14 (by decide) ?_
    obtain ⟨hg, h⟩ := h
    have jK12 : ∀ x11 : Int, x11 = b2i (a0 ≠ 2) → ∀ (H : Heap) (locs : List Loc), GM D cy o M s.heap H locs → ∀ ls : Array Slot, lv_has ls 1 [(0, .int (J a0))] → W p l e rom_X10_refuse s m args below meth c H locs 0 0 Qf (F0 m 23 ls [.int (J x11)]) := by
      intro x11 ex11 H locs hG ls hl
      subst ex11
      refine j_contv (va_runS (As := [.int (J (b2i (a0 ≠ 2)))]) (rest := []) ⟨hx, hb, hml, hown, hts⟩ (Ao_X10_needArgument l h) (va_cwS 1 hts (gj_S ml_RX10_72 i_X10_needArgument n_RX10 k_X10_needArgument) rfl rfl rfl (by decide +kernel) ⟨by exact Nat.le_of_ble_eq_true rfl, by exact Nat.le_of_ble_eq_true rfl⟩) (j_preS hK hSX hG) rfl rfl hl.1 rfl (lv_room (Nat.le_of_ble_eq_true rfl)) dX10_refuse_23 ⟨by exact Nat.le_of_ble_eq_true rfl, by exact Nat.le_of_ble_eq_true rfl⟩) hG (c2 := 0) (s2 := 0) ⟨by exact Nat.le_of_ble_eq_true rfl, by exact Nat.le_of_ble_eq_true rfl⟩ (fun M16 h H locs hG => ?_)
      obtain ⟨h, eM16⟩ := h
      rw [eM16] at hG
      refine lv_iload_n hx hb dX10_refuse_26 rfl (lv_at hl 0 rfl) ?_
      refine lv_iconst (v := J 3) hx hb dX10_refuse_27 (by decide) ?_
      obtain ⟨g18, h⟩ := h
      refine j_icmp_ne (tgt := 42) hx hb dX10_refuse_28 (by decide) g18 (by decide) (fun c17 => ?_) (fun c17 => ?_)
      · have h := h.1 c17
        rw [hQf]
        exact j_vret hx hb hr hlocks hG ⟨h, rfl⟩ (by decide) dX10_refuse_42
      · have h := h.2 c17
        exact h.elim
    have h := hg
    obtain ⟨g14, h⟩ := h
    refine j_icmp_eq (tgt := 22) hx hb dX10_refuse_15 (by decide) g14 (by decide) (fun c13 => ?_) (fun c13 => ?_)
    · have h := h.1 c13
      refine lv_iconst (v := J 0) hx hb dX10_refuse_22 (by decide) ?_
      exact jK12 0 (b2i_iff0 (iff_of_false (show ¬ (a0 ≠ 2) from by omega) id)) H locs hG ls (lv_sub hl [0] rfl)
    · have h := h.2 c13
      refine lv_iconst (v := J 1) hx hb dX10_refuse_18 (by decide) ?_
      refine lv_goto (tgt := 23) hx hb dX10_refuse_19 (by decide) ?_
      exact jK12 1 (b2i_iff1 (iff_of_true c13 trivial)) H locs hG ls (lv_sub hl [0] rfl)
  have h := hg
  obtain ⟨g6, h⟩ := h
  refine j_icmp_eq (tgt := 9) hx hb dX10_refuse_2 (by decide) g6 (by decide) (fun c5 => ?_) (fun c5 => ?_)
  · have h := h.1 c5
    refine lv_iconst (v := J 0) hx hb dX10_refuse_9 (by decide) ?_
    exact jK4 0 (b2i_iff0 (iff_of_false (show ¬ (a0 ≠ 1) from by omega) id)) H locs hG ls (lv_sub hl [0] rfl)
  · have h := h.2 c5
    refine lv_iconst (v := J 1) hx hb dX10_refuse_5 (by decide) ?_
    refine lv_goto (tgt := 10) hx hb dX10_refuse_6 (by decide) ?_
    exact jK4 1 (b2i_iff1 (iff_of_true c5 trivial)) H locs hG ls (lv_sub hl [0] rfl)
abbrev rm_X10_refuse : Room := { frames := 7, cells := 1, slots := 6, locals := 110 }
set_option maxRecDepth 100000 in
set_option maxHeartbeats 4000000 in
theorem A_X10_refuse (l : Launch) (hst : l.stackTraces = false) {D : va_G} {cy : Nat → ClassId} {o : Nat} {sK sV : Nat → Nat} {M : jT} {a0 : Int} {Q : jT → Prop} {X : Nat → jT → Prop} (h : wp_X10_refuse M a0 Q X) : CxV l yX10_refuse (wj yX10_refuse cX10_refuse 1 none) rm_X10_refuse D cy o sK sV M [.int (J a0)] Q X := by
  refine j_ofWx (cc := cX10_refuse) (maxL := 1) (ret := none) (by decide) rfl (Nat.le_of_ble_eq_true rfl) ?_
  intro p e s m args below meth c hx hb hr hlocks hout hml hown hts hK hSX H locs hsz hG ls hl Qf hQf
  have hown : s.vm.findClass RX10 = some m.cls := hown
  have hl : lv_has ls 1 [(0, .int (J a0))] := hl
  unfold wp_X10_refuse at h
  refine lv_iload_n hx hb dX10_refuse_0 rfl (lv_at hl 0 rfl) ?_
  refine lv_iconst (v := J 1) hx hb dX10_refuse_1 (by decide) ?_
  obtain ⟨hg, h⟩ := h
  have jK4 : ∀ x3 : Int, x3 = b2i (a0 ≠ 1) → ∀ (H : Heap) (locs : List Loc), GM D cy o M s.heap H locs → ∀ ls : Array Slot, lv_has ls 1 [(0, .int (J a0))] → W p l e rm_X10_refuse s m args below meth c H locs 0 0 Qf (F0 m 10 ls [.int (J x3)]) := by
    intro x3 ex3 H locs hG ls hl
    subst ex3
    rcases h with h | h
    · refine j_contv (va_runS (As := [.int (J (b2i (a0 ≠ 1)))]) (rest := []) ⟨hx, hb, hml, hown, hts⟩ (Ao_X10_needIndex l h) (va_cwS 1 hts (gj_S ml_RX10_88 i_X10_needIndex n_RX10 k_X10_needIndex) rfl rfl rfl (by decide +kernel) ⟨by exact Nat.le_of_ble_eq_true rfl, by exact Nat.le_of_ble_eq_true rfl⟩) (j_preS hK hSX hG) rfl rfl hl.1 rfl (lv_room (Nat.le_of_ble_eq_true rfl)) dX10_refuse_10 ⟨by exact Nat.le_of_ble_eq_true rfl, by exact Nat.le_of_ble_eq_true rfl⟩) hG (c2 := 0) (s2 := 0) ⟨by exact Nat.le_of_ble_eq_true rfl, by exact Nat.le_of_ble_eq_true rfl⟩ (fun M8 h H locs hG => ?_)
      obtain ⟨h, eM8⟩ := h
      rw [eM8] at hG
      refine lv_iload_n hx hb dX10_refuse_13 rfl (lv_at hl 0 rfl) ?_
      refine lv_iconst (v := J 2) hx hb dX10_refuse_14 (by decide) ?_
      obtain ⟨hg, h⟩ := h
      have jK12 : ∀ x11 : Int, x11 = b2i (a0 ≠ 2) → ∀ (H : Heap) (locs : List Loc), GM D cy o M s.heap H locs → ∀ ls : Array Slot, lv_has ls 1 [(0, .int (J a0))] → W p l e rm_X10_refuse s m args below meth c H locs 0 0 Qf (F0 m 23 ls [.int (J x11)]) := by
        intro x11 ex11 H locs hG ls hl
        subst ex11
        rcases h with h | h
        · refine j_contv (va_runS (As := [.int (J (b2i (a0 ≠ 2)))]) (rest := []) ⟨hx, hb, hml, hown, hts⟩ (Ao_X10_needArgument l h) (va_cwS 1 hts (gj_S ml_RX10_72 i_X10_needArgument n_RX10 k_X10_needArgument) rfl rfl rfl (by decide +kernel) ⟨by exact Nat.le_of_ble_eq_true rfl, by exact Nat.le_of_ble_eq_true rfl⟩) (j_preS hK hSX hG) rfl rfl hl.1 rfl (lv_room (Nat.le_of_ble_eq_true rfl)) dX10_refuse_23 ⟨by exact Nat.le_of_ble_eq_true rfl, by exact Nat.le_of_ble_eq_true rfl⟩) hG (c2 := 0) (s2 := 0) ⟨by exact Nat.le_of_ble_eq_true rfl, by exact Nat.le_of_ble_eq_true rfl⟩ (fun M16 h H locs hG => ?_)
          obtain ⟨h, eM16⟩ := h
          rw [eM16] at hG
          refine lv_iload_n hx hb dX10_refuse_26 rfl (lv_at hl 0 rfl) ?_
          refine lv_iconst (v := J 3) hx hb dX10_refuse_27 (by decide) ?_
          obtain ⟨g18, h⟩ := h
          refine j_icmp_ne (tgt := 42) hx hb dX10_refuse_28 (by decide) g18 (by decide) (fun c17 => ?_) (fun c17 => ?_)
          · have h := h.1 c17
            rw [hQf]
            exact vx_ret (j_vret hx hb hr hlocks hG h (by decide) dX10_refuse_42)
          · have h := h.2 c17
            rw [hQf]
            exact j_throw (xn := 3) (si := 1) hx hb hst hts hown hSX hG (hml.trans hl.1.symm) (by decide +kernel) (List.mem_cons_of_mem _ xl_RX10_411) (List.mem_cons_of_mem _ xi_3) rfl (fun w h => List.mem_cons_of_mem _ (xg_RX10_415 w h)) xb_RX10_415 xo_RX10_415 rfl dX10_refuse_31 dX10_refuse_34 dX10_refuse_35 dX10_refuse_38 dX10_refuse_41 hout (by decide) (by exact Nat.le_of_ble_eq_true rfl) (by decide) (by decide) hlocks h (by decide)
        · refine j_contxv (vx_runS (As := [.int (J (b2i (a0 ≠ 2)))]) (rest := []) ⟨hx, hb, hml, hown, hts⟩ (A_X10_needArgument l hst h) (va_cwS 1 hts (gj_S ml_RX10_72 i_X10_needArgument n_RX10 k_X10_needArgument) rfl rfl rfl (by decide +kernel) ⟨by exact Nat.le_of_ble_eq_true rfl, by exact Nat.le_of_ble_eq_true rfl⟩) (j_preS hK hSX hG) rfl rfl hl.1 rfl (lv_room (Nat.le_of_ble_eq_true rfl)) dX10_refuse_23 ⟨by exact Nat.le_of_ble_eq_true rfl, by exact Nat.le_of_ble_eq_true rfl⟩) hG (c2 := 1) (s2 := 6) ⟨by exact Nat.le_of_ble_eq_true rfl, by exact Nat.le_of_ble_eq_true rfl⟩ (fun x M h ce q H locs hG h1 h2 h3 => ?_) (fun M h H locs hG => h.elim)
          rw [hQf]
          exact j_xout hlocks hout hG h h1 h2 h3 (by decide)
      have h := hg
      obtain ⟨g14, h⟩ := h
      refine j_icmp_eq (tgt := 22) hx hb dX10_refuse_15 (by decide) g14 (by decide) (fun c13 => ?_) (fun c13 => ?_)
      · have h := h.1 c13
        refine lv_iconst (v := J 0) hx hb dX10_refuse_22 (by decide) ?_
        exact jK12 0 (b2i_iff0 (iff_of_false (show ¬ (a0 ≠ 2) from by omega) id)) H locs hG ls (lv_sub hl [0] rfl)
      · have h := h.2 c13
        refine lv_iconst (v := J 1) hx hb dX10_refuse_18 (by decide) ?_
        refine lv_goto (tgt := 23) hx hb dX10_refuse_19 (by decide) ?_
        exact jK12 1 (b2i_iff1 (iff_of_true c13 trivial)) H locs hG ls (lv_sub hl [0] rfl)
    · refine j_contxv (vx_runS (As := [.int (J (b2i (a0 ≠ 1)))]) (rest := []) ⟨hx, hb, hml, hown, hts⟩ (A_X10_needIndex l hst h) (va_cwS 1 hts (gj_S ml_RX10_88 i_X10_needIndex n_RX10 k_X10_needIndex) rfl rfl rfl (by decide +kernel) ⟨by exact Nat.le_of_ble_eq_true rfl, by exact Nat.le_of_ble_eq_true rfl⟩) (j_preS hK hSX hG) rfl rfl hl.1 rfl (lv_room (Nat.le_of_ble_eq_true rfl)) dX10_refuse_10 ⟨by exact Nat.le_of_ble_eq_true rfl, by exact Nat.le_of_ble_eq_true rfl⟩) hG (c2 := 1) (s2 := 6) ⟨by exact Nat.le_of_ble_eq_true rfl, by exact Nat.le_of_ble_eq_true rfl⟩ (fun x M h ce q H locs hG h1 h2 h3 => ?_) (fun M h H locs hG => h.elim)
      rw [hQf]
      exact j_xout hlocks hout hG h h1 h2 h3 (by decide)
  have h := hg
  obtain ⟨g6, h⟩ := h
  refine j_icmp_eq (tgt := 9) hx hb dX10_refuse_2 (by decide) g6 (by decide) (fun c5 => ?_) (fun c5 => ?_)
  · have h := h.1 c5
    refine lv_iconst (v := J 0) hx hb dX10_refuse_9 (by decide) ?_
    exact jK4 0 (b2i_iff0 (iff_of_false (show ¬ (a0 ≠ 1) from by omega) id)) H locs hG ls (lv_sub hl [0] rfl)
  · have h := h.2 c5
    refine lv_iconst (v := J 1) hx hb dX10_refuse_5 (by decide) ?_
    refine lv_goto (tgt := 10) hx hb dX10_refuse_6 (by decide) ?_
    exact jK4 1 (b2i_iff1 (iff_of_true c5 trivial)) H locs hG ls (lv_sub hl [0] rfl)

abbrev rm_X9_copyFrom : Room := { frames := 1, cells := 0, slots := 0, locals := 60 }
set_option maxRecDepth 100000 in
set_option maxHeartbeats 4000000 in
theorem A_X9_copyFrom (l : Launch) {D : va_G} {cy : Nat → ClassId} {o : Nat} {sK sV : Nat → Nat} {M : jT} {a0 : Int} {a1 : Int} (ka0 : kd a0 = 9) (ka1 : kd a1 = 9) {Q : jT → Prop} (h : wp_X9_copyFrom M a0 a1 Q) : CoV l yX9_copyFrom (wj yX9_copyFrom cX9_copyFrom 2 none) rm_X9_copyFrom D cy o sK sV M [.ref (rA o a0), .ref (rA o a1)] Q := by
  refine j_ofW (cc := cX9_copyFrom) (maxL := 2) (ret := none) (by decide) rfl (Nat.le_of_ble_eq_true rfl) ?_
  intro p e s m args below meth c hx hb hr hlocks hml hown hts hK hSX H locs hG ls hl Qf hQf
  have hown : s.vm.findClass RX9 = some m.cls := hown
  have hl : lv_has ls 2 [(0, .ref (rA o a0)), (1, .ref (rA o a1))] := hl
  have w_fl_RX9_21 := hts _ (List.mem_cons_of_mem _ fl_RX9_21)
  have w_fl_RX9_25 := hts _ (List.mem_cons_of_mem _ fl_RX9_25)
  have w_fl_RX9_28 := hts _ (List.mem_cons_of_mem _ fl_RX9_28)
  have w_fl_RX9_9 := hts _ (List.mem_cons_of_mem _ fl_RX9_9)
  have w_fl_RX9_15 := hts _ (List.mem_cons_of_mem _ fl_RX9_15)
  have w_fl_RX9_18 := hts _ (List.mem_cons_of_mem _ fl_RX9_18)
  unfold wp_X9_copyFrom at h
  refine lv_aload_n hx hb dX9_copyFrom_0 rfl (lv_at hl 0 rfl) ?_
  refine lv_aload_n hx hb dX9_copyFrom_1 rfl (lv_at hl 1 rfl) ?_
  refine j_geti hx hb hts hown hK hG (k := a1) (fun w h => List.mem_cons_of_mem _ (u_X9 w h)) (ci := 8) rfl ka1 0 (by decide) (jz := 0) rfl w_fl_RX9_21 dX9_copyFrom_2 ?_
  refine j_puti hx hb hts hown hK hG (k := a0) (fun w h => List.mem_cons_of_mem _ (u_X9 w h)) tyX9 tyX9_ok nmX9 (ci := 8) rfl ka0 0 (by decide) (jz := 0) rfl w_fl_RX9_21 (hd := rfl) (hn := rfl) (hfit := rfl) (hdg := dX9_copyFrom_5) (fun M1 eM1 H locs hG => ?_)
  have h := h M1 eM1
  refine lv_aload_n hx hb dX9_copyFrom_8 rfl (lv_at hl 0 rfl) ?_
  refine lv_aload_n hx hb dX9_copyFrom_9 rfl (lv_at hl 1 rfl) ?_
  refine j_geti hx hb hts hown hK hG (k := a1) (fun w h => List.mem_cons_of_mem _ (u_X9 w h)) (ci := 8) rfl ka1 1 (by decide) (jz := 1) rfl w_fl_RX9_25 dX9_copyFrom_10 ?_
  refine j_puti hx hb hts hown hK hG (k := a0) (fun w h => List.mem_cons_of_mem _ (u_X9 w h)) tyX9 tyX9_ok nmX9 (ci := 8) rfl ka0 1 (by decide) (jz := 1) rfl w_fl_RX9_25 (hd := rfl) (hn := rfl) (hfit := rfl) (hdg := dX9_copyFrom_13) (fun M2 eM2 H locs hG => ?_)
  have h := h M2 eM2
  refine lv_aload_n hx hb dX9_copyFrom_16 rfl (lv_at hl 0 rfl) ?_
  refine lv_aload_n hx hb dX9_copyFrom_17 rfl (lv_at hl 1 rfl) ?_
  refine j_geti hx hb hts hown hK hG (k := a1) (fun w h => List.mem_cons_of_mem _ (u_X9 w h)) (ci := 8) rfl ka1 2 (by decide) (jz := 2) rfl w_fl_RX9_28 dX9_copyFrom_18 ?_
  refine j_puti hx hb hts hown hK hG (k := a0) (fun w h => List.mem_cons_of_mem _ (u_X9 w h)) tyX9 tyX9_ok nmX9 (ci := 8) rfl ka0 2 (by decide) (jz := 2) rfl w_fl_RX9_28 (hd := rfl) (hn := rfl) (hfit := rfl) (hdg := dX9_copyFrom_21) (fun M3 eM3 H locs hG => ?_)
  have h := h M3 eM3
  refine lv_aload_n hx hb dX9_copyFrom_24 rfl (lv_at hl 1 rfl) ?_
  refine j_getr hx hb hts hown hK hG (k := a1) (fun w h => List.mem_cons_of_mem _ (u_X9 w h)) (ci := 8) rfl ka1 3 (k2 := a1 + 1) (by decide) (by show a1 + (1 : Int) = a1 + 1; omega) w_fl_RX9_9 dX9_copyFrom_25 ?_
  refine lv_iconst (v := J 0) hx hb dX9_copyFrom_28 (by decide) ?_
  refine lv_aload_n hx hb dX9_copyFrom_29 rfl (lv_at hl 0 rfl) ?_
  refine j_getr hx hb hts hown hK hG (k := a0) (fun w h => List.mem_cons_of_mem _ (u_X9 w h)) (ci := 8) rfl ka0 3 (k2 := a0 + 1) (by decide) (by show a0 + (1 : Int) = a0 + 1; omega) w_fl_RX9_9 dX9_copyFrom_30 ?_
  refine lv_iconst (v := J 0) hx hb dX9_copyFrom_33 (by decide) ?_
  refine lv_aload_n hx hb dX9_copyFrom_34 rfl (lv_at hl 0 rfl) ?_
  refine j_geti hx hb hts hown hK hG (k := a0) (fun w h => List.mem_cons_of_mem _ (u_X9 w h)) (ci := 8) rfl ka0 1 (by decide) (jz := 1) rfl w_fl_RX9_25 dX9_copyFrom_35 ?_
  refine lv_bipush (v := J 7) hx hb dX9_copyFrom_38 (by decide) ?_
  refine j_imul hx hb dX9_copyFrom_40 ?_
  obtain ⟨g4, h⟩ := h
  refine j_copyi hx hb (hml.trans hl.1.symm) hown (hts _ (List.mem_cons_of_mem _ ml_RX9_31)) (hts _ (List.mem_cons_of_mem _ nt_arraycopy)) (hts _ (List.mem_cons_of_mem _ i_arraycopy)) (hts _ (List.mem_cons_of_mem _ n_System)) hK hG (n0 := 56) (n1 := 56) (kf_9_3 ka1) (kf_9_3 ka0) (by decide) (by decide) g4 (by exact Nat.le_of_ble_eq_true rfl) (by exact Nat.le_of_ble_eq_true rfl) dX9_copyFrom_41 (fun M5 eM5 H locs hG => ?_)
  have h := h M5 eM5
  refine lv_aload_n hx hb dX9_copyFrom_44 rfl (lv_at hl 1 rfl) ?_
  refine j_getr hx hb hts hown hK hG (k := a1) (fun w h => List.mem_cons_of_mem _ (u_X9 w h)) (ci := 8) rfl ka1 4 (k2 := a1 + 2) (by decide) (by show a1 + (2 : Int) = a1 + 2; omega) w_fl_RX9_15 dX9_copyFrom_45 ?_
  refine lv_iconst (v := J 0) hx hb dX9_copyFrom_48 (by decide) ?_
  refine lv_aload_n hx hb dX9_copyFrom_49 rfl (lv_at hl 0 rfl) ?_
  refine j_getr hx hb hts hown hK hG (k := a0) (fun w h => List.mem_cons_of_mem _ (u_X9 w h)) (ci := 8) rfl ka0 4 (k2 := a0 + 2) (by decide) (by show a0 + (2 : Int) = a0 + 2; omega) w_fl_RX9_15 dX9_copyFrom_50 ?_
  refine lv_iconst (v := J 0) hx hb dX9_copyFrom_53 (by decide) ?_
  refine lv_aload_n hx hb dX9_copyFrom_54 rfl (lv_at hl 0 rfl) ?_
  refine j_geti hx hb hts hown hK hG (k := a0) (fun w h => List.mem_cons_of_mem _ (u_X9 w h)) (ci := 8) rfl ka0 2 (by decide) (jz := 2) rfl w_fl_RX9_28 dX9_copyFrom_55 ?_
  obtain ⟨g6, h⟩ := h
  refine j_copyi hx hb (hml.trans hl.1.symm) hown (hts _ (List.mem_cons_of_mem _ ml_RX9_31)) (hts _ (List.mem_cons_of_mem _ nt_arraycopy)) (hts _ (List.mem_cons_of_mem _ i_arraycopy)) (hts _ (List.mem_cons_of_mem _ n_System)) hK hG (n0 := 4) (n1 := 4) (kf_9_4 ka1) (kf_9_4 ka0) (by decide) (by decide) g6 (by exact Nat.le_of_ble_eq_true rfl) (by exact Nat.le_of_ble_eq_true rfl) dX9_copyFrom_58 (fun M7 eM7 H locs hG => ?_)
  have h := h M7 eM7
  refine lv_aload_n hx hb dX9_copyFrom_61 rfl (lv_at hl 1 rfl) ?_
  refine j_getr hx hb hts hown hK hG (k := a1) (fun w h => List.mem_cons_of_mem _ (u_X9 w h)) (ci := 8) rfl ka1 5 (k2 := a1 + 3) (by decide) (by show a1 + (3 : Int) = a1 + 3; omega) w_fl_RX9_18 dX9_copyFrom_62 ?_
  refine lv_iconst (v := J 0) hx hb dX9_copyFrom_65 (by decide) ?_
  refine lv_aload_n hx hb dX9_copyFrom_66 rfl (lv_at hl 0 rfl) ?_
  refine j_getr hx hb hts hown hK hG (k := a0) (fun w h => List.mem_cons_of_mem _ (u_X9 w h)) (ci := 8) rfl ka0 5 (k2 := a0 + 3) (by decide) (by show a0 + (3 : Int) = a0 + 3; omega) w_fl_RX9_18 dX9_copyFrom_67 ?_
  refine lv_iconst (v := J 0) hx hb dX9_copyFrom_70 (by decide) ?_
  refine lv_aload_n hx hb dX9_copyFrom_71 rfl (lv_at hl 0 rfl) ?_
  refine j_geti hx hb hts hown hK hG (k := a0) (fun w h => List.mem_cons_of_mem _ (u_X9 w h)) (ci := 8) rfl ka0 2 (by decide) (jz := 2) rfl w_fl_RX9_28 dX9_copyFrom_72 ?_
  obtain ⟨g8, h⟩ := h
  refine j_copyi hx hb (hml.trans hl.1.symm) hown (hts _ (List.mem_cons_of_mem _ ml_RX9_31)) (hts _ (List.mem_cons_of_mem _ nt_arraycopy)) (hts _ (List.mem_cons_of_mem _ i_arraycopy)) (hts _ (List.mem_cons_of_mem _ n_System)) hK hG (n0 := 4) (n1 := 4) (kf_9_5 ka1) (kf_9_5 ka0) (by decide) (by decide) g8 (by exact Nat.le_of_ble_eq_true rfl) (by exact Nat.le_of_ble_eq_true rfl) dX9_copyFrom_75 (fun M9 eM9 H locs hG => ?_)
  have h := h M9 eM9
  rw [hQf]
  exact j_vret hx hb hr hlocks hG h (by decide) dX9_copyFrom_78

abbrev rm_X4_copyFrom : Room := { frames := 1, cells := 0, slots := 0, locals := 60 }
set_option maxRecDepth 100000 in
set_option maxHeartbeats 4000000 in
theorem A_X4_copyFrom (l : Launch) {D : va_G} {cy : Nat → ClassId} {o : Nat} {sK sV : Nat → Nat} {M : jT} {a0 : Int} {a1 : Int} (ka0 : kd a0 = 4) (ka1 : kd a1 = 4) {Q : jT → Prop} (h : wp_X4_copyFrom M a0 a1 Q) : CoV l yX4_copyFrom (wj yX4_copyFrom cX4_copyFrom 2 none) rm_X4_copyFrom D cy o sK sV M [.ref (rA o a0), .ref (rA o a1)] Q := by
  refine j_ofW (cc := cX4_copyFrom) (maxL := 2) (ret := none) (by decide) rfl (Nat.le_of_ble_eq_true rfl) ?_
  intro p e s m args below meth c hx hb hr hlocks hml hown hts hK hSX H locs hG ls hl Qf hQf
  have hown : s.vm.findClass RX4 = some m.cls := hown
  have hl : lv_has ls 2 [(0, .ref (rA o a0)), (1, .ref (rA o a1))] := hl
  have w_fl_RX4_15 := hts _ (List.mem_cons_of_mem _ fl_RX4_15)
  have w_fl_RX4_19 := hts _ (List.mem_cons_of_mem _ fl_RX4_19)
  have w_fl_RX4_22 := hts _ (List.mem_cons_of_mem _ fl_RX4_22)
  have w_fl_RX4_25 := hts _ (List.mem_cons_of_mem _ fl_RX4_25)
  have w_fl_RX4_28 := hts _ (List.mem_cons_of_mem _ fl_RX4_28)
  have w_fl_RX4_31 := hts _ (List.mem_cons_of_mem _ fl_RX4_31)
  have w_fl_RX4_38 := hts _ (List.mem_cons_of_mem _ fl_RX4_38)
  have w_fl_RX4_41 := hts _ (List.mem_cons_of_mem _ fl_RX4_41)
  have w_fl_RX4_44 := hts _ (List.mem_cons_of_mem _ fl_RX4_44)
  have w_fl_RX4_47 := hts _ (List.mem_cons_of_mem _ fl_RX4_47)
  have w_fl_RX4_9 := hts _ (List.mem_cons_of_mem _ fl_RX4_9)
  unfold wp_X4_copyFrom at h
  refine lv_aload_n hx hb dX4_copyFrom_0 rfl (lv_at hl 0 rfl) ?_
  refine lv_aload_n hx hb dX4_copyFrom_1 rfl (lv_at hl 1 rfl) ?_
  refine j_geti hx hb hts hown hK hG (k := a1) (fun w h => List.mem_cons_of_mem _ (u_X4 w h)) (ci := 3) rfl ka1 0 (by decide) (jz := 0) rfl w_fl_RX4_15 dX4_copyFrom_2 ?_
  refine j_puti hx hb hts hown hK hG (k := a0) (fun w h => List.mem_cons_of_mem _ (u_X4 w h)) tyX4 tyX4_ok nmX4 (ci := 3) rfl ka0 0 (by decide) (jz := 0) rfl w_fl_RX4_15 (hd := rfl) (hn := rfl) (hfit := rfl) (hdg := dX4_copyFrom_5) (fun M1 eM1 H locs hG => ?_)
  have h := h M1 eM1
  refine lv_aload_n hx hb dX4_copyFrom_8 rfl (lv_at hl 0 rfl) ?_
  refine lv_aload_n hx hb dX4_copyFrom_9 rfl (lv_at hl 1 rfl) ?_
  refine j_geti hx hb hts hown hK hG (k := a1) (fun w h => List.mem_cons_of_mem _ (u_X4 w h)) (ci := 3) rfl ka1 1 (by decide) (jz := 1) rfl w_fl_RX4_19 dX4_copyFrom_10 ?_
  refine j_puti hx hb hts hown hK hG (k := a0) (fun w h => List.mem_cons_of_mem _ (u_X4 w h)) tyX4 tyX4_ok nmX4 (ci := 3) rfl ka0 1 (by decide) (jz := 1) rfl w_fl_RX4_19 (hd := rfl) (hn := rfl) (hfit := rfl) (hdg := dX4_copyFrom_13) (fun M2 eM2 H locs hG => ?_)
  have h := h M2 eM2
  refine lv_aload_n hx hb dX4_copyFrom_16 rfl (lv_at hl 0 rfl) ?_
  refine lv_aload_n hx hb dX4_copyFrom_17 rfl (lv_at hl 1 rfl) ?_
  refine j_geti hx hb hts hown hK hG (k := a1) (fun w h => List.mem_cons_of_mem _ (u_X4 w h)) (ci := 3) rfl ka1 2 (by decide) (jz := 2) rfl w_fl_RX4_22 dX4_copyFrom_18 ?_
  refine j_puti hx hb hts hown hK hG (k := a0) (fun w h => List.mem_cons_of_mem _ (u_X4 w h)) tyX4 tyX4_ok nmX4 (ci := 3) rfl ka0 2 (by decide) (jz := 2) rfl w_fl_RX4_22 (hd := rfl) (hn := rfl) (hfit := rfl) (hdg := dX4_copyFrom_21) (fun M3 eM3 H locs hG => ?_)
  have h := h M3 eM3
  refine lv_aload_n hx hb dX4_copyFrom_24 rfl (lv_at hl 0 rfl) ?_
  refine lv_aload_n hx hb dX4_copyFrom_25 rfl (lv_at hl 1 rfl) ?_
  refine j_geti hx hb hts hown hK hG (k := a1) (fun w h => List.mem_cons_of_mem _ (u_X4 w h)) (ci := 3) rfl ka1 3 (by decide) (jz := 3) rfl w_fl_RX4_25 dX4_copyFrom_26 ?_
  refine j_puti hx hb hts hown hK hG (k := a0) (fun w h => List.mem_cons_of_mem _ (u_X4 w h)) tyX4 tyX4_ok nmX4 (ci := 3) rfl ka0 3 (by decide) (jz := 3) rfl w_fl_RX4_25 (hd := rfl) (hn := rfl) (hfit := rfl) (hdg := dX4_copyFrom_29) (fun M4 eM4 H locs hG => ?_)
  have h := h M4 eM4
  refine lv_aload_n hx hb dX4_copyFrom_32 rfl (lv_at hl 0 rfl) ?_
  refine lv_aload_n hx hb dX4_copyFrom_33 rfl (lv_at hl 1 rfl) ?_
  refine j_geti hx hb hts hown hK hG (k := a1) (fun w h => List.mem_cons_of_mem _ (u_X4 w h)) (ci := 3) rfl ka1 4 (by decide) (jz := 4) rfl w_fl_RX4_28 dX4_copyFrom_34 ?_
  refine j_puti hx hb hts hown hK hG (k := a0) (fun w h => List.mem_cons_of_mem _ (u_X4 w h)) tyX4 tyX4_ok nmX4 (ci := 3) rfl ka0 4 (by decide) (jz := 4) rfl w_fl_RX4_28 (hd := rfl) (hn := rfl) (hfit := rfl) (hdg := dX4_copyFrom_37) (fun M5 eM5 H locs hG => ?_)
  have h := h M5 eM5
  refine lv_aload_n hx hb dX4_copyFrom_40 rfl (lv_at hl 0 rfl) ?_
  refine lv_aload_n hx hb dX4_copyFrom_41 rfl (lv_at hl 1 rfl) ?_
  refine j_geti hx hb hts hown hK hG (k := a1) (fun w h => List.mem_cons_of_mem _ (u_X4 w h)) (ci := 3) rfl ka1 5 (by decide) (jz := 5) rfl w_fl_RX4_31 dX4_copyFrom_42 ?_
  refine j_puti hx hb hts hown hK hG (k := a0) (fun w h => List.mem_cons_of_mem _ (u_X4 w h)) tyX4 tyX4_ok nmX4 (ci := 3) rfl ka0 5 (by decide) (jz := 5) rfl w_fl_RX4_31 (hd := rfl) (hn := rfl) (hfit := rfl) (hdg := dX4_copyFrom_45) (fun M6 eM6 H locs hG => ?_)
  have h := h M6 eM6
  refine lv_aload_n hx hb dX4_copyFrom_48 rfl (lv_at hl 0 rfl) ?_
  refine lv_aload_n hx hb dX4_copyFrom_49 rfl (lv_at hl 1 rfl) ?_
  refine j_geti hx hb hts hown hK hG (k := a1) (fun w h => List.mem_cons_of_mem _ (u_X4 w h)) (ci := 3) rfl ka1 6 (by decide) (jz := 6) rfl w_fl_RX4_38 dX4_copyFrom_50 ?_
  refine j_puti hx hb hts hown hK hG (k := a0) (fun w h => List.mem_cons_of_mem _ (u_X4 w h)) tyX4 tyX4_ok nmX4 (ci := 3) rfl ka0 6 (by decide) (jz := 6) rfl w_fl_RX4_38 (hd := rfl) (hn := rfl) (hfit := rfl) (hdg := dX4_copyFrom_53) (fun M7 eM7 H locs hG => ?_)
  have h := h M7 eM7
  refine lv_aload_n hx hb dX4_copyFrom_56 rfl (lv_at hl 0 rfl) ?_
  refine lv_aload_n hx hb dX4_copyFrom_57 rfl (lv_at hl 1 rfl) ?_
  refine j_geti hx hb hts hown hK hG (k := a1) (fun w h => List.mem_cons_of_mem _ (u_X4 w h)) (ci := 3) rfl ka1 7 (by decide) (jz := 7) rfl w_fl_RX4_41 dX4_copyFrom_58 ?_
  refine j_puti hx hb hts hown hK hG (k := a0) (fun w h => List.mem_cons_of_mem _ (u_X4 w h)) tyX4 tyX4_ok nmX4 (ci := 3) rfl ka0 7 (by decide) (jz := 7) rfl w_fl_RX4_41 (hd := rfl) (hn := rfl) (hfit := rfl) (hdg := dX4_copyFrom_61) (fun M8 eM8 H locs hG => ?_)
  have h := h M8 eM8
  refine lv_aload_n hx hb dX4_copyFrom_64 rfl (lv_at hl 0 rfl) ?_
  refine lv_aload_n hx hb dX4_copyFrom_65 rfl (lv_at hl 1 rfl) ?_
  refine j_geti hx hb hts hown hK hG (k := a1) (fun w h => List.mem_cons_of_mem _ (u_X4 w h)) (ci := 3) rfl ka1 8 (by decide) (jz := 8) rfl w_fl_RX4_44 dX4_copyFrom_66 ?_
  refine j_puti hx hb hts hown hK hG (k := a0) (fun w h => List.mem_cons_of_mem _ (u_X4 w h)) tyX4 tyX4_ok nmX4 (ci := 3) rfl ka0 8 (by decide) (jz := 8) rfl w_fl_RX4_44 (hd := rfl) (hn := rfl) (hfit := rfl) (hdg := dX4_copyFrom_69) (fun M9 eM9 H locs hG => ?_)
  have h := h M9 eM9
  refine lv_aload_n hx hb dX4_copyFrom_72 rfl (lv_at hl 0 rfl) ?_
  refine lv_aload_n hx hb dX4_copyFrom_73 rfl (lv_at hl 1 rfl) ?_
  refine j_getl hx hb hts hown hK hG (k := a1) (fun w h => List.mem_cons_of_mem _ (u_X4 w h)) (ci := 3) rfl ka1 9 (by decide) (jz := 9) rfl w_fl_RX4_47 dX4_copyFrom_74 ?_
  refine j_putl hx hb hts hown hK hG (k := a0) (fun w h => List.mem_cons_of_mem _ (u_X4 w h)) tyX4 tyX4_ok nmX4 (ci := 3) rfl ka0 9 (by decide) (jz := 9) rfl w_fl_RX4_47 rfl dX4_copyFrom_77 (fun M10 eM10 H locs hG => ?_)
  have h := h M10 eM10
  refine lv_aload_n hx hb dX4_copyFrom_80 rfl (lv_at hl 1 rfl) ?_
  refine j_getr hx hb hts hown hK hG (k := a1) (fun w h => List.mem_cons_of_mem _ (u_X4 w h)) (ci := 3) rfl ka1 10 (k2 := a1 + 1) (by decide) (by show a1 + (1 : Int) = a1 + 1; omega) w_fl_RX4_9 dX4_copyFrom_81 ?_
  refine lv_iconst (v := J 0) hx hb dX4_copyFrom_84 (by decide) ?_
  refine lv_aload_n hx hb dX4_copyFrom_85 rfl (lv_at hl 0 rfl) ?_
  refine j_getr hx hb hts hown hK hG (k := a0) (fun w h => List.mem_cons_of_mem _ (u_X4 w h)) (ci := 3) rfl ka0 10 (k2 := a0 + 1) (by decide) (by show a0 + (1 : Int) = a0 + 1; omega) w_fl_RX4_9 dX4_copyFrom_86 ?_
  refine lv_iconst (v := J 0) hx hb dX4_copyFrom_89 (by decide) ?_
  refine lv_bipush (v := J 40) hx hb dX4_copyFrom_90 (by decide) ?_
  obtain ⟨g11, h⟩ := h
  refine j_copyi hx hb (hml.trans hl.1.symm) hown (hts _ (List.mem_cons_of_mem _ ml_RX4_51)) (hts _ (List.mem_cons_of_mem _ nt_arraycopy)) (hts _ (List.mem_cons_of_mem _ i_arraycopy)) (hts _ (List.mem_cons_of_mem _ n_System)) hK hG (n0 := 40) (n1 := 40) (kf_4_10 ka1) (kf_4_10 ka0) (by decide) (by decide) g11 (by exact Nat.le_of_ble_eq_true rfl) (by exact Nat.le_of_ble_eq_true rfl) dX4_copyFrom_92 (fun M12 eM12 H locs hG => ?_)
  have h := h M12 eM12
  rw [hQf]
  exact j_vret hx hb hr hlocks hG h (by decide) dX4_copyFrom_95

abbrev rm_X0_copyFrom : Room := { frames := 2, cells := 0, slots := 0, locals := 81 }
set_option maxRecDepth 100000 in
set_option maxHeartbeats 4000000 in
theorem A_X0_copyFrom (l : Launch) {D : va_G} {cy : Nat → ClassId} {o : Nat} {sK sV : Nat → Nat} {M : jT} {a0 : Int} {a1 : Int} (ka0 : kd a0 = 1) (ka1 : kd a1 = 1) {Q : jT → Prop} (h : wp_X0_copyFrom M a0 a1 Q) : CoV l yX0_copyFrom (wj yX0_copyFrom cX0_copyFrom 3 none) rm_X0_copyFrom D cy o sK sV M [.ref (rA o a0), .ref (rA o a1)] Q := by
  refine j_ofW (cc := cX0_copyFrom) (maxL := 3) (ret := none) (by decide) rfl (Nat.le_of_ble_eq_true rfl) ?_
  intro p e s m args below meth c hx hb hr hlocks hml hown hts hK hSX H locs hG ls hl Qf hQf
  have hown : s.vm.findClass RX0 = some m.cls := hown
  have hl : lv_has ls 3 [(0, .ref (rA o a0)), (1, .ref (rA o a1))] := hl
  have w_fl_RX0_25 := hts _ (List.mem_cons_of_mem _ fl_RX0_25)
  have w_fl_RX0_29 := hts _ (List.mem_cons_of_mem _ fl_RX0_29)
  have w_fl_RX0_19 := hts _ (List.mem_cons_of_mem _ fl_RX0_19)
  have w_fl_RX0_11 := hts _ (List.mem_cons_of_mem _ fl_RX0_11)
  unfold wp_X0_copyFrom at h
  refine lv_aload_n hx hb dX0_copyFrom_0 rfl (lv_at hl 0 rfl) ?_
  refine lv_aload_n hx hb dX0_copyFrom_1 rfl (lv_at hl 1 rfl) ?_
  refine j_geti hx hb hts hown hK hG (k := a1) (fun w h => List.mem_cons_of_mem _ (u_X0 w h)) (ci := 0) rfl ka1 0 (by decide) (jz := 0) rfl w_fl_RX0_25 dX0_copyFrom_2 ?_
  refine j_puti hx hb hts hown hK hG (k := a0) (fun w h => List.mem_cons_of_mem _ (u_X0 w h)) tyX0 tyX0_ok nmX0 (ci := 0) rfl ka0 0 (by decide) (jz := 0) rfl w_fl_RX0_25 (hd := rfl) (hn := rfl) (hfit := rfl) (hdg := dX0_copyFrom_5) (fun M1 eM1 H locs hG => ?_)
  have h := h M1 eM1
  refine lv_aload_n hx hb dX0_copyFrom_8 rfl (lv_at hl 0 rfl) ?_
  refine lv_aload_n hx hb dX0_copyFrom_9 rfl (lv_at hl 1 rfl) ?_
  refine j_geti hx hb hts hown hK hG (k := a1) (fun w h => List.mem_cons_of_mem _ (u_X0 w h)) (ci := 0) rfl ka1 1 (by decide) (jz := 1) rfl w_fl_RX0_29 dX0_copyFrom_10 ?_
  refine j_puti hx hb hts hown hK hG (k := a0) (fun w h => List.mem_cons_of_mem _ (u_X0 w h)) tyX0 tyX0_ok nmX0 (ci := 0) rfl ka0 1 (by decide) (jz := 1) rfl w_fl_RX0_29 (hd := rfl) (hn := rfl) (hfit := rfl) (hdg := dX0_copyFrom_13) (fun M2 eM2 H locs hG => ?_)
  have h := h M2 eM2
  refine lv_iconst (v := J 0) hx hb dX0_copyFrom_16 (by decide) ?_
  refine lv_istore_n (lv' := [(2, .int (J 0)), (0, .ref (rA o a0)), (1, .ref (rA o a1))]) hx hb dX0_copyFrom_17 rfl hl (by decide) rfl (fun ls hl => ?_)
  obtain ⟨I5, ⟨n6s, iI5⟩, qI5⟩ := h
  have lI5 : ∀ (n6 : Nat) (x3 : Int) (M4 : jT), I5 n6 x3 M4 → ∀ (H : Heap) (locs : List Loc), GM D cy o M4 s.heap H locs → ∀ ls : Array Slot, lv_has ls 3 [(0, .ref (rA o a0)), (1, .ref (rA o a1)), (2, .int (J x3))] → W p l e rm_X0_copyFrom s m args below meth c H locs 0 0 Qf (F0 m 18 ls []) := by
    intro n6
    induction n6 using Nat.strongRecOn with
    | ind n6 rI5 =>
      intro x3 M4 iI5 H locs hG ls hl
      have h := qI5 n6 x3 M4 iI5
      refine lv_iload_n hx hb dX0_copyFrom_18 rfl (lv_at hl 2 rfl) ?_
      refine lv_aload_n hx hb dX0_copyFrom_19 rfl (lv_at hl 0 rfl) ?_
      refine j_geti hx hb hts hown hK hG (k := a0) (fun w h => List.mem_cons_of_mem _ (u_X0 w h)) (ci := 0) rfl ka0 0 (by decide) (jz := 0) rfl w_fl_RX0_25 dX0_copyFrom_20 ?_
      obtain ⟨g8, h⟩ := h
      obtain ⟨g9, h⟩ := h
      refine j_icmp_ge (tgt := 47) hx hb dX0_copyFrom_23 (by decide) g8 g9 (fun c7 => ?_) (fun c7 => ?_)
      · have h := h.1 c7
        refine lv_iconst (v := J 0) hx hb dX0_copyFrom_47 (by decide) ?_
        refine lv_istore_n (lv' := [(2, .int (J 0)), (0, .ref (rA o a0)), (1, .ref (rA o a1))]) hx hb dX0_copyFrom_48 rfl hl (by decide) rfl (fun ls hl => ?_)
        obtain ⟨I12, ⟨n13s, iI12⟩, qI12⟩ := h
        have lI12 : ∀ (n13 : Nat) (x10 : Int) (M11 : jT), I12 n13 x10 M11 → ∀ (H : Heap) (locs : List Loc), GM D cy o M11 s.heap H locs → ∀ ls : Array Slot, lv_has ls 3 [(0, .ref (rA o a0)), (1, .ref (rA o a1)), (2, .int (J x10))] → W p l e rm_X0_copyFrom s m args below meth c H locs 0 0 Qf (F0 m 49 ls []) := by
          intro n13
          induction n13 using Nat.strongRecOn with
          | ind n13 rI12 =>
            intro x10 M11 iI12 H locs hG ls hl
            have h := qI12 n13 x10 M11 iI12
            refine lv_iload_n hx hb dX0_copyFrom_49 rfl (lv_at hl 2 rfl) ?_
            refine lv_aload_n hx hb dX0_copyFrom_50 rfl (lv_at hl 0 rfl) ?_
            refine j_geti hx hb hts hown hK hG (k := a0) (fun w h => List.mem_cons_of_mem _ (u_X0 w h)) (ci := 0) rfl ka0 1 (by decide) (jz := 1) rfl w_fl_RX0_29 dX0_copyFrom_51 ?_
            obtain ⟨g15, h⟩ := h
            obtain ⟨g16, h⟩ := h
            refine j_icmp_ge (tgt := 78) hx hb dX0_copyFrom_54 (by decide) g15 g16 (fun c14 => ?_) (fun c14 => ?_)
            · have h := h.1 c14
              rw [hQf]
              exact j_vret hx hb hr hlocks hG h (by decide) dX0_copyFrom_78
            · have h := h.2 c14
              refine lv_aload_n hx hb dX0_copyFrom_57 rfl (lv_at hl 0 rfl) ?_
              refine j_getr hx hb hts hown hK hG (k := a0) (fun w h => List.mem_cons_of_mem _ (u_X0 w h)) (ci := 0) rfl ka0 3 (k2 := a0 + 2) (by decide) (by show a0 + (2 : Int) = a0 + 2; omega) w_fl_RX0_19 dX0_copyFrom_58 ?_
              refine lv_iload_n hx hb dX0_copyFrom_61 rfl (lv_at hl 2 rfl) ?_
              obtain ⟨g17, h⟩ := h
              refine j_aald hx hb hK hG (t := 21) (t0 := 4) (k2 := a0 + 2 * x10 + 27) (kf_1_3 ka0) (by decide) rfl g17 (by simp only [ra_21]; omega) dX0_copyFrom_62 ?_
              have k18 : kd (a0 + 2 * x10 + 27) = 4 := by have q9 := (ka_21 (kf_1_3 ka0) g17); rwa [show (a0 + 2) + 25 + 2 * x10 = a0 + 2 * x10 + 27 from by omega] at q9
              refine lv_aload_n hx hb dX0_copyFrom_63 rfl (lv_at hl 1 rfl) ?_
              refine j_getr hx hb hts hown hK hG (k := a1) (fun w h => List.mem_cons_of_mem _ (u_X0 w h)) (ci := 0) rfl ka1 3 (k2 := a1 + 2) (by decide) (by show a1 + (2 : Int) = a1 + 2; omega) w_fl_RX0_19 dX0_copyFrom_64 ?_
              refine lv_iload_n hx hb dX0_copyFrom_67 rfl (lv_at hl 2 rfl) ?_
              refine j_aald hx hb hK hG (t := 21) (t0 := 4) (k2 := a1 + 2 * x10 + 27) (kf_1_3 ka1) (by decide) rfl g17 (by simp only [ra_21]; omega) dX0_copyFrom_68 ?_
              have k19 : kd (a1 + 2 * x10 + 27) = 4 := by have q9 := (ka_21 (kf_1_3 ka1) g17); rwa [show (a1 + 2) + 25 + 2 * x10 = a1 + 2 * x10 + 27 from by omega] at q9
              refine j_contv (va_runV (As := [.ref (rA o (a1 + 2 * x10 + 27))]) (rest := []) ⟨hx, hb, hml, hown, hts⟩ (A_X4_copyFrom l k18 k19 h) (cwV 1 hts (gj_V ml_RX0_36 i_X4_copyFrom s_X4_copyFrom n_RX4 k_X4_copyFrom) rfl rfl rfl (by decide +kernel) ⟨by exact Nat.le_of_ble_eq_true rfl, by exact Nat.le_of_ble_eq_true rfl⟩) (j_preV hK hSX hG (ci := 3) rfl k18 (by decide)) rfl rfl hl.1 rfl (lv_room (Nat.le_of_ble_eq_true rfl)) dX0_copyFrom_69 ⟨by exact Nat.le_of_ble_eq_true rfl, by exact Nat.le_of_ble_eq_true rfl⟩) hG (c2 := 0) (s2 := 0) ⟨by exact Nat.le_of_ble_eq_true rfl, by exact Nat.le_of_ble_eq_true rfl⟩ (fun M21 h H locs hG => ?_)
              refine j_iinc hx hb dX0_copyFrom_72 hl (k := 2) rfl (by decide) (fun x22 ex22 ls hl => ?_)
              have h := h x22 ex22
              have hl : lv_has ls 3 [(2, .int (J x22)), (0, .ref (rA o a0)), (1, .ref (rA o a1))] := hl
              refine lv_goto (tgt := 49) hx hb dX0_copyFrom_75 (by decide) ?_
              obtain ⟨n23, ln23, iI12⟩ := h
              exact rI12 n23 ln23 x22 M21 iI12 H locs hG ls (lv_sub hl [1, 2, 0] rfl)
        exact lI12 n13s 0 M4 iI12 H locs hG ls (lv_sub hl [1, 2, 0] rfl)
      · have h := h.2 c7
        refine lv_aload_n hx hb dX0_copyFrom_26 rfl (lv_at hl 0 rfl) ?_
        refine j_getr hx hb hts hown hK hG (k := a0) (fun w h => List.mem_cons_of_mem _ (u_X0 w h)) (ci := 0) rfl ka0 2 (k2 := a0 + 1) (by decide) (by show a0 + (1 : Int) = a0 + 1; omega) w_fl_RX0_11 dX0_copyFrom_27 ?_
        refine lv_iload_n hx hb dX0_copyFrom_30 rfl (lv_at hl 2 rfl) ?_
        obtain ⟨g24, h⟩ := h
        refine j_aald hx hb hK hG (t := 20) (t0 := 3) (k2 := a0 + 4 * x3 + 3) (kf_1_2 ka0) (by decide) rfl g24 (by simp only [ra_20]; omega) dX0_copyFrom_31 ?_
        have k25 : kd (a0 + 4 * x3 + 3) = 9 := by have q9 := (ka_20 (kf_1_2 ka0) g24); rwa [show (a0 + 1) + 2 + 4 * x3 = a0 + 4 * x3 + 3 from by omega] at q9
        refine lv_aload_n hx hb dX0_copyFrom_32 rfl (lv_at hl 1 rfl) ?_
        refine j_getr hx hb hts hown hK hG (k := a1) (fun w h => List.mem_cons_of_mem _ (u_X0 w h)) (ci := 0) rfl ka1 2 (k2 := a1 + 1) (by decide) (by show a1 + (1 : Int) = a1 + 1; omega) w_fl_RX0_11 dX0_copyFrom_33 ?_
        refine lv_iload_n hx hb dX0_copyFrom_36 rfl (lv_at hl 2 rfl) ?_
        refine j_aald hx hb hK hG (t := 20) (t0 := 3) (k2 := a1 + 4 * x3 + 3) (kf_1_2 ka1) (by decide) rfl g24 (by simp only [ra_20]; omega) dX0_copyFrom_37 ?_
        have k26 : kd (a1 + 4 * x3 + 3) = 9 := by have q9 := (ka_20 (kf_1_2 ka1) g24); rwa [show (a1 + 1) + 2 + 4 * x3 = a1 + 4 * x3 + 3 from by omega] at q9
        refine j_contv (va_runV (As := [.ref (rA o (a1 + 4 * x3 + 3))]) (rest := []) ⟨hx, hb, hml, hown, hts⟩ (A_X9_copyFrom l k25 k26 h) (cwV 1 hts (gj_V ml_RX0_32 i_X9_copyFrom s_X9_copyFrom n_RX9 k_X9_copyFrom) rfl rfl rfl (by decide +kernel) ⟨by exact Nat.le_of_ble_eq_true rfl, by exact Nat.le_of_ble_eq_true rfl⟩) (j_preV hK hSX hG (ci := 8) rfl k25 (by decide)) rfl rfl hl.1 rfl (lv_room (Nat.le_of_ble_eq_true rfl)) dX0_copyFrom_38 ⟨by exact Nat.le_of_ble_eq_true rfl, by exact Nat.le_of_ble_eq_true rfl⟩) hG (c2 := 0) (s2 := 0) ⟨by exact Nat.le_of_ble_eq_true rfl, by exact Nat.le_of_ble_eq_true rfl⟩ (fun M28 h H locs hG => ?_)
        refine j_iinc hx hb dX0_copyFrom_41 hl (k := 2) rfl (by decide) (fun x29 ex29 ls hl => ?_)
        have h := h x29 ex29
        have hl : lv_has ls 3 [(2, .int (J x29)), (0, .ref (rA o a0)), (1, .ref (rA o a1))] := hl
        refine lv_goto (tgt := 18) hx hb dX0_copyFrom_44 (by decide) ?_
        obtain ⟨n30, ln30, iI5⟩ := h
        exact rI5 n30 ln30 x29 M28 iI5 H locs hG ls (lv_sub hl [1, 2, 0] rfl)
  exact lI5 n6s 0 M2 iI5 H locs hG ls (lv_sub hl [1, 2, 0] rfl)

abbrev rm_X3_keep : Room := { frames := 3, cells := 0, slots := 0, locals := 103 }
set_option maxRecDepth 100000 in
set_option maxHeartbeats 4000000 in
theorem A_X3_keep (l : Launch) {D : va_G} {cy : Nat → ClassId} {o : Nat} {sK sV : Nat → Nat} {M : jT} {a0 : Int} {a1 : Int} (ka0 : kd a0 = 3) (ka1 : kd a1 = 1) {Q : jT → Prop} (h : wp_X3_keep M a0 a1 Q) : CoV l yX3_keep (wj yX3_keep cX3_keep 2 none) rm_X3_keep D cy o sK sV M [.ref (rA o a0), .ref (rA o a1)] Q := by
  refine j_ofW (cc := cX3_keep) (maxL := 2) (ret := none) (by decide) rfl (Nat.le_of_ble_eq_true rfl) ?_
  intro p e s m args below meth c hx hb hr hlocks hml hown hts hK hSX H locs hG ls hl Qf hQf
  have hown : s.vm.findClass RX3 = some m.cls := hown
  have hl : lv_has ls 2 [(0, .ref (rA o a0)), (1, .ref (rA o a1))] := hl
  have w_fl_RX3_18 := hts _ (List.mem_cons_of_mem _ fl_RX3_18)
  have w_fl_RX3_22 := hts _ (List.mem_cons_of_mem _ fl_RX3_22)
  unfold wp_X3_keep at h
  refine lv_aload_n hx hb dX3_keep_0 rfl (lv_at hl 0 rfl) ?_
  refine j_getr hx hb hts hown hK hG (k := a0) (fun w h => List.mem_cons_of_mem _ (u_X3 w h)) (ci := 2) rfl ka0 4 (k2 := a0 + 48) (by decide) (by show a0 + (48 : Int) = a0 + 48; omega) w_fl_RX3_18 dX3_keep_1 ?_
  refine lv_aload_n hx hb dX3_keep_4 rfl (lv_at hl 0 rfl) ?_
  refine j_geti hx hb hts hown hK hG (k := a0) (fun w h => List.mem_cons_of_mem _ (u_X3 w h)) (ci := 2) rfl ka0 3 (by decide) (jz := 3) rfl w_fl_RX3_22 dX3_keep_5 ?_
  obtain ⟨g1, h⟩ := h
  refine j_aald hx hb hK hG (t := 22) (t0 := 5) (k2 := a0 + 47 * (M a0 3) + 49) (kf_3_4 ka0) (by decide) rfl g1 (by simp only [ra_22]; omega) dX3_keep_8 ?_
  have k2 : kd (a0 + 47 * (M a0 3) + 49) = 1 := by have q9 := (ka_22 (kf_3_4 ka0) g1); rwa [show (a0 + 48) + 1 + 47 * (M a0 3) = a0 + 47 * (M a0 3) + 49 from by omega] at q9
  refine lv_aload_n hx hb dX3_keep_9 rfl (lv_at hl 1 rfl) ?_
  refine j_contv (va_runV (As := [.ref (rA o a1)]) (rest := []) ⟨hx, hb, hml, hown, hts⟩ (A_X0_copyFrom l k2 ka1 h) (cwV 1 hts (gj_V ml_RX3_26 i_X0_copyFrom s_X0_copyFrom n_RX0 k_X0_copyFrom) rfl rfl rfl (by decide +kernel) ⟨by exact Nat.le_of_ble_eq_true rfl, by exact Nat.le_of_ble_eq_true rfl⟩) (j_preV hK hSX hG (ci := 0) rfl k2 (by decide)) rfl rfl hl.1 rfl (lv_room (Nat.le_of_ble_eq_true rfl)) dX3_keep_10 ⟨by exact Nat.le_of_ble_eq_true rfl, by exact Nat.le_of_ble_eq_true rfl⟩) hG (c2 := 0) (s2 := 0) ⟨by exact Nat.le_of_ble_eq_true rfl, by exact Nat.le_of_ble_eq_true rfl⟩ (fun M4 h H locs hG => ?_)
  rw [hQf]
  exact j_vret hx hb hr hlocks hG h (by decide) dX3_keep_13

abbrev rm_X3_push : Room := { frames := 1, cells := 0, slots := 0, locals := 21 }
set_option maxRecDepth 100000 in
set_option maxHeartbeats 4000000 in
theorem A_X3_push (l : Launch) {D : va_G} {cy : Nat → ClassId} {o : Nat} {sK sV : Nat → Nat} {M : jT} {a0 : Int} (ka0 : kd a0 = 3) {Q : jT → Prop} (h : wp_X3_push M a0 Q) : CoV l yX3_push (wj yX3_push cX3_push 1 none) rm_X3_push D cy o sK sV M [.ref (rA o a0)] Q := by
  refine j_ofW (cc := cX3_push) (maxL := 1) (ret := none) (by decide) rfl (Nat.le_of_ble_eq_true rfl) ?_
  intro p e s m args below meth c hx hb hr hlocks hml hown hts hK hSX H locs hG ls hl Qf hQf
  have hown : s.vm.findClass RX3 = some m.cls := hown
  have hl : lv_has ls 1 [(0, .ref (rA o a0))] := hl
  have w_fl_RX3_22 := hts _ (List.mem_cons_of_mem _ fl_RX3_22)
  have w_fl_RX3_30 := hts _ (List.mem_cons_of_mem _ fl_RX3_30)
  unfold wp_X3_push at h
  refine lv_aload_n hx hb dX3_push_0 rfl (lv_at hl 0 rfl) ?_
  refine lv_aload_n hx hb dX3_push_1 rfl (lv_at hl 0 rfl) ?_
  refine j_geti hx hb hts hown hK hG (k := a0) (fun w h => List.mem_cons_of_mem _ (u_X3 w h)) (ci := 2) rfl ka0 3 (by decide) (jz := 3) rfl w_fl_RX3_22 dX3_push_2 ?_
  refine lv_iconst (v := J 1) hx hb dX3_push_5 (by decide) ?_
  refine j_iadd hx hb dX3_push_6 ?_
  refine lv_bipush (v := J 9) hx hb dX3_push_7 (by decide) ?_
  obtain ⟨g1, h⟩ := h
  refine j_irem hx hb dX3_push_9 g1 (by decide) ?_
  refine j_puti hx hb hts hown hK hG (k := a0) (fun w h => List.mem_cons_of_mem _ (u_X3 w h)) tyX3 tyX3_ok nmX3 (ci := 2) rfl ka0 3 (by decide) (jz := 3) rfl w_fl_RX3_22 (hd := rfl) (hn := rfl) (hfit := rfl) (hdg := dX3_push_10) (fun M2 eM2 H locs hG => ?_)
  have h := h M2 eM2
  refine lv_aload_n hx hb dX3_push_13 rfl (lv_at hl 0 rfl) ?_
  refine lv_aload_n hx hb dX3_push_14 rfl (lv_at hl 0 rfl) ?_
  refine j_geti hx hb hts hown hK hG (k := a0) (fun w h => List.mem_cons_of_mem _ (u_X3 w h)) (ci := 2) rfl ka0 0 (by decide) (jz := 0) rfl w_fl_RX3_30 dX3_push_15 ?_
  refine lv_iconst (v := J 1) hx hb dX3_push_18 (by decide) ?_
  refine j_iadd hx hb dX3_push_19 ?_
  refine lv_bipush (v := J 8) hx hb dX3_push_20 (by decide) ?_
  obtain ⟨g3, h⟩ := h
  refine j_mmin hx hb (hml.trans hl.1.symm) hown (hts _ (List.mem_cons_of_mem _ ml_RX3_33)) (hts _ (List.mem_cons_of_mem _ i_mmin)) (hts _ (List.mem_cons_of_mem _ n_Math)) (hts _ (List.mem_cons_of_mem _ k_mmin)) (by exact Nat.le_of_ble_eq_true rfl) (by exact Nat.le_of_ble_eq_true rfl) (by exact Nat.le_of_ble_eq_true rfl) (by exact Nat.le_of_ble_eq_true rfl) g3 (by decide) dX3_push_22 ?_
  refine j_puti hx hb hts hown hK hG (k := a0) (fun w h => List.mem_cons_of_mem _ (u_X3 w h)) tyX3 tyX3_ok nmX3 (ci := 2) rfl ka0 0 (by decide) (jz := 0) rfl w_fl_RX3_30 (hd := rfl) (hn := rfl) (hfit := rfl) (hdg := dX3_push_25) (fun M4 eM4 H locs hG => ?_)
  have h := h M4 eM4
  rw [hQf]
  exact j_vret hx hb hr hlocks hG h (by decide) dX3_push_28

abbrev rm_X10_remember : Room := { frames := 4, cells := 0, slots := 0, locals := 124 }
set_option maxRecDepth 100000 in
set_option maxHeartbeats 4000000 in
theorem A_X10_remember (l : Launch) {D : va_G} {cy : Nat → ClassId} {o : Nat} {sK sV : Nat → Nat} {M : jT} {a0 : Int} (ka0 : kd a0 = 10) {Q : jT → Prop} (h : wp_X10_remember M a0 Q) : CoV l yX10_remember (wj yX10_remember cX10_remember 1 none) rm_X10_remember D cy o sK sV M [.ref (rA o a0)] Q := by
  refine j_ofW (cc := cX10_remember) (maxL := 1) (ret := none) (by decide) rfl (Nat.le_of_ble_eq_true rfl) ?_
  intro p e s m args below meth c hx hb hr hlocks hml hown hts hK hSX H locs hG ls hl Qf hQf
  have hown : s.vm.findClass RX10 = some m.cls := hown
  have hl : lv_has ls 1 [(0, .ref (rA o a0))] := hl
  have w_fl_RX10_19 := hts _ (List.mem_cons_of_mem _ fl_RX10_19)
  have w_fl_RX10_12 := hts _ (List.mem_cons_of_mem _ fl_RX10_12)
  unfold wp_X10_remember at h
  refine lv_aload_n hx hb dX10_remember_0 rfl (lv_at hl 0 rfl) ?_
  refine j_getr hx hb hts hown hK hG (k := a0) (fun w h => List.mem_cons_of_mem _ (u_X10 w h)) (ci := 9) rfl ka0 1 (k2 := a0 + 48) (by decide) (by show a0 + (48 : Int) = a0 + 48; omega) w_fl_RX10_19 dX10_remember_1 ?_
  refine lv_aload_n hx hb dX10_remember_4 rfl (lv_at hl 0 rfl) ?_
  refine j_getr hx hb hts hown hK hG (k := a0) (fun w h => List.mem_cons_of_mem _ (u_X10 w h)) (ci := 9) rfl ka0 0 (k2 := a0 + 1) (by decide) (by show a0 + (1 : Int) = a0 + 1; omega) w_fl_RX10_12 dX10_remember_5 ?_
  refine j_contv (va_runV (As := [.ref (rA o (a0 + 1))]) (rest := []) ⟨hx, hb, hml, hown, hts⟩ (A_X3_keep l (kf_10_1 ka0) (kf_10_0 ka0) h) (cwV 1 hts (gj_V ml_RX10_389 i_X3_keep s_X3_keep n_RX3 k_X3_keep) rfl rfl rfl (by decide +kernel) ⟨by exact Nat.le_of_ble_eq_true rfl, by exact Nat.le_of_ble_eq_true rfl⟩) (j_preV hK hSX hG (ci := 2) rfl (kf_10_1 ka0) (by decide)) rfl rfl hl.1 rfl (lv_room (Nat.le_of_ble_eq_true rfl)) dX10_remember_8 ⟨by exact Nat.le_of_ble_eq_true rfl, by exact Nat.le_of_ble_eq_true rfl⟩) hG (c2 := 0) (s2 := 0) ⟨by exact Nat.le_of_ble_eq_true rfl, by exact Nat.le_of_ble_eq_true rfl⟩ (fun M2 h H locs hG => ?_)
  refine lv_aload_n hx hb dX10_remember_11 rfl (lv_at hl 0 rfl) ?_
  refine j_getr hx hb hts hown hK hG (k := a0) (fun w h => List.mem_cons_of_mem _ (u_X10 w h)) (ci := 9) rfl ka0 1 (k2 := a0 + 48) (by decide) (by show a0 + (48 : Int) = a0 + 48; omega) w_fl_RX10_19 dX10_remember_12 ?_
  refine j_contv (va_runV (As := []) (rest := []) ⟨hx, hb, hml, hown, hts⟩ (A_X3_push l (kf_10_1 ka0) h) (cwV 0 hts (gj_V ml_RX10_418 i_X3_push s_X3_push n_RX3 k_X3_push) rfl rfl rfl (by decide +kernel) ⟨by exact Nat.le_of_ble_eq_true rfl, by exact Nat.le_of_ble_eq_true rfl⟩) (j_preV hK hSX hG (ci := 2) rfl (kf_10_1 ka0) (by decide)) rfl rfl hl.1 rfl (lv_room (Nat.le_of_ble_eq_true rfl)) dX10_remember_15 ⟨by exact Nat.le_of_ble_eq_true rfl, by exact Nat.le_of_ble_eq_true rfl⟩) hG (c2 := 0) (s2 := 0) ⟨by exact Nat.le_of_ble_eq_true rfl, by exact Nat.le_of_ble_eq_true rfl⟩ (fun M4 h H locs hG => ?_)
  rw [hQf]
  exact j_vret hx hb hr hlocks hG h (by decide) dX10_remember_18

abbrev rm_X9_begin : Room := { frames := 0, cells := 0, slots := 0, locals := 0 }
set_option maxRecDepth 100000 in
set_option maxHeartbeats 4000000 in
theorem A_X9_begin (l : Launch) {D : va_G} {cy : Nat → ClassId} {o : Nat} {sK sV : Nat → Nat} {M : jT} {a0 : Int} {a1 : Int} (ka0 : kd a0 = 9) {Q : jT → Prop} (h : wp_X9_begin M a0 a1 Q) : CoV l yX9_begin (wj yX9_begin cX9_begin 2 none) rm_X9_begin D cy o sK sV M [.ref (rA o a0), .int (J a1)] Q := by
  refine j_ofW (cc := cX9_begin) (maxL := 2) (ret := none) (by decide) rfl (Nat.le_of_ble_eq_true rfl) ?_
  intro p e s m args below meth c hx hb hr hlocks hml hown hts hK hSX H locs hG ls hl Qf hQf
  have hown : s.vm.findClass RX9 = some m.cls := hown
  have hl : lv_has ls 2 [(0, .ref (rA o a0)), (1, .int (J a1))] := hl
  have w_fl_RX9_21 := hts _ (List.mem_cons_of_mem _ fl_RX9_21)
  have w_fl_RX9_25 := hts _ (List.mem_cons_of_mem _ fl_RX9_25)
  have w_fl_RX9_28 := hts _ (List.mem_cons_of_mem _ fl_RX9_28)
  unfold wp_X9_begin at h
  refine lv_aload_n hx hb dX9_begin_0 rfl (lv_at hl 0 rfl) ?_
  refine lv_iload_n hx hb dX9_begin_1 rfl (lv_at hl 1 rfl) ?_
  refine j_puti hx hb hts hown hK hG (k := a0) (fun w h => List.mem_cons_of_mem _ (u_X9 w h)) tyX9 tyX9_ok nmX9 (ci := 8) rfl ka0 0 (by decide) (jz := 0) rfl w_fl_RX9_21 (hd := rfl) (hn := rfl) (hfit := rfl) (hdg := dX9_begin_2) (fun M1 eM1 H locs hG => ?_)
  have h := h M1 eM1
  refine lv_aload_n hx hb dX9_begin_5 rfl (lv_at hl 0 rfl) ?_
  refine lv_iconst (v := J 0) hx hb dX9_begin_6 (by decide) ?_
  refine j_puti hx hb hts hown hK hG (k := a0) (fun w h => List.mem_cons_of_mem _ (u_X9 w h)) tyX9 tyX9_ok nmX9 (ci := 8) rfl ka0 1 (by decide) (jz := 1) rfl w_fl_RX9_25 (hd := rfl) (hn := rfl) (hfit := rfl) (hdg := dX9_begin_7) (fun M2 eM2 H locs hG => ?_)
  have h := h M2 eM2
  refine lv_aload_n hx hb dX9_begin_10 rfl (lv_at hl 0 rfl) ?_
  refine lv_iconst (v := J 0) hx hb dX9_begin_11 (by decide) ?_
  refine j_puti hx hb hts hown hK hG (k := a0) (fun w h => List.mem_cons_of_mem _ (u_X9 w h)) tyX9 tyX9_ok nmX9 (ci := 8) rfl ka0 2 (by decide) (jz := 2) rfl w_fl_RX9_28 (hd := rfl) (hn := rfl) (hfit := rfl) (hdg := dX9_begin_12) (fun M3 eM3 H locs hG => ?_)
  have h := h M3 eM3
  rw [hQf]
  exact j_vret hx hb hr hlocks hG h (by decide) dX9_begin_15

abbrev rm_X10_spoil : Room := { frames := 0, cells := 0, slots := 0, locals := 0 }
set_option maxRecDepth 100000 in
set_option maxHeartbeats 4000000 in
theorem A_X10_spoil (l : Launch) {D : va_G} {cy : Nat → ClassId} {o : Nat} {sK sV : Nat → Nat} {M : jT} {a0 : Int} {a1 : Int} (ka0 : kd a0 = 10) {Q : jT → Prop} (h : wp_X10_spoil M a0 a1 Q) : CoV l yX10_spoil (wj yX10_spoil cX10_spoil 3 none) rm_X10_spoil D cy o sK sV M [.ref (rA o a0), .int (J a1)] Q := by
  refine j_ofW (cc := cX10_spoil) (maxL := 3) (ret := none) (by decide) rfl (Nat.le_of_ble_eq_true rfl) ?_
  intro p e s m args below meth c hx hb hr hlocks hml hown hts hK hSX H locs hG ls hl Qf hQf
  have hown : s.vm.findClass RX10 = some m.cls := hown
  have hl : lv_has ls 3 [(0, .ref (rA o a0)), (1, .int (J a1))] := hl
  have w_fl_RX10_25 := hts _ (List.mem_cons_of_mem _ fl_RX10_25)
  have w_fl_RX10_516 := hts _ (List.mem_cons_of_mem _ fl_RX10_516)
  have w_fl_RX10_32 := hts _ (List.mem_cons_of_mem _ fl_RX10_32)
  have w_fl_RX10_307 := hts _ (List.mem_cons_of_mem _ fl_RX10_307)
  unfold wp_X10_spoil at h
  refine lv_aload_n hx hb dX10_spoil_0 rfl (lv_at hl 0 rfl) ?_
  refine j_getr hx hb hts hown hK hG (k := a0) (fun w h => List.mem_cons_of_mem _ (u_X10 w h)) (ci := 9) rfl ka0 2 (k2 := a0 + 520) (by decide) (by show a0 + (520 : Int) = a0 + 520; omega) w_fl_RX10_25 dX10_spoil_1 ?_
  refine lv_iload_n hx hb dX10_spoil_4 rfl (lv_at hl 1 rfl) ?_
  obtain ⟨g1, h⟩ := h
  refine j_aald hx hb hK hG (t := 23) (t0 := 6) (k2 := a0 + 8 * a1 + 521) (kf_10_2 ka0) (by decide) rfl g1 (by simp only [ra_23]; omega) dX10_spoil_5 ?_
  have k2 : kd (a0 + 8 * a1 + 521) = 7 := by have q9 := (ka_23 (kf_10_2 ka0) g1); rwa [show (a0 + 520) + 1 + 8 * a1 = a0 + 8 * a1 + 521 from by omega] at q9
  refine lv_iconst (v := J 0) hx hb dX10_spoil_6 (by decide) ?_
  refine j_puti hx hb hts hown hK hG (k := a0 + 8 * a1 + 521) (fun w h => List.mem_cons_of_mem _ (u_X7 w h)) tyX7 tyX7_ok nmX7 (ci := 6) rfl k2 0 (by decide) (jz := 0) rfl w_fl_RX10_516 (hd := rfl) (hn := nar_b (by decide)) (hfit := fit_b (by decide)) (hdg := dX10_spoil_7) (fun M3 eM3 H locs hG => ?_)
  have h := h M3 eM3
  refine lv_iconst (v := J 0) hx hb dX10_spoil_10 (by decide) ?_
  refine lv_istore_n (lv' := [(2, .int (J 0)), (0, .ref (rA o a0)), (1, .int (J a1))]) hx hb dX10_spoil_11 rfl hl (by decide) rfl (fun ls hl => ?_)
  obtain ⟨I6, ⟨n7s, iI6⟩, qI6⟩ := h
  have lI6 : ∀ (n7 : Nat) (x4 : Int) (M5 : jT), I6 n7 x4 M5 → ∀ (H : Heap) (locs : List Loc), GM D cy o M5 s.heap H locs → ∀ ls : Array Slot, lv_has ls 3 [(0, .ref (rA o a0)), (2, .int (J x4))] → W p l e rm_X10_spoil s m args below meth c H locs 0 0 Qf (F0 m 12 ls []) := by
    intro n7
    induction n7 using Nat.strongRecOn with
    | ind n7 rI6 =>
      intro x4 M5 iI6 H locs hG ls hl
      have h := qI6 n7 x4 M5 iI6
      refine lv_iload_n hx hb dX10_spoil_12 rfl (lv_at hl 1 rfl) ?_
      refine lv_bipush (v := J 10) hx hb dX10_spoil_13 (by decide) ?_
      obtain ⟨g9, h⟩ := h
      refine j_icmp_ge (tgt := 34) hx hb dX10_spoil_15 (by decide) g9 (by decide) (fun c8 => ?_) (fun c8 => ?_)
      · have h := h.1 c8
        rw [hQf]
        exact j_vret hx hb hr hlocks hG h (by decide) dX10_spoil_34
      · have h := h.2 c8
        refine lv_aload_n hx hb dX10_spoil_18 rfl (lv_at hl 0 rfl) ?_
        refine j_getr hx hb hts hown hK hG (k := a0) (fun w h => List.mem_cons_of_mem _ (u_X10 w h)) (ci := 9) rfl ka0 3 (k2 := a0 + 569) (by decide) (by show a0 + (569 : Int) = a0 + 569; omega) w_fl_RX10_32 dX10_spoil_19 ?_
        refine lv_iload_n hx hb dX10_spoil_22 rfl (lv_at hl 1 rfl) ?_
        obtain ⟨g10, h⟩ := h
        refine j_aald hx hb hK hG (t := 24) (t0 := 7) (k2 := a0 + 3 * x4 + 570) (kf_10_3 ka0) (by decide) rfl g10 (by simp only [ra_24]; omega) dX10_spoil_23 ?_
        have k11 : kd (a0 + 3 * x4 + 570) = 5 := by have q9 := (ka_24 (kf_10_3 ka0) g10); rwa [show (a0 + 569) + 1 + 3 * x4 = a0 + 3 * x4 + 570 from by omega] at q9
        refine lv_iconst (v := J 0) hx hb dX10_spoil_24 (by decide) ?_
        refine j_puti hx hb hts hown hK hG (k := a0 + 3 * x4 + 570) (fun w h => List.mem_cons_of_mem _ (u_X5 w h)) tyX5 tyX5_ok nmX5 (ci := 4) rfl k11 1 (by decide) (jz := 1) rfl w_fl_RX10_307 (hd := rfl) (hn := nar_b (by decide)) (hfit := fit_b (by decide)) (hdg := dX10_spoil_25) (fun M12 eM12 H locs hG => ?_)
        have h := h M12 eM12
        refine j_iinc hx hb dX10_spoil_28 hl (k := 1) rfl (by decide) (fun x13 ex13 ls hl => ?_)
        have h := h x13 ex13
        have hl : lv_has ls 3 [(2, .int (J x13)), (0, .ref (rA o a0))] := hl
        refine lv_goto (tgt := 12) hx hb dX10_spoil_31 (by decide) ?_
        obtain ⟨n14, ln14, iI6⟩ := h
        exact rI6 n14 ln14 x13 M12 iI6 H locs hG ls (lv_sub hl [1, 0] rfl)
  exact lI6 n7s 0 M3 iI6 H locs hG ls (lv_sub hl [1, 0] rfl)

abbrev rm_X10_putZone : Room := { frames := 1, cells := 0, slots := 0, locals := 22 }
set_option maxRecDepth 100000 in
set_option maxHeartbeats 4000000 in
theorem A_X10_putZone (l : Launch) {D : va_G} {cy : Nat → ClassId} {o : Nat} {sK sV : Nat → Nat} {M : jT} {a0 : Int} {a1 : Int} (ka0 : kd a0 = 10) {Q : Int → jT → Prop} (h : wp_X10_putZone M a0 a1 Q) : CoI l yX10_putZone (wj yX10_putZone cX10_putZone 3 (some .int)) rm_X10_putZone D cy o sK sV M [.ref (rA o a0), .int (J a1)] Q := by
  refine j_ofW (cc := cX10_putZone) (maxL := 3) (ret := (some .int)) (by decide) rfl (Nat.le_of_ble_eq_true rfl) ?_
  intro p e s m args below meth c hx hb hr hlocks hml hown hts hK hSX H locs hG ls hl Qf hQf
  have hown : s.vm.findClass RX10 = some m.cls := hown
  have hl : lv_has ls 3 [(0, .ref (rA o a0)), (1, .int (J a1))] := hl
  have w_fl_RX10_12 := hts _ (List.mem_cons_of_mem _ fl_RX10_12)
  have w_fl_RX10_443 := hts _ (List.mem_cons_of_mem _ fl_RX10_443)
  have w_fl_RX10_140 := hts _ (List.mem_cons_of_mem _ fl_RX10_140)
  unfold wp_X10_putZone at h
  refine lv_aload_n hx hb dX10_putZone_0 rfl (lv_at hl 0 rfl) ?_
  refine j_getr hx hb hts hown hK hG (k := a0) (fun w h => List.mem_cons_of_mem _ (u_X10 w h)) (ci := 9) rfl ka0 0 (k2 := a0 + 1) (by decide) (by show a0 + (1 : Int) = a0 + 1; omega) w_fl_RX10_12 dX10_putZone_1 ?_
  refine j_geti hx hb hts hown hK hG (k := a0 + 1) (fun w h => List.mem_cons_of_mem _ (u_X0 w h)) (ci := 0) rfl (kf_10_0 ka0) 0 (by decide) (jz := 0) rfl w_fl_RX10_443 dX10_putZone_4 ?_
  refine j_topi (fun x1 ex1 => ?_)
  have h := h x1 ex1
  refine lv_istore_n (lv' := [(2, .int (J x1)), (0, .ref (rA o a0)), (1, .int (J a1))]) hx hb dX10_putZone_7 rfl hl (by decide) rfl (fun ls hl => ?_)
  refine lv_aload_n hx hb dX10_putZone_8 rfl (lv_at hl 1 rfl) ?_
  refine j_getr hx hb hts hown hK hG (k := a0) (fun w h => List.mem_cons_of_mem _ (u_X10 w h)) (ci := 9) rfl ka0 0 (k2 := a0 + 1) (by decide) (by show a0 + (1 : Int) = a0 + 1; omega) w_fl_RX10_12 dX10_putZone_9 ?_
  refine j_getr hx hb hts hown hK hG (k := a0 + 1) (fun w h => List.mem_cons_of_mem _ (u_X0 w h)) (ci := 0) rfl (kf_10_0 ka0) 2 (k2 := a0 + 2) (by decide) (by show (a0 + 1) + (1 : Int) = a0 + 2; omega) w_fl_RX10_140 dX10_putZone_12 ?_
  refine lv_iload_n hx hb dX10_putZone_15 rfl (lv_at hl 0 rfl) ?_
  obtain ⟨g2, h⟩ := h
  refine j_aald hx hb hK hG (t := 20) (t0 := 3) (k2 := a0 + 4 * x1 + 4) (show kd (a0 + 2) = 20 from (show (a0 + 1) + 1 = a0 + 2 from by omega) ▸ (kf_1_2 (kf_10_0 ka0))) (by decide) rfl g2 (by simp only [ra_20]; omega) dX10_putZone_16 ?_
  have k3 : kd (a0 + 4 * x1 + 4) = 9 := by have q9 := (ka_20 (show kd (a0 + 2) = 20 from (show (a0 + 1) + 1 = a0 + 2 from by omega) ▸ (kf_1_2 (kf_10_0 ka0))) g2); rwa [show (a0 + 2) + 2 + 4 * x1 = a0 + 4 * x1 + 4 from by omega] at q9
  refine lv_iload_n hx hb dX10_putZone_17 rfl (lv_at hl 2 rfl) ?_
  refine j_contv (va_runV (As := [.int (J a1)]) (rest := []) ⟨hx, hb, hml, hown, hts⟩ (A_X9_begin l k3 h) (cwV 1 hts (gj_V ml_RX10_483 i_X9_begin s_X9_begin n_RX9 k_X9_begin) rfl rfl rfl (by decide +kernel) ⟨by exact Nat.le_of_ble_eq_true rfl, by exact Nat.le_of_ble_eq_true rfl⟩) (j_preV hK hSX hG (ci := 8) rfl k3 (by decide)) rfl rfl hl.1 rfl (lv_room (Nat.le_of_ble_eq_true rfl)) dX10_putZone_18 ⟨by exact Nat.le_of_ble_eq_true rfl, by exact Nat.le_of_ble_eq_true rfl⟩) hG (c2 := 0) (s2 := 0) ⟨by exact Nat.le_of_ble_eq_true rfl, by exact Nat.le_of_ble_eq_true rfl⟩ (fun M5 h H locs hG => ?_)
  refine lv_aload_n hx hb dX10_putZone_21 rfl (lv_at hl 1 rfl) ?_
  refine j_getr hx hb hts hown hK hG (k := a0) (fun w h => List.mem_cons_of_mem _ (u_X10 w h)) (ci := 9) rfl ka0 0 (k2 := a0 + 1) (by decide) (by show a0 + (1 : Int) = a0 + 1; omega) w_fl_RX10_12 dX10_putZone_22 ?_
  refine lv_iload_n hx hb dX10_putZone_25 rfl (lv_at hl 0 rfl) ?_
  refine lv_iconst (v := J 1) hx hb dX10_putZone_26 (by decide) ?_
  refine j_iadd hx hb dX10_putZone_27 ?_
  refine j_puti hx hb hts hown hK hG (k := a0 + 1) (fun w h => List.mem_cons_of_mem _ (u_X0 w h)) tyX0 tyX0_ok nmX0 (ci := 0) rfl (kf_10_0 ka0) 0 (by decide) (jz := 0) rfl w_fl_RX10_443 (hd := rfl) (hn := rfl) (hfit := rfl) (hdg := dX10_putZone_28) (fun M6 eM6 H locs hG => ?_)
  have h := h M6 eM6
  refine lv_aload_n hx hb dX10_putZone_31 rfl (lv_at hl 1 rfl) ?_
  refine lv_iload_n hx hb dX10_putZone_32 rfl (lv_at hl 0 rfl) ?_
  refine j_contv (va_runV (As := [.int (J x1)]) (rest := []) ⟨hx, hb, hml, hown, hts⟩ (A_X10_spoil l ka0 h) (cwV 1 hts (gj_V ml_RX10_484 i_X10_spoil s_X10_spoil n_RX10 k_X10_spoil) rfl rfl rfl (by decide +kernel) ⟨by exact Nat.le_of_ble_eq_true rfl, by exact Nat.le_of_ble_eq_true rfl⟩) (j_preV hK hSX hG (ci := 9) rfl ka0 (by decide)) rfl rfl hl.1 rfl (lv_room (Nat.le_of_ble_eq_true rfl)) dX10_putZone_33 ⟨by exact Nat.le_of_ble_eq_true rfl, by exact Nat.le_of_ble_eq_true rfl⟩) hG (c2 := 0) (s2 := 0) ⟨by exact Nat.le_of_ble_eq_true rfl, by exact Nat.le_of_ble_eq_true rfl⟩ (fun M8 h H locs hG => ?_)
  refine lv_iload_n hx hb dX10_putZone_36 rfl (lv_at hl 0 rfl) ?_
  rw [hQf]
  exact j_ireti hx hb hr hlocks hG h (by decide) dX10_putZone_37

abbrev rom_X10_addZone : Room := { frames := 5, cells := 0, slots := 0, locals := 144 }
set_option maxRecDepth 100000 in
set_option maxHeartbeats 4000000 in
theorem Ao_X10_addZone (l : Launch) {D : va_G} {cy : Nat → ClassId} {o : Nat} {sK sV : Nat → Nat} {M : jT} {a0 : Int} {a1 : Int} (ka0 : kd a0 = 10) {Q : Int → jT → Prop} (h : wo_X10_addZone M a0 a1 Q) : CoI l yX10_addZone (wj yX10_addZone cX10_addZone 2 (some .int)) rom_X10_addZone D cy o sK sV M [.ref (rA o a0), .int (J a1)] Q := by
  refine j_ofW (cc := cX10_addZone) (maxL := 2) (ret := (some .int)) (by decide) rfl (Nat.le_of_ble_eq_true rfl) ?_
  intro p e s m args below meth c hx hb hr hlocks hml hown hts hK hSX H locs hG ls hl Qf hQf
  have hown : s.vm.findClass RX10 = some m.cls := hown
  have hl : lv_has ls 2 [(0, .ref (rA o a0)), (1, .int (J a1))] := hl
  unfold wo_X10_addZone at h
  refine lv_aload_n hx hb dX10_addZone_0 rfl (lv_at hl 0 rfl) ?_
  refine lv_iload_n hx hb dX10_addZone_1 rfl (lv_at hl 1 rfl) ?_
  obtain ⟨g1, h⟩ := h
  refine j_conti (va_runV (As := [.int (J a1)]) (rest := []) ⟨hx, hb, hml, hown, hts⟩ (A_X10_zoneFault l ka0 g1) (cwV 1 hts (gj_V ml_RX10_104 i_X10_zoneFault s_X10_zoneFault n_RX10 k_X10_zoneFault) rfl rfl rfl (by decide +kernel) ⟨by exact Nat.le_of_ble_eq_true rfl, by exact Nat.le_of_ble_eq_true rfl⟩) (j_preV hK hSX hG (ci := 9) rfl ka0 (by decide)) rfl rfl hl.1 rfl (lv_room (Nat.le_of_ble_eq_true rfl)) dX10_addZone_2 ⟨by exact Nat.le_of_ble_eq_true rfl, by exact Nat.le_of_ble_eq_true rfl⟩) hG (c2 := 0) (s2 := 0) ⟨by exact Nat.le_of_ble_eq_true rfl, by exact Nat.le_of_ble_eq_true rfl⟩ (fun z2 M3 ez2 H locs hG => ?_)
  obtain ⟨ez2, eM3⟩ := ez2
  subst ez2
  rw [eM3] at hG
  refine j_contv (va_runS (As := [.int (J (pf_X10_zoneFault M a0 a1))]) (rest := []) ⟨hx, hb, hml, hown, hts⟩ (Ao_X10_refuse l h) (va_cwS 1 hts (gj_S ml_RX10_107 i_X10_refuse n_RX10 k_X10_refuse) rfl rfl rfl (by decide +kernel) ⟨by exact Nat.le_of_ble_eq_true rfl, by exact Nat.le_of_ble_eq_true rfl⟩) (j_preS hK hSX hG) rfl rfl hl.1 rfl (lv_room (Nat.le_of_ble_eq_true rfl)) dX10_addZone_5 ⟨by exact Nat.le_of_ble_eq_true rfl, by exact Nat.le_of_ble_eq_true rfl⟩) hG (c2 := 0) (s2 := 0) ⟨by exact Nat.le_of_ble_eq_true rfl, by exact Nat.le_of_ble_eq_true rfl⟩ (fun M5 h H locs hG => ?_)
  obtain ⟨h, eM5⟩ := h
  rw [eM5] at hG
  refine lv_aload_n hx hb dX10_addZone_8 rfl (lv_at hl 0 rfl) ?_
  refine j_contv (va_runV (As := []) (rest := []) ⟨hx, hb, hml, hown, hts⟩ (A_X10_remember l ka0 h) (cwV 0 hts (gj_V ml_RX10_111 i_X10_remember s_X10_remember n_RX10 k_X10_remember) rfl rfl rfl (by decide +kernel) ⟨by exact Nat.le_of_ble_eq_true rfl, by exact Nat.le_of_ble_eq_true rfl⟩) (j_preV hK hSX hG (ci := 9) rfl ka0 (by decide)) rfl rfl hl.1 rfl (lv_room (Nat.le_of_ble_eq_true rfl)) dX10_addZone_9 ⟨by exact Nat.le_of_ble_eq_true rfl, by exact Nat.le_of_ble_eq_true rfl⟩) hG (c2 := 0) (s2 := 0) ⟨by exact Nat.le_of_ble_eq_true rfl, by exact Nat.le_of_ble_eq_true rfl⟩ (fun M7 h H locs hG => ?_)
  refine lv_aload_n hx hb dX10_addZone_12 rfl (lv_at hl 0 rfl) ?_
  refine lv_iload_n hx hb dX10_addZone_13 rfl (lv_at hl 1 rfl) ?_
  refine j_conti (va_runV (As := [.int (J a1)]) (rest := []) ⟨hx, hb, hml, hown, hts⟩ (A_X10_putZone l ka0 h) (cwV 1 hts (gj_V ml_RX10_114 i_X10_putZone s_X10_putZone n_RX10 k_X10_putZone) rfl rfl rfl (by decide +kernel) ⟨by exact Nat.le_of_ble_eq_true rfl, by exact Nat.le_of_ble_eq_true rfl⟩) (j_preV hK hSX hG (ci := 9) rfl ka0 (by decide)) rfl rfl hl.1 rfl (lv_room (Nat.le_of_ble_eq_true rfl)) dX10_addZone_14 ⟨by exact Nat.le_of_ble_eq_true rfl, by exact Nat.le_of_ble_eq_true rfl⟩) hG (c2 := 0) (s2 := 0) ⟨by exact Nat.le_of_ble_eq_true rfl, by exact Nat.le_of_ble_eq_true rfl⟩ (fun z8 M9 h H locs hG => ?_)
  rw [hQf]
  exact j_ireti hx hb hr hlocks hG h (by decide) dX10_addZone_17
abbrev rm_X10_addZone : Room := { frames := 8, cells := 1, slots := 6, locals := 144 }
set_option maxRecDepth 100000 in
set_option maxHeartbeats 4000000 in
theorem A_X10_addZone (l : Launch) (hst : l.stackTraces = false) {D : va_G} {cy : Nat → ClassId} {o : Nat} {sK sV : Nat → Nat} {M : jT} {a0 : Int} {a1 : Int} (ka0 : kd a0 = 10) {Q : Int → jT → Prop} {X : Nat → jT → Prop} (h : wp_X10_addZone M a0 a1 Q X) : CxI l yX10_addZone (wj yX10_addZone cX10_addZone 2 (some .int)) rm_X10_addZone D cy o sK sV M [.ref (rA o a0), .int (J a1)] Q X := by
  refine j_ofWx (cc := cX10_addZone) (maxL := 2) (ret := (some .int)) (by decide) rfl (Nat.le_of_ble_eq_true rfl) ?_
  intro p e s m args below meth c hx hb hr hlocks hout hml hown hts hK hSX H locs hsz hG ls hl Qf hQf
  have hown : s.vm.findClass RX10 = some m.cls := hown
  have hl : lv_has ls 2 [(0, .ref (rA o a0)), (1, .int (J a1))] := hl
  unfold wp_X10_addZone at h
  refine lv_aload_n hx hb dX10_addZone_0 rfl (lv_at hl 0 rfl) ?_
  refine lv_iload_n hx hb dX10_addZone_1 rfl (lv_at hl 1 rfl) ?_
  obtain ⟨g1, h⟩ := h
  refine j_conti (va_runV (As := [.int (J a1)]) (rest := []) ⟨hx, hb, hml, hown, hts⟩ (A_X10_zoneFault l ka0 g1) (cwV 1 hts (gj_V ml_RX10_104 i_X10_zoneFault s_X10_zoneFault n_RX10 k_X10_zoneFault) rfl rfl rfl (by decide +kernel) ⟨by exact Nat.le_of_ble_eq_true rfl, by exact Nat.le_of_ble_eq_true rfl⟩) (j_preV hK hSX hG (ci := 9) rfl ka0 (by decide)) rfl rfl hl.1 rfl (lv_room (Nat.le_of_ble_eq_true rfl)) dX10_addZone_2 ⟨by exact Nat.le_of_ble_eq_true rfl, by exact Nat.le_of_ble_eq_true rfl⟩) hG (c2 := 0) (s2 := 0) ⟨by exact Nat.le_of_ble_eq_true rfl, by exact Nat.le_of_ble_eq_true rfl⟩ (fun z2 M3 ez2 H locs hG => ?_)
  obtain ⟨ez2, eM3⟩ := ez2
  subst ez2
  rw [eM3] at hG
  rcases h with h | h
  · refine j_contv (va_runS (As := [.int (J (pf_X10_zoneFault M a0 a1))]) (rest := []) ⟨hx, hb, hml, hown, hts⟩ (Ao_X10_refuse l h) (va_cwS 1 hts (gj_S ml_RX10_107 i_X10_refuse n_RX10 k_X10_refuse) rfl rfl rfl (by decide +kernel) ⟨by exact Nat.le_of_ble_eq_true rfl, by exact Nat.le_of_ble_eq_true rfl⟩) (j_preS hK hSX hG) rfl rfl hl.1 rfl (lv_room (Nat.le_of_ble_eq_true rfl)) dX10_addZone_5 ⟨by exact Nat.le_of_ble_eq_true rfl, by exact Nat.le_of_ble_eq_true rfl⟩) hG (c2 := 0) (s2 := 0) ⟨by exact Nat.le_of_ble_eq_true rfl, by exact Nat.le_of_ble_eq_true rfl⟩ (fun M5 h H locs hG => ?_)
    obtain ⟨h, eM5⟩ := h
    rw [eM5] at hG
    refine lv_aload_n hx hb dX10_addZone_8 rfl (lv_at hl 0 rfl) ?_
    refine j_contv (va_runV (As := []) (rest := []) ⟨hx, hb, hml, hown, hts⟩ (A_X10_remember l ka0 h) (cwV 0 hts (gj_V ml_RX10_111 i_X10_remember s_X10_remember n_RX10 k_X10_remember) rfl rfl rfl (by decide +kernel) ⟨by exact Nat.le_of_ble_eq_true rfl, by exact Nat.le_of_ble_eq_true rfl⟩) (j_preV hK hSX hG (ci := 9) rfl ka0 (by decide)) rfl rfl hl.1 rfl (lv_room (Nat.le_of_ble_eq_true rfl)) dX10_addZone_9 ⟨by exact Nat.le_of_ble_eq_true rfl, by exact Nat.le_of_ble_eq_true rfl⟩) hG (c2 := 0) (s2 := 0) ⟨by exact Nat.le_of_ble_eq_true rfl, by exact Nat.le_of_ble_eq_true rfl⟩ (fun M7 h H locs hG => ?_)
    refine lv_aload_n hx hb dX10_addZone_12 rfl (lv_at hl 0 rfl) ?_
    refine lv_iload_n hx hb dX10_addZone_13 rfl (lv_at hl 1 rfl) ?_
    refine j_conti (va_runV (As := [.int (J a1)]) (rest := []) ⟨hx, hb, hml, hown, hts⟩ (A_X10_putZone l ka0 h) (cwV 1 hts (gj_V ml_RX10_114 i_X10_putZone s_X10_putZone n_RX10 k_X10_putZone) rfl rfl rfl (by decide +kernel) ⟨by exact Nat.le_of_ble_eq_true rfl, by exact Nat.le_of_ble_eq_true rfl⟩) (j_preV hK hSX hG (ci := 9) rfl ka0 (by decide)) rfl rfl hl.1 rfl (lv_room (Nat.le_of_ble_eq_true rfl)) dX10_addZone_14 ⟨by exact Nat.le_of_ble_eq_true rfl, by exact Nat.le_of_ble_eq_true rfl⟩) hG (c2 := 0) (s2 := 0) ⟨by exact Nat.le_of_ble_eq_true rfl, by exact Nat.le_of_ble_eq_true rfl⟩ (fun z8 M9 h H locs hG => ?_)
    rw [hQf]
    exact vx_ret (j_ireti hx hb hr hlocks hG h (by decide) dX10_addZone_17)
  · refine j_contxv (vx_runS (As := [.int (J (pf_X10_zoneFault M a0 a1))]) (rest := []) ⟨hx, hb, hml, hown, hts⟩ (A_X10_refuse l hst h) (va_cwS 1 hts (gj_S ml_RX10_107 i_X10_refuse n_RX10 k_X10_refuse) rfl rfl rfl (by decide +kernel) ⟨by exact Nat.le_of_ble_eq_true rfl, by exact Nat.le_of_ble_eq_true rfl⟩) (j_preS hK hSX hG) rfl rfl hl.1 rfl (lv_room (Nat.le_of_ble_eq_true rfl)) dX10_addZone_5 ⟨by exact Nat.le_of_ble_eq_true rfl, by exact Nat.le_of_ble_eq_true rfl⟩) hG (c2 := 1) (s2 := 6) ⟨by exact Nat.le_of_ble_eq_true rfl, by exact Nat.le_of_ble_eq_true rfl⟩ (fun x M h ce q H locs hG h1 h2 h3 => ?_) (fun M h H locs hG => h.elim)
    rw [hQf]
    exact j_xout hlocks hout hG h h1 h2 h3 (by decide)

abbrev rm_X10_hasZone : Room := { frames := 0, cells := 0, slots := 0, locals := 0 }
set_option maxRecDepth 100000 in
set_option maxHeartbeats 4000000 in
theorem A_X10_hasZone (l : Launch) {D : va_G} {cy : Nat → ClassId} {o : Nat} {sK sV : Nat → Nat} {M : jT} {a0 : Int} {a1 : Int} (ka0 : kd a0 = 10) (h : pg_X10_hasZone M a0 a1) : CoI l yX10_hasZone (wj yX10_hasZone cX10_hasZone 2 (some .boolean)) rm_X10_hasZone D cy o sK sV M [.ref (rA o a0), .int (J a1)] (fun z M9 => z = b2i (pb_X10_hasZone M a0 a1) ∧ M9 = M) := by
  refine j_ofW (cc := cX10_hasZone) (maxL := 2) (ret := (some .boolean)) (by decide) rfl (Nat.le_of_ble_eq_true rfl) ?_
  intro p e s m args below meth c hx hb hr hlocks hml hown hts hK hSX H locs hG ls hl Qf hQf
  have hown : s.vm.findClass RX10 = some m.cls := hown
  have hl : lv_has ls 2 [(0, .ref (rA o a0)), (1, .int (J a1))] := hl
  have w_fl_RX10_12 := hts _ (List.mem_cons_of_mem _ fl_RX10_12)
  have w_fl_RX10_443 := hts _ (List.mem_cons_of_mem _ fl_RX10_443)
  unfold pg_X10_hasZone at h
  refine lv_iload_n hx hb dX10_hasZone_0 rfl (lv_at hl 1 rfl) ?_
  obtain ⟨g2, h⟩ := h
  refine j_if_lt (tgt := 19) hx hb dX10_hasZone_1 (by decide) g2 (fun c1 => ?_) (fun c1 => ?_)
  · have h := h.1 c1
    refine lv_iconst (v := J 0) hx hb dX10_hasZone_19 (by decide) ?_
    rw [hQf]
    exact j_iretn hx hb hr hlocks (nar_b (by decide)) hG ⟨(b2i_iff0 (iff_of_false (fun q8 => (show ¬ (0 ≤ a1) from by omega) q8.1) id)), rfl⟩ (by decide) dX10_hasZone_20
  · have h := h.2 c1
    refine lv_iload_n hx hb dX10_hasZone_4 rfl (lv_at hl 1 rfl) ?_
    refine lv_aload_n hx hb dX10_hasZone_5 rfl (lv_at hl 0 rfl) ?_
    refine j_getr hx hb hts hown hK hG (k := a0) (fun w h => List.mem_cons_of_mem _ (u_X10 w h)) (ci := 9) rfl ka0 0 (k2 := a0 + 1) (by decide) (by show a0 + (1 : Int) = a0 + 1; omega) w_fl_RX10_12 dX10_hasZone_6 ?_
    refine j_geti hx hb hts hown hK hG (k := a0 + 1) (fun w h => List.mem_cons_of_mem _ (u_X0 w h)) (ci := 0) rfl (kf_10_0 ka0) 0 (by decide) (jz := 0) rfl w_fl_RX10_443 dX10_hasZone_9 ?_
    obtain ⟨g4, h⟩ := h
    refine j_icmp_ge (tgt := 19) hx hb dX10_hasZone_12 (by decide) g2 g4 (fun c3 => ?_) (fun c3 => ?_)
    · have h := h.1 c3
      refine lv_iconst (v := J 0) hx hb dX10_hasZone_19 (by decide) ?_
      rw [hQf]
      exact j_iretn hx hb hr hlocks (nar_b (by decide)) hG ⟨(b2i_iff0 ((and_iff_right c1).trans (iff_of_false (show ¬ (a1 < M (a0 + 1) 0) from by omega) id))), rfl⟩ (by decide) dX10_hasZone_20
    · have h := h.2 c3
      refine lv_iconst (v := J 1) hx hb dX10_hasZone_15 (by decide) ?_
      refine lv_goto (tgt := 20) hx hb dX10_hasZone_16 (by decide) ?_
      rw [hQf]
      exact j_iretn hx hb hr hlocks (nar_b (by decide)) hG ⟨(b2i_iff1 ((and_iff_right c1).trans (iff_of_true c3 trivial))), rfl⟩ (by decide) dX10_hasZone_20

abbrev rm_X10_changeFault : Room := { frames := 1, cells := 0, slots := 0, locals := 21 }
set_option maxRecDepth 100000 in
set_option maxHeartbeats 4000000 in
theorem A_X10_changeFault (l : Launch) {D : va_G} {cy : Nat → ClassId} {o : Nat} {sK sV : Nat → Nat} {M : jT} {a0 : Int} {a1 : Int} {a2 : Int} {a3 : Int} (ka0 : kd a0 = 10) (h : pg_X10_changeFault M a0 a1 a2 a3) : CoI l yX10_changeFault (wj yX10_changeFault cX10_changeFault 4 (some .int)) rm_X10_changeFault D cy o sK sV M [.ref (rA o a0), .int (J a1), .int (J a2), .int (J a3)] (fun z M9 => z = pf_X10_changeFault M a0 a1 a2 a3 ∧ M9 = M) := by
  refine j_ofW (cc := cX10_changeFault) (maxL := 4) (ret := (some .int)) (by decide) rfl (Nat.le_of_ble_eq_true rfl) ?_
  intro p e s m args below meth c hx hb hr hlocks hml hown hts hK hSX H locs hG ls hl Qf hQf
  have hown : s.vm.findClass RX10 = some m.cls := hown
  have hl : lv_has ls 4 [(0, .ref (rA o a0)), (1, .int (J a1)), (2, .int (J a2)), (3, .int (J a3))] := hl
  have w_fl_RX10_12 := hts _ (List.mem_cons_of_mem _ fl_RX10_12)
  have w_fl_RX10_140 := hts _ (List.mem_cons_of_mem _ fl_RX10_140)
  have w_fl_RX10_157 := hts _ (List.mem_cons_of_mem _ fl_RX10_157)
  unfold pg_X10_changeFault at h
  refine lv_aload_n hx hb dX10_changeFault_0 rfl (lv_at hl 0 rfl) ?_
  refine lv_iload_n hx hb dX10_changeFault_1 rfl (lv_at hl 1 rfl) ?_
  obtain ⟨g1, h⟩ := h
  refine j_conti (va_runV (As := [.int (J a1)]) (rest := []) ⟨hx, hb, hml, hown, hts⟩ (A_X10_hasZone l ka0 g1) (cwV 1 hts (gj_V ml_RX10_475 i_X10_hasZone s_X10_hasZone n_RX10 k_X10_hasZone) rfl rfl rfl (by decide +kernel) ⟨by exact Nat.le_of_ble_eq_true rfl, by exact Nat.le_of_ble_eq_true rfl⟩) (j_preV hK hSX hG (ci := 9) rfl ka0 (by decide)) rfl rfl hl.1 rfl (lv_room (Nat.le_of_ble_eq_true rfl)) dX10_changeFault_2 ⟨by exact Nat.le_of_ble_eq_true rfl, by exact Nat.le_of_ble_eq_true rfl⟩) hG (c2 := 0) (s2 := 0) ⟨by exact Nat.le_of_ble_eq_true rfl, by exact Nat.le_of_ble_eq_true rfl⟩ (fun z2 M3 ez2 H locs hG => ?_)
  obtain ⟨ez2, eM3⟩ := ez2
  subst ez2
  rw [eM3] at hG
  refine j_if_ne_b (tgt := 10) hx hb dX10_changeFault_5 (by decide) (fun c4 => ?_) (fun c4 => ?_)
  · have h := h.1 c4
    refine lv_iload_n hx hb dX10_changeFault_10 rfl (lv_at hl 2 rfl) ?_
    obtain ⟨g5, h⟩ := h
    refine j_conti (va_runS (As := [.int (J a2)]) (rest := []) ⟨hx, hb, hml, hown, hts⟩ (A_X10_isDay l g5) (va_cwS 1 hts (gj_S ml_RX10_85 i_X10_isDay n_RX10 k_X10_isDay) rfl rfl rfl (by decide +kernel) ⟨by exact Nat.le_of_ble_eq_true rfl, by exact Nat.le_of_ble_eq_true rfl⟩) (j_preS hK hSX hG) rfl rfl hl.1 rfl (lv_room (Nat.le_of_ble_eq_true rfl)) dX10_changeFault_11 ⟨by exact Nat.le_of_ble_eq_true rfl, by exact Nat.le_of_ble_eq_true rfl⟩) hG (c2 := 0) (s2 := 0) ⟨by exact Nat.le_of_ble_eq_true rfl, by exact Nat.le_of_ble_eq_true rfl⟩ (fun z6 M7 ez6 H locs hG => ?_)
    obtain ⟨ez6, eM7⟩ := ez6
    subst ez6
    rw [eM7] at hG
    refine j_if_eq_b (tgt := 24) hx hb dX10_changeFault_14 (by decide) (fun c8 => ?_) (fun c8 => ?_)
    · have h := h.1 c8
      refine lv_iconst (v := J 2) hx hb dX10_changeFault_24 (by decide) ?_
      rw [hQf]
      exact j_ireti hx hb hr hlocks hG ⟨(by unfold pf_X10_changeFault; rw [if_pos c4, if_pos c8]), rfl⟩ (by decide) dX10_changeFault_25
    · have h := h.2 c8
      refine lv_iload_n hx hb dX10_changeFault_17 rfl (lv_at hl 3 rfl) ?_
      obtain ⟨g9, h⟩ := h
      refine j_conti (va_runS (As := [.int (J a3)]) (rest := []) ⟨hx, hb, hml, hown, hts⟩ (A_X10_isBase l g9) (va_cwS 1 hts (gj_S ml_RX10_480 i_X10_isBase n_RX10 k_X10_isBase) rfl rfl rfl (by decide +kernel) ⟨by exact Nat.le_of_ble_eq_true rfl, by exact Nat.le_of_ble_eq_true rfl⟩) (j_preS hK hSX hG) rfl rfl hl.1 rfl (lv_room (Nat.le_of_ble_eq_true rfl)) dX10_changeFault_18 ⟨by exact Nat.le_of_ble_eq_true rfl, by exact Nat.le_of_ble_eq_true rfl⟩) hG (c2 := 0) (s2 := 0) ⟨by exact Nat.le_of_ble_eq_true rfl, by exact Nat.le_of_ble_eq_true rfl⟩ (fun z10 M11 ez10 H locs hG => ?_)
      obtain ⟨ez10, eM11⟩ := ez10
      subst ez10
      rw [eM11] at hG
      refine j_if_ne_b (tgt := 26) hx hb dX10_changeFault_21 (by decide) (fun c12 => ?_) (fun c12 => ?_)
      · have h := h.1 c12
        refine lv_aload_n hx hb dX10_changeFault_26 rfl (lv_at hl 0 rfl) ?_
        refine j_getr hx hb hts hown hK hG (k := a0) (fun w h => List.mem_cons_of_mem _ (u_X10 w h)) (ci := 9) rfl ka0 0 (k2 := a0 + 1) (by decide) (by show a0 + (1 : Int) = a0 + 1; omega) w_fl_RX10_12 dX10_changeFault_27 ?_
        refine j_getr hx hb hts hown hK hG (k := a0 + 1) (fun w h => List.mem_cons_of_mem _ (u_X0 w h)) (ci := 0) rfl (kf_10_0 ka0) 2 (k2 := a0 + 2) (by decide) (by show (a0 + 1) + (1 : Int) = a0 + 2; omega) w_fl_RX10_140 dX10_changeFault_30 ?_
        refine lv_iload_n hx hb dX10_changeFault_33 rfl (lv_at hl 1 rfl) ?_
        obtain ⟨g13, h⟩ := h
        refine j_aald hx hb hK hG (t := 20) (t0 := 3) (k2 := a0 + 4 * a1 + 4) (show kd (a0 + 2) = 20 from (show (a0 + 1) + 1 = a0 + 2 from by omega) ▸ (kf_1_2 (kf_10_0 ka0))) (by decide) rfl g13 (by simp only [ra_20]; omega) dX10_changeFault_34 ?_
        have k14 : kd (a0 + 4 * a1 + 4) = 9 := by have q9 := (ka_20 (show kd (a0 + 2) = 20 from (show (a0 + 1) + 1 = a0 + 2 from by omega) ▸ (kf_1_2 (kf_10_0 ka0))) g13); rwa [show (a0 + 2) + 2 + 4 * a1 = a0 + 4 * a1 + 4 from by omega] at q9
        refine j_geti hx hb hts hown hK hG (k := a0 + 4 * a1 + 4) (fun w h => List.mem_cons_of_mem _ (u_X9 w h)) (ci := 8) rfl k14 2 (by decide) (jz := 2) rfl w_fl_RX10_157 dX10_changeFault_35 ?_
        refine lv_iconst (v := J 4) hx hb dX10_changeFault_38 (by decide) ?_
        obtain ⟨g16, h⟩ := h
        refine j_icmp_ge (tgt := 46) hx hb dX10_changeFault_39 (by decide) g16 (by decide) (fun c15 => ?_) (fun c15 => ?_)
        · have h := h.1 c15
          refine lv_iconst (v := J 3) hx hb dX10_changeFault_46 (by decide) ?_
          rw [hQf]
          exact j_ireti hx hb hr hlocks hG ⟨(by unfold pf_X10_changeFault; rw [if_pos c4, if_neg (fun q9 => q9 c8), if_pos c12, if_pos c15]), rfl⟩ (by decide) dX10_changeFault_47
        · have h := h.2 c15
          refine lv_iconst (v := J 0) hx hb dX10_changeFault_42 (by decide) ?_
          refine lv_goto (tgt := 47) hx hb dX10_changeFault_43 (by decide) ?_
          rw [hQf]
          exact j_ireti hx hb hr hlocks hG ⟨(by unfold pf_X10_changeFault; rw [if_pos c4, if_neg (fun q9 => q9 c8), if_pos c12, if_neg (show ¬ (4 ≤ M (a0 + 4 * a1 + 4) 2) from by omega)]), rfl⟩ (by decide) dX10_changeFault_47
      · have h := h.2 c12
        refine lv_iconst (v := J 2) hx hb dX10_changeFault_24 (by decide) ?_
        rw [hQf]
        exact j_ireti hx hb hr hlocks hG ⟨(by unfold pf_X10_changeFault; rw [if_pos c4, if_neg (fun q9 => q9 c8), if_neg c12]), rfl⟩ (by decide) dX10_changeFault_25
  · have h := h.2 c4
    refine lv_iconst (v := J 1) hx hb dX10_changeFault_8 (by decide) ?_
    rw [hQf]
    exact j_ireti hx hb hr hlocks hG ⟨(by unfold pf_X10_changeFault; rw [if_neg c4]), rfl⟩ (by decide) dX10_changeFault_9

abbrev rm_X9_putChange : Room := { frames := 0, cells := 0, slots := 0, locals := 0 }
set_option maxRecDepth 100000 in
set_option maxHeartbeats 4000000 in
theorem A_X9_putChange (l : Launch) {D : va_G} {cy : Nat → ClassId} {o : Nat} {sK sV : Nat → Nat} {M : jT} {a0 : Int} {a1 : Int} {a2 : Int} (ka0 : kd a0 = 9) {Q : Int → jT → Prop} (h : wp_X9_putChange M a0 a1 a2 Q) : CoI l yX9_putChange (wj yX9_putChange cX9_putChange 3 (some .int)) rm_X9_putChange D cy o sK sV M [.ref (rA o a0), .int (J a1), .int (J a2)] Q := by
  refine j_ofW (cc := cX9_putChange) (maxL := 3) (ret := (some .int)) (by decide) rfl (Nat.le_of_ble_eq_true rfl) ?_
  intro p e s m args below meth c hx hb hr hlocks hml hown hts hK hSX H locs hG ls hl Qf hQf
  have hown : s.vm.findClass RX9 = some m.cls := hown
  have hl : lv_has ls 3 [(0, .ref (rA o a0)), (1, .int (J a1)), (2, .int (J a2))] := hl
  have w_fl_RX9_15 := hts _ (List.mem_cons_of_mem _ fl_RX9_15)
  have w_fl_RX9_28 := hts _ (List.mem_cons_of_mem _ fl_RX9_28)
  have w_fl_RX9_18 := hts _ (List.mem_cons_of_mem _ fl_RX9_18)
  unfold wp_X9_putChange at h
  refine lv_aload_n hx hb dX9_putChange_0 rfl (lv_at hl 0 rfl) ?_
  refine j_getr hx hb hts hown hK hG (k := a0) (fun w h => List.mem_cons_of_mem _ (u_X9 w h)) (ci := 8) rfl ka0 4 (k2 := a0 + 2) (by decide) (by show a0 + (2 : Int) = a0 + 2; omega) w_fl_RX9_15 dX9_putChange_1 ?_
  refine lv_aload_n hx hb dX9_putChange_4 rfl (lv_at hl 0 rfl) ?_
  refine j_geti hx hb hts hown hK hG (k := a0) (fun w h => List.mem_cons_of_mem _ (u_X9 w h)) (ci := 8) rfl ka0 2 (by decide) (jz := 2) rfl w_fl_RX9_28 dX9_putChange_5 ?_
  refine lv_iload_n hx hb dX9_putChange_8 rfl (lv_at hl 1 rfl) ?_
  obtain ⟨g1, h⟩ := h
  refine j_iast hx hb hK hG (n := 4) (kf_9_4 ka0) (by decide) g1 dX9_putChange_9 (fun M2 eM2 H locs hG => ?_)
  have h := h M2 eM2
  refine lv_aload_n hx hb dX9_putChange_10 rfl (lv_at hl 0 rfl) ?_
  refine j_getr hx hb hts hown hK hG (k := a0) (fun w h => List.mem_cons_of_mem _ (u_X9 w h)) (ci := 8) rfl ka0 5 (k2 := a0 + 3) (by decide) (by show a0 + (3 : Int) = a0 + 3; omega) w_fl_RX9_18 dX9_putChange_11 ?_
  refine lv_aload_n hx hb dX9_putChange_14 rfl (lv_at hl 0 rfl) ?_
  refine j_geti hx hb hts hown hK hG (k := a0) (fun w h => List.mem_cons_of_mem _ (u_X9 w h)) (ci := 8) rfl ka0 2 (by decide) (jz := 2) rfl w_fl_RX9_28 dX9_putChange_15 ?_
  refine lv_iload_n hx hb dX9_putChange_18 rfl (lv_at hl 2 rfl) ?_
  obtain ⟨g3, h⟩ := h
  refine j_iast hx hb hK hG (n := 4) (kf_9_5 ka0) (by decide) g3 dX9_putChange_19 (fun M4 eM4 H locs hG => ?_)
  have h := h M4 eM4
  refine lv_aload_n hx hb dX9_putChange_20 rfl (lv_at hl 0 rfl) ?_
  refine lv_dup hx hb dX9_putChange_21 rfl ?_
  refine j_geti hx hb hts hown hK hG (k := a0) (fun w h => List.mem_cons_of_mem _ (u_X9 w h)) (ci := 8) rfl ka0 2 (by decide) (jz := 2) rfl w_fl_RX9_28 dX9_putChange_22 ?_
  refine lv_iconst (v := J 1) hx hb dX9_putChange_25 (by decide) ?_
  refine j_iadd hx hb dX9_putChange_26 ?_
  refine j_puti hx hb hts hown hK hG (k := a0) (fun w h => List.mem_cons_of_mem _ (u_X9 w h)) tyX9 tyX9_ok nmX9 (ci := 8) rfl ka0 2 (by decide) (jz := 2) rfl w_fl_RX9_28 (hd := rfl) (hn := rfl) (hfit := rfl) (hdg := dX9_putChange_27) (fun M5 eM5 H locs hG => ?_)
  have h := h M5 eM5
  refine lv_aload_n hx hb dX9_putChange_30 rfl (lv_at hl 0 rfl) ?_
  refine j_geti hx hb hts hown hK hG (k := a0) (fun w h => List.mem_cons_of_mem _ (u_X9 w h)) (ci := 8) rfl ka0 2 (by decide) (jz := 2) rfl w_fl_RX9_28 dX9_putChange_31 ?_
  refine lv_iconst (v := J 1) hx hb dX9_putChange_34 (by decide) ?_
  refine j_isub hx hb dX9_putChange_35 ?_
  rw [hQf]
  exact j_ireti hx hb hr hlocks hG h (by decide) dX9_putChange_36

abbrev rm_X10_putChange : Room := { frames := 1, cells := 0, slots := 0, locals := 22 }
set_option maxRecDepth 100000 in
set_option maxHeartbeats 4000000 in
theorem A_X10_putChange (l : Launch) {D : va_G} {cy : Nat → ClassId} {o : Nat} {sK sV : Nat → Nat} {M : jT} {a0 : Int} {a1 : Int} {a2 : Int} {a3 : Int} (ka0 : kd a0 = 10) {Q : Int → jT → Prop} (h : wp_X10_putChange M a0 a1 a2 a3 Q) : CoI l yX10_putChange (wj yX10_putChange cX10_putChange 5 (some .int)) rm_X10_putChange D cy o sK sV M [.ref (rA o a0), .int (J a1), .int (J a2), .int (J a3)] Q := by
  refine j_ofW (cc := cX10_putChange) (maxL := 5) (ret := (some .int)) (by decide) rfl (Nat.le_of_ble_eq_true rfl) ?_
  intro p e s m args below meth c hx hb hr hlocks hml hown hts hK hSX H locs hG ls hl Qf hQf
  have hown : s.vm.findClass RX10 = some m.cls := hown
  have hl : lv_has ls 5 [(0, .ref (rA o a0)), (1, .int (J a1)), (2, .int (J a2)), (3, .int (J a3))] := hl
  have w_fl_RX10_12 := hts _ (List.mem_cons_of_mem _ fl_RX10_12)
  have w_fl_RX10_140 := hts _ (List.mem_cons_of_mem _ fl_RX10_140)
  unfold wp_X10_putChange at h
  refine lv_aload_n hx hb dX10_putChange_0 rfl (lv_at hl 0 rfl) ?_
  refine j_getr hx hb hts hown hK hG (k := a0) (fun w h => List.mem_cons_of_mem _ (u_X10 w h)) (ci := 9) rfl ka0 0 (k2 := a0 + 1) (by decide) (by show a0 + (1 : Int) = a0 + 1; omega) w_fl_RX10_12 dX10_putChange_1 ?_
  refine j_getr hx hb hts hown hK hG (k := a0 + 1) (fun w h => List.mem_cons_of_mem _ (u_X0 w h)) (ci := 0) rfl (kf_10_0 ka0) 2 (k2 := a0 + 2) (by decide) (by show (a0 + 1) + (1 : Int) = a0 + 2; omega) w_fl_RX10_140 dX10_putChange_4 ?_
  refine lv_iload_n hx hb dX10_putChange_7 rfl (lv_at hl 1 rfl) ?_
  obtain ⟨g1, h⟩ := h
  refine j_aald hx hb hK hG (t := 20) (t0 := 3) (k2 := a0 + 4 * a1 + 4) (show kd (a0 + 2) = 20 from (show (a0 + 1) + 1 = a0 + 2 from by omega) ▸ (kf_1_2 (kf_10_0 ka0))) (by decide) rfl g1 (by simp only [ra_20]; omega) dX10_putChange_8 ?_
  have k2 : kd (a0 + 4 * a1 + 4) = 9 := by have q9 := (ka_20 (show kd (a0 + 2) = 20 from (show (a0 + 1) + 1 = a0 + 2 from by omega) ▸ (kf_1_2 (kf_10_0 ka0))) g1); rwa [show (a0 + 2) + 2 + 4 * a1 = a0 + 4 * a1 + 4 from by omega] at q9
  refine lv_iload_n hx hb dX10_putChange_9 rfl (lv_at hl 2 rfl) ?_
  refine lv_iload_n hx hb dX10_putChange_10 rfl (lv_at hl 3 rfl) ?_
  refine j_conti (va_runV (As := [.int (J a2), .int (J a3)]) (rest := []) ⟨hx, hb, hml, hown, hts⟩ (A_X9_putChange l k2 h) (cwV 2 hts (gj_V ml_RX10_486 i_X9_putChange s_X9_putChange n_RX9 k_X9_putChange) rfl rfl rfl (by decide +kernel) ⟨by exact Nat.le_of_ble_eq_true rfl, by exact Nat.le_of_ble_eq_true rfl⟩) (j_preV hK hSX hG (ci := 8) rfl k2 (by decide)) rfl rfl hl.1 rfl (lv_room (Nat.le_of_ble_eq_true rfl)) dX10_putChange_11 ⟨by exact Nat.le_of_ble_eq_true rfl, by exact Nat.le_of_ble_eq_true rfl⟩) hG (c2 := 0) (s2 := 0) ⟨by exact Nat.le_of_ble_eq_true rfl, by exact Nat.le_of_ble_eq_true rfl⟩ (fun z3 M4 h H locs hG => ?_)
  refine lv_istore (lv' := [(4, .int (J z3)), (0, .ref (rA o a0)), (1, .int (J a1)), (2, .int (J a2)), (3, .int (J a3))]) hx hb dX10_putChange_14 hl (by decide) rfl (fun ls hl => ?_)
  refine lv_aload_n hx hb dX10_putChange_16 rfl (lv_at hl 1 rfl) ?_
  refine lv_iload_n hx hb dX10_putChange_17 rfl (lv_at hl 2 rfl) ?_
  refine j_contv (va_runV (As := [.int (J a1)]) (rest := []) ⟨hx, hb, hml, hown, hts⟩ (A_X10_spoil l ka0 h) (cwV 1 hts (gj_V ml_RX10_484 i_X10_spoil s_X10_spoil n_RX10 k_X10_spoil) rfl rfl rfl (by decide +kernel) ⟨by exact Nat.le_of_ble_eq_true rfl, by exact Nat.le_of_ble_eq_true rfl⟩) (j_preV hK hSX hG (ci := 9) rfl ka0 (by decide)) rfl rfl hl.1 rfl (lv_room (Nat.le_of_ble_eq_true rfl)) dX10_putChange_18 ⟨by exact Nat.le_of_ble_eq_true rfl, by exact Nat.le_of_ble_eq_true rfl⟩) hG (c2 := 0) (s2 := 0) ⟨by exact Nat.le_of_ble_eq_true rfl, by exact Nat.le_of_ble_eq_true rfl⟩ (fun M6 h H locs hG => ?_)
  refine lv_iload hx hb dX10_putChange_21 (lv_at hl 0 rfl) ?_
  rw [hQf]
  exact j_ireti hx hb hr hlocks hG h (by decide) dX10_putChange_23
