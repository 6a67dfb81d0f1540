abbrev rm_X11_meeting : Room := { frames := 10, cells := 0, slots := 0, locals := 240 }
set_option maxRecDepth 100000 in
set_option maxHeartbeats 4000000 in
theorem A_X11_meeting (l : Launch) {D : va_G} {cy : Nat → ClassId} {o : Nat} {sK sV : Nat → Nat} {M : jT} {a0 : Int} {a1 : Int} {a2 : Int} (ka0 : kd a0 = 11) {Q : Int → jT → Prop} (h : wp_X11_meeting M a0 a1 a2 Q) : CoI l yX11_meeting (wj yX11_meeting cX11_meeting 3 (some .int)) rm_X11_meeting D cy o sK sV M [.ref (rA o a0), .int (J a1), .int (J a2)] Q := by
  refine j_ofW (cc := cX11_meeting) (maxL := 3) (ret := (some .int)) (by decide) rfl (Nat.le_of_ble_eq_true rfl) ?_
  intro p e s m args below meth c hx hb hr hlocks hml hown hts hK hSX H locs hG ls hl Qf hQf
  have hown : s.vm.findClass RX11 = some m.cls := hown
  have hl : lv_has ls 3 [(0, .ref (rA o a0)), (1, .int (J a1)), (2, .int (J a2))] := hl
  have w_fl_RX11_80 := hts _ (List.mem_cons_of_mem _ fl_RX11_80)
  have w_fl_RX11_244 := hts _ (List.mem_cons_of_mem _ fl_RX11_244)
  have w_fl_RX11_9 := hts _ (List.mem_cons_of_mem _ fl_RX11_9)
  unfold wp_X11_meeting at h
  refine lv_aload_n hx hb dX11_meeting_0 rfl (lv_at hl 0 rfl) ?_
  refine lv_iconst (v := J 0) hx hb dX11_meeting_1 (by decide) ?_
  refine j_puti hx hb hts hown hK hG (k := a0) (fun w h => List.mem_cons_of_mem _ (u_X11 w h)) tyX11 tyX11_ok nmX11 (ci := 10) rfl ka0 0 (by decide) (jz := 0) rfl w_fl_RX11_80 (hd := rfl) (hn := rfl) (hfit := rfl) (hdg := dX11_meeting_2) (fun M1 eM1 H locs hG => ?_)
  have h := h M1 eM1
  refine lv_aload_n hx hb dX11_meeting_5 rfl (lv_at hl 0 rfl) ?_
  refine lv_iload_n hx hb dX11_meeting_6 rfl (lv_at hl 1 rfl) ?_
  obtain ⟨g2, h⟩ := h
  refine j_conti (va_runV (As := [.int (J a1)]) (rest := []) ⟨hx, hb, hml, hown, hts⟩ (A_X11_isMeeting l ka0 g2) (cwV 1 hts (gj_V ml_RX11_238 i_X11_isMeeting s_X11_isMeeting n_RX11 k_X11_isMeeting) rfl rfl rfl (by decide +kernel) ⟨by exact Nat.le_of_ble_eq_true rfl, by exact Nat.le_of_ble_eq_true rfl⟩) (j_preV hK hSX hG (ci := 10) rfl ka0 (by decide)) rfl rfl hl.1 rfl (lv_room (Nat.le_of_ble_eq_true rfl)) dX11_meeting_7 ⟨by exact Nat.le_of_ble_eq_true rfl, by exact Nat.le_of_ble_eq_true rfl⟩) hG (c2 := 0) (s2 := 0) ⟨by exact Nat.le_of_ble_eq_true rfl, by exact Nat.le_of_ble_eq_true rfl⟩ (fun z3 M4 ez3 H locs hG => ?_)
  obtain ⟨ez3, eM4⟩ := ez3
  subst ez3
  rw [eM4] at hG
  refine j_if_ne_b (tgt := 19) hx hb dX11_meeting_10 (by decide) (fun c5 => ?_) (fun c5 => ?_)
  · have h := h.1 c5
    refine lv_iload_n hx hb dX11_meeting_19 rfl (lv_at hl 2 rfl) ?_
    refine lv_iconst (v := J 0) hx hb dX11_meeting_20 (by decide) ?_
    refine lv_bipush (v := J 9) hx hb dX11_meeting_21 (by decide) ?_
    obtain ⟨g6, h⟩ := h
    refine j_conti (va_runS (As := [.int (J a2), .int (J 0), .int (J 9)]) (rest := []) ⟨hx, hb, hml, hown, hts⟩ (A_X11_in l g6) (va_cwS 3 hts (gj_S ml_RX11_106 i_X11_in n_RX11 k_X11_in) rfl rfl rfl (by decide +kernel) ⟨by exact Nat.le_of_ble_eq_true rfl, by exact Nat.le_of_ble_eq_true rfl⟩) (j_preS hK hSX hG) rfl rfl hl.1 rfl (lv_room (Nat.le_of_ble_eq_true rfl)) dX11_meeting_23 ⟨by exact Nat.le_of_ble_eq_true rfl, by exact Nat.le_of_ble_eq_true rfl⟩) hG (c2 := 0) (s2 := 0) ⟨by exact Nat.le_of_ble_eq_true rfl, by exact Nat.le_of_ble_eq_true rfl⟩ (fun z7 M8 ez7 H locs hG => ?_)
    obtain ⟨ez7, eM8⟩ := ez7
    subst ez7
    rw [eM8] at hG
    refine j_if_ne_b (tgt := 35) hx hb dX11_meeting_26 (by decide) (fun c9 => ?_) (fun c9 => ?_)
    · have h := h.1 c9
      refine lv_iload_n hx hb dX11_meeting_35 rfl (lv_at hl 2 rfl) ?_
      refine lv_iconst (v := J 5) hx hb dX11_meeting_36 (by decide) ?_
      obtain ⟨g11, h⟩ := h
      refine j_icmp_ge (tgt := 52) hx hb dX11_meeting_37 (by decide) g11 (by decide) (fun c10 => ?_) (fun c10 => ?_)
      · have h := h.1 c10
        refine lv_iload_n hx hb dX11_meeting_52 rfl (lv_at hl 2 rfl) ?_
        refine lv_bipush (v := J 8) hx hb dX11_meeting_53 (by decide) ?_
        refine j_icmp_ge (tgt := 72) hx hb dX11_meeting_55 (by decide) g11 (by decide) (fun c12 => ?_) (fun c12 => ?_)
        · have h := h.1 c12
          refine lv_aload_n hx hb dX11_meeting_72 rfl (lv_at hl 0 rfl) ?_
          refine lv_iload_n hx hb dX11_meeting_73 rfl (lv_at hl 1 rfl) ?_
          refine j_contv (va_runV (As := [.int (J a1)]) (rest := []) ⟨hx, hb, hml, hown, hts⟩ (A_X11_lists l ka0 h) (cwV 1 hts (gj_V ml_RX11_241 i_X11_lists s_X11_lists n_RX11 k_X11_lists) rfl rfl rfl (by decide +kernel) ⟨by exact Nat.le_of_ble_eq_true rfl, by exact Nat.le_of_ble_eq_true rfl⟩) (j_preV hK hSX hG (ci := 10) rfl ka0 (by decide)) rfl rfl hl.1 rfl (lv_room (Nat.le_of_ble_eq_true rfl)) dX11_meeting_74 ⟨by exact Nat.le_of_ble_eq_true rfl, by exact Nat.le_of_ble_eq_true rfl⟩) hG (c2 := 0) (s2 := 0) ⟨by exact Nat.le_of_ble_eq_true rfl, by exact Nat.le_of_ble_eq_true rfl⟩ (fun M14 h H locs hG => ?_)
          refine lv_iload_n hx hb dX11_meeting_77 rfl (lv_at hl 2 rfl) ?_
          refine lv_bipush (v := J 8) hx hb dX11_meeting_78 (by decide) ?_
          obtain ⟨K20, hK20, h⟩ := h
          have jK20 : ∀ (x18 : Int) (M19 : jT), K20 x18 M19 → ∀ (H : Heap) (locs : List Loc), GM D cy o M19 s.heap H locs → ∀ ls : Array Slot, lv_has ls 3 [] → W p l e rm_X11_meeting s m args below meth c H locs 0 0 Qf (F0 m 95 ls [.int (J x18)]) := by
            intro x18 M19 hcK20 H locs hG ls hl
            have h := hK20 x18 M19 hcK20
            rw [hQf]
            exact j_ireti hx hb hr hlocks hG h (by decide) dX11_meeting_95
          refine j_icmp_ne (tgt := 90) hx hb dX11_meeting_80 (by decide) g11 (by decide) (fun c21 => ?_) (fun c21 => ?_)
          · have h := h.1 c21
            refine lv_aload_n hx hb dX11_meeting_90 rfl (lv_at hl 0 rfl) ?_
            refine lv_iload_n hx hb dX11_meeting_91 rfl (lv_at hl 1 rfl) ?_
            refine j_conti (va_runV (As := [.int (J a1)]) (rest := []) ⟨hx, hb, hml, hown, hts⟩ (A_X11_placed l ka0 h) (cwV 1 hts (gj_V ml_RX11_265 i_X11_placed s_X11_placed n_RX11 k_X11_placed) rfl rfl rfl (by decide +kernel) ⟨by exact Nat.le_of_ble_eq_true rfl, by exact Nat.le_of_ble_eq_true rfl⟩) (j_preV hK hSX hG (ci := 10) rfl ka0 (by decide)) rfl rfl hl.1 rfl (lv_room (Nat.le_of_ble_eq_true rfl)) dX11_meeting_92 ⟨by exact Nat.le_of_ble_eq_true rfl, by exact Nat.le_of_ble_eq_true rfl⟩) hG (c2 := 0) (s2 := 0) ⟨by exact Nat.le_of_ble_eq_true rfl, by exact Nat.le_of_ble_eq_true rfl⟩ (fun z22 M23 h H locs hG => ?_)
            exact jK20 z22 M23 h H locs hG ls (lv_sub hl [] rfl)
          · have h := h.2 c21
            refine lv_aload_n hx hb dX11_meeting_83 rfl (lv_at hl 0 rfl) ?_
            refine j_geti hx hb hts hown hK hG (k := a0) (fun w h => List.mem_cons_of_mem _ (u_X11 w h)) (ci := 10) rfl ka0 33 (by decide) (jz := 33) rfl w_fl_RX11_244 dX11_meeting_84 ?_
            refine lv_goto (tgt := 95) hx hb dX11_meeting_87 (by decide) ?_
            exact jK20 (M14 a0 33) M14 h H locs hG ls (lv_sub hl [] rfl)
        · have h := h.2 c12
          refine lv_aload_n hx hb dX11_meeting_58 rfl (lv_at hl 0 rfl) ?_
          refine j_getr hx hb hts hown hK hG (k := a0) (fun w h => List.mem_cons_of_mem _ (u_X11 w h)) (ci := 10) rfl ka0 1 (k2 := a0 + 1) (by decide) (by show a0 + (1 : Int) = a0 + 1; omega) w_fl_RX11_9 dX11_meeting_59 ?_
          refine lv_iload_n hx hb dX11_meeting_62 rfl (lv_at hl 1 rfl) ?_
          refine j_conti (va_runS (As := [.int (J a1)]) (rest := [.ref (rA o (a0 + 1))]) ⟨hx, hb, hml, hown, hts⟩ (A_X11_meetingAt l) (va_cwS 1 hts (gj_S ml_RX11_145 i_X11_meetingAt n_RX11 k_X11_meetingAt) rfl rfl rfl (by decide +kernel) ⟨by exact Nat.le_of_ble_eq_true rfl, by exact Nat.le_of_ble_eq_true rfl⟩) (j_preS hK hSX hG) rfl rfl hl.1 rfl (lv_room (Nat.le_of_ble_eq_true rfl)) dX11_meeting_63 ⟨by exact Nat.le_of_ble_eq_true rfl, by exact Nat.le_of_ble_eq_true rfl⟩) hG (c2 := 0) (s2 := 0) ⟨by exact Nat.le_of_ble_eq_true rfl, by exact Nat.le_of_ble_eq_true rfl⟩ (fun z24 M25 ez24 H locs hG => ?_)
          obtain ⟨ez24, eM25⟩ := ez24
          subst ez24
          rw [eM25] at hG
          refine lv_iload_n hx hb dX11_meeting_66 rfl (lv_at hl 2 rfl) ?_
          refine j_iadd hx hb dX11_meeting_67 ?_
          refine lv_iconst (v := J 1) hx hb dX11_meeting_68 (by decide) ?_
          refine j_iadd hx hb dX11_meeting_69 ?_
          obtain ⟨g26, h⟩ := h
          refine j_iald hx hb hK hG (n := 1294) (kf_11_1 ka0) (by decide) g26 dX11_meeting_70 ?_
          rw [hQf]
          exact j_ireti hx hb hr hlocks hG h (by decide) dX11_meeting_71
      · have h := h.2 c10
        refine lv_aload_n hx hb dX11_meeting_40 rfl (lv_at hl 0 rfl) ?_
        refine j_getr hx hb hts hown hK hG (k := a0) (fun w h => List.mem_cons_of_mem _ (u_X11 w h)) (ci := 10) rfl ka0 1 (k2 := a0 + 1) (by decide) (by show a0 + (1 : Int) = a0 + 1; omega) w_fl_RX11_9 dX11_meeting_41 ?_
        refine lv_iload_n hx hb dX11_meeting_44 rfl (lv_at hl 1 rfl) ?_
        refine j_conti (va_runS (As := [.int (J a1)]) (rest := [.ref (rA o (a0 + 1))]) ⟨hx, hb, hml, hown, hts⟩ (A_X11_meetingAt l) (va_cwS 1 hts (gj_S ml_RX11_145 i_X11_meetingAt n_RX11 k_X11_meetingAt) rfl rfl rfl (by decide +kernel) ⟨by exact Nat.le_of_ble_eq_true rfl, by exact Nat.le_of_ble_eq_true rfl⟩) (j_preS hK hSX hG) rfl rfl hl.1 rfl (lv_room (Nat.le_of_ble_eq_true rfl)) dX11_meeting_45 ⟨by exact Nat.le_of_ble_eq_true rfl, by exact Nat.le_of_ble_eq_true rfl⟩) hG (c2 := 0) (s2 := 0) ⟨by exact Nat.le_of_ble_eq_true rfl, by exact Nat.le_of_ble_eq_true rfl⟩ (fun z27 M28 ez27 H locs hG => ?_)
        obtain ⟨ez27, eM28⟩ := ez27
        subst ez27
        rw [eM28] at hG
        refine lv_iload_n hx hb dX11_meeting_48 rfl (lv_at hl 2 rfl) ?_
        refine j_iadd hx hb dX11_meeting_49 ?_
        obtain ⟨g29, h⟩ := h
        refine j_iald hx hb hK hG (n := 1294) (kf_11_1 ka0) (by decide) g29 dX11_meeting_50 ?_
        rw [hQf]
        exact j_ireti hx hb hr hlocks hG h (by decide) dX11_meeting_51
    · have h := h.2 c9
      refine lv_aload_n hx hb dX11_meeting_29 rfl (lv_at hl 0 rfl) ?_
      refine lv_iconst (v := J 2) hx hb dX11_meeting_30 (by decide) ?_
      refine j_conti (va_runV (As := [.int (J 2)]) (rest := []) ⟨hx, hb, hml, hown, hts⟩ (A_X11_raises l ka0 h) (cwV 1 hts (gj_V ml_RX11_110 i_X11_raises s_X11_raises n_RX11 k_X11_raises) rfl rfl rfl (by decide +kernel) ⟨by exact Nat.le_of_ble_eq_true rfl, by exact Nat.le_of_ble_eq_true rfl⟩) (j_preV hK hSX hG (ci := 10) rfl ka0 (by decide)) rfl rfl hl.1 rfl (lv_room (Nat.le_of_ble_eq_true rfl)) dX11_meeting_31 ⟨by exact Nat.le_of_ble_eq_true rfl, by exact Nat.le_of_ble_eq_true rfl⟩) hG (c2 := 0) (s2 := 0) ⟨by exact Nat.le_of_ble_eq_true rfl, by exact Nat.le_of_ble_eq_true rfl⟩ (fun z30 M31 h H locs hG => ?_)
      rw [hQf]
      exact j_ireti hx hb hr hlocks hG h (by decide) dX11_meeting_34
  · have h := h.2 c5
    refine lv_aload_n hx hb dX11_meeting_13 rfl (lv_at hl 0 rfl) ?_
    refine lv_iconst (v := J 1) hx hb dX11_meeting_14 (by decide) ?_
    refine j_conti (va_runV (As := [.int (J 1)]) (rest := []) ⟨hx, hb, hml, hown, hts⟩ (A_X11_raises l ka0 h) (cwV 1 hts (gj_V ml_RX11_110 i_X11_raises s_X11_raises n_RX11 k_X11_raises) rfl rfl rfl (by decide +kernel) ⟨by exact Nat.le_of_ble_eq_true rfl, by exact Nat.le_of_ble_eq_true rfl⟩) (j_preV hK hSX hG (ci := 10) rfl ka0 (by decide)) rfl rfl hl.1 rfl (lv_room (Nat.le_of_ble_eq_true rfl)) dX11_meeting_15 ⟨by exact Nat.le_of_ble_eq_true rfl, by exact Nat.le_of_ble_eq_true rfl⟩) hG (c2 := 0) (s2 := 0) ⟨by exact Nat.le_of_ble_eq_true rfl, by exact Nat.le_of_ble_eq_true rfl⟩ (fun z32 M33 h H locs hG => ?_)
    rw [hQf]
    exact j_ireti hx hb hr hlocks hG h (by decide) dX11_meeting_18

abbrev rm_X11_occurrence : Room := { frames := 9, cells := 0, slots := 0, locals := 217 }
set_option maxRecDepth 100000 in
set_option maxHeartbeats 4000000 in
theorem A_X11_occurrence (l : Launch) {D : va_G} {cy : Nat → ClassId} {o : Nat} {sK sV : Nat → Nat} {M : jT} {a0 : Int} {a1 : Int} {a2 : Int} {a3 : Int} (ka0 : kd a0 = 11) {Q : Int → jT → Prop} (h : wp_X11_occurrence M a0 a1 a2 a3 Q) : CoI l yX11_occurrence (wj yX11_occurrence cX11_occurrence 6 (some .int)) rm_X11_occurrence D cy o sK sV M [.ref (rA o a0), .int (J a1), .int (J a2), .int (J a3)] Q := by
  refine j_ofW (cc := cX11_occurrence) (maxL := 6) (ret := (some .int)) (by decide) rfl (Nat.le_of_ble_eq_true rfl) ?_
  intro p e s m args below meth c hx hb hr hlocks hml hown hts hK hSX H locs hG ls hl Qf hQf
  have hown : s.vm.findClass RX11 = some m.cls := hown
  have hl : lv_has ls 6 [(0, .ref (rA o a0)), (1, .int (J a1)), (2, .int (J a2)), (3, .int (J a3))] := hl
  have w_fl_RX11_80 := hts _ (List.mem_cons_of_mem _ fl_RX11_80)
  have w_fl_RX11_213 := hts _ (List.mem_cons_of_mem _ fl_RX11_213)
  have w_fl_RX11_9 := hts _ (List.mem_cons_of_mem _ fl_RX11_9)
  have w_fl_RX11_210 := hts _ (List.mem_cons_of_mem _ fl_RX11_210)
  have w_fl_RX11_71 := hts _ (List.mem_cons_of_mem _ fl_RX11_71)
  unfold wp_X11_occurrence at h
  refine lv_aload_n hx hb dX11_occurrence_0 rfl (lv_at hl 0 rfl) ?_
  refine lv_iconst (v := J 0) hx hb dX11_occurrence_1 (by decide) ?_
  refine j_puti hx hb hts hown hK hG (k := a0) (fun w h => List.mem_cons_of_mem _ (u_X11 w h)) tyX11 tyX11_ok nmX11 (ci := 10) rfl ka0 0 (by decide) (jz := 0) rfl w_fl_RX11_80 (hd := rfl) (hn := rfl) (hfit := rfl) (hdg := dX11_occurrence_2) (fun M1 eM1 H locs hG => ?_)
  have h := h M1 eM1
  refine lv_aload_n hx hb dX11_occurrence_5 rfl (lv_at hl 0 rfl) ?_
  refine lv_iload_n hx hb dX11_occurrence_6 rfl (lv_at hl 1 rfl) ?_
  refine lv_iload_n hx hb dX11_occurrence_7 rfl (lv_at hl 2 rfl) ?_
  refine j_conti (va_runV (As := [.int (J a1), .int (J a2)]) (rest := []) ⟨hx, hb, hml, hown, hts⟩ (A_X11_isOccurrence l ka0 h) (cwV 2 hts (gj_V ml_RX11_142 i_X11_isOccurrence s_X11_isOccurrence n_RX11 k_X11_isOccurrence) rfl rfl rfl (by decide +kernel) ⟨by exact Nat.le_of_ble_eq_true rfl, by exact Nat.le_of_ble_eq_true rfl⟩) (j_preV hK hSX hG (ci := 10) rfl ka0 (by decide)) rfl rfl hl.1 rfl (lv_room (Nat.le_of_ble_eq_true rfl)) dX11_occurrence_8 ⟨by exact Nat.le_of_ble_eq_true rfl, by exact Nat.le_of_ble_eq_true rfl⟩) hG (c2 := 0) (s2 := 0) ⟨by exact Nat.le_of_ble_eq_true rfl, by exact Nat.le_of_ble_eq_true rfl⟩ (fun z2 M3 h H locs hG => ?_)
  obtain ⟨g5, h⟩ := h
  refine j_if_ne (tgt := 20) hx hb dX11_occurrence_11 (by decide) g5 (fun c4 => ?_) (fun c4 => ?_)
  · have h := h.1 c4
    refine lv_iload_n hx hb dX11_occurrence_20 rfl (lv_at hl 3 rfl) ?_
    refine lv_iconst (v := J 0) hx hb dX11_occurrence_21 (by decide) ?_
    refine lv_iconst (v := J 5) hx hb dX11_occurrence_22 (by decide) ?_
    obtain ⟨g6, h⟩ := h
    refine j_conti (va_runS (As := [.int (J a3), .int (J 0), .int (J 5)]) (rest := []) ⟨hx, hb, hml, hown, hts⟩ (A_X11_in l g6) (va_cwS 3 hts (gj_S ml_RX11_106 i_X11_in n_RX11 k_X11_in) rfl rfl rfl (by decide +kernel) ⟨by exact Nat.le_of_ble_eq_true rfl, by exact Nat.le_of_ble_eq_true rfl⟩) (j_preS hK hSX hG) rfl rfl hl.1 rfl (lv_room (Nat.le_of_ble_eq_true rfl)) dX11_occurrence_23 ⟨by exact Nat.le_of_ble_eq_true rfl, by exact Nat.le_of_ble_eq_true rfl⟩) hG (c2 := 0) (s2 := 0) ⟨by exact Nat.le_of_ble_eq_true rfl, by exact Nat.le_of_ble_eq_true rfl⟩ (fun z7 M8 ez7 H locs hG => ?_)
    obtain ⟨ez7, eM8⟩ := ez7
    subst ez7
    rw [eM8] at hG
    refine j_if_ne_b (tgt := 35) hx hb dX11_occurrence_26 (by decide) (fun c9 => ?_) (fun c9 => ?_)
    · have h := h.1 c9
      refine lv_iload_n hx hb dX11_occurrence_35 rfl (lv_at hl 1 rfl) ?_
      refine j_conti (va_runS (As := [.int (J a1)]) (rest := []) ⟨hx, hb, hml, hown, hts⟩ (A_X11_meetingAt l) (va_cwS 1 hts (gj_S ml_RX11_145 i_X11_meetingAt n_RX11 k_X11_meetingAt) rfl rfl rfl (by decide +kernel) ⟨by exact Nat.le_of_ble_eq_true rfl, by exact Nat.le_of_ble_eq_true rfl⟩) (j_preS hK hSX hG) rfl rfl hl.1 rfl (lv_room (Nat.le_of_ble_eq_true rfl)) dX11_occurrence_36 ⟨by exact Nat.le_of_ble_eq_true rfl, by exact Nat.le_of_ble_eq_true rfl⟩) hG (c2 := 0) (s2 := 0) ⟨by exact Nat.le_of_ble_eq_true rfl, by exact Nat.le_of_ble_eq_true rfl⟩ (fun z10 M11 ez10 H locs hG => ?_)
      obtain ⟨ez10, eM11⟩ := ez10
      subst ez10
      rw [eM11] at hG
      refine j_topi (fun x12 ex12 => ?_)
      have h := h x12 ex12
      refine lv_istore (lv' := [(4, .int (J x12)), (0, .ref (rA o a0)), (1, .int (J a1)), (2, .int (J a2)), (3, .int (J a3))]) hx hb dX11_occurrence_39 hl (by decide) rfl (fun ls hl => ?_)
      refine lv_aload_n hx hb dX11_occurrence_41 rfl (lv_at hl 1 rfl) ?_
      refine lv_iload_n hx hb dX11_occurrence_42 rfl (lv_at hl 2 rfl) ?_
      refine lv_iload_n hx hb dX11_occurrence_43 rfl (lv_at hl 3 rfl) ?_
      obtain ⟨g13, h⟩ := h
      refine j_conti (va_runV (As := [.int (J a1), .int (J a2)]) (rest := []) ⟨hx, hb, hml, hown, hts⟩ (A_X11_localOf l ka0 g13) (cwV 2 hts (gj_V ml_RX11_250 i_X11_localOf s_X11_localOf n_RX11 k_X11_localOf) rfl rfl rfl (by decide +kernel) ⟨by exact Nat.le_of_ble_eq_true rfl, by exact Nat.le_of_ble_eq_true rfl⟩) (j_preV hK hSX hG (ci := 10) rfl ka0 (by decide)) rfl rfl hl.1 rfl (lv_room (Nat.le_of_ble_eq_true rfl)) dX11_occurrence_44 ⟨by exact Nat.le_of_ble_eq_true rfl, by exact Nat.le_of_ble_eq_true rfl⟩) hG (c2 := 0) (s2 := 0) ⟨by exact Nat.le_of_ble_eq_true rfl, by exact Nat.le_of_ble_eq_true rfl⟩ (fun z14 M15 ez14 H locs hG => ?_)
      obtain ⟨ez14, eM15⟩ := ez14
      subst ez14
      rw [eM15] at hG
      refine j_topi (fun x16 ex16 => ?_)
      have h := h x16 ex16
      refine lv_istore (lv' := [(5, .int (J x16)), (4, .int (J x12)), (0, .ref (rA o a0)), (1, .int (J a1)), (2, .int (J a2)), (3, .int (J a3))]) hx hb dX11_occurrence_47 hl (by decide) rfl (fun ls hl => ?_)
      refine lv_iload_n hx hb dX11_occurrence_49 rfl (lv_at hl 5 rfl) ?_
      obtain ⟨g18, h⟩ := h
      refine j_if_ne (tgt := 60) hx hb dX11_occurrence_50 (by decide) g18 (fun c17 => ?_) (fun c17 => ?_)
      · have h := h.1 c17
        refine lv_iload_n hx hb dX11_occurrence_60 rfl (lv_at hl 5 rfl) ?_
        refine lv_iconst (v := J 1) hx hb dX11_occurrence_61 (by decide) ?_
        refine j_icmp_ne (tgt := 68) hx hb dX11_occurrence_62 (by decide) g18 (by decide) (fun c19 => ?_) (fun c19 => ?_)
        · have h := h.1 c19
          refine lv_iload_n hx hb dX11_occurrence_68 rfl (lv_at hl 5 rfl) ?_
          refine lv_iconst (v := J 2) hx hb dX11_occurrence_69 (by decide) ?_
          refine j_icmp_ne (tgt := 86) hx hb dX11_occurrence_70 (by decide) g18 (by decide) (fun c20 => ?_) (fun c20 => ?_)
          · have h := h.1 c20
            refine lv_iload_n hx hb dX11_occurrence_86 rfl (lv_at hl 5 rfl) ?_
            refine lv_iconst (v := J 3) hx hb dX11_occurrence_87 (by decide) ?_
            refine j_icmp_ne (tgt := 126) hx hb dX11_occurrence_88 (by decide) g18 (by decide) (fun c21 => ?_) (fun c21 => ?_)
            · have h := h.1 c21
              refine lv_iload_n hx hb dX11_occurrence_126 rfl (lv_at hl 5 rfl) ?_
              refine lv_iconst (v := J 4) hx hb dX11_occurrence_127 (by decide) ?_
              refine j_icmp_ne (tgt := 159) hx hb dX11_occurrence_128 (by decide) g18 (by decide) (fun c22 => ?_) (fun c22 => ?_)
              · have h := h.1 c22
                refine lv_aload_n hx hb dX11_occurrence_159 rfl (lv_at hl 2 rfl) ?_
                refine lv_iload_n hx hb dX11_occurrence_160 rfl (lv_at hl 3 rfl) ?_
                refine lv_iload_n hx hb dX11_occurrence_161 rfl (lv_at hl 4 rfl) ?_
                refine j_conti (va_runV (As := [.int (J a1), .int (J a2)]) (rest := []) ⟨hx, hb, hml, hown, hts⟩ (A_X11_takesPlace l ka0 h) (cwV 2 hts (gj_V ml_RX11_256 i_X11_takesPlace s_X11_takesPlace n_RX11 k_X11_takesPlace) rfl rfl rfl (by decide +kernel) ⟨by exact Nat.le_of_ble_eq_true rfl, by exact Nat.le_of_ble_eq_true rfl⟩) (j_preV hK hSX hG (ci := 10) rfl ka0 (by decide)) rfl rfl hl.1 rfl (lv_room (Nat.le_of_ble_eq_true rfl)) dX11_occurrence_162 ⟨by exact Nat.le_of_ble_eq_true rfl, by exact Nat.le_of_ble_eq_true rfl⟩) hG (c2 := 0) (s2 := 0) ⟨by exact Nat.le_of_ble_eq_true rfl, by exact Nat.le_of_ble_eq_true rfl⟩ (fun z23 M24 h H locs hG => ?_)
                obtain ⟨K31, hK31, h⟩ := h
                have jK31 : ∀ (x29 : Int) (M30 : jT), K31 x29 M30 → ∀ (H : Heap) (locs : List Loc), GM D cy o M30 s.heap H locs → ∀ ls : Array Slot, lv_has ls 6 [] → W p l e rm_X11_occurrence s m args below meth c H locs 0 0 Qf (F0 m 180 ls [.int (J x29)]) := by
                  intro x29 M30 hcK31 H locs hG ls hl
                  have h := hK31 x29 M30 hcK31
                  rw [hQf]
                  exact j_ireti hx hb hr hlocks hG h (by decide) dX11_occurrence_180
                obtain ⟨g33, h⟩ := h
                refine j_if_eq (tgt := 175) hx hb dX11_occurrence_165 (by decide) g33 (fun c32 => ?_) (fun c32 => ?_)
                · have h := h.1 c32
                  refine lv_aload_n hx hb dX11_occurrence_175 rfl (lv_at hl 2 rfl) ?_
                  refine lv_iconst (v := J 3) hx hb dX11_occurrence_176 (by decide) ?_
                  refine j_conti (va_runV (As := [.int (J 3)]) (rest := []) ⟨hx, hb, hml, hown, hts⟩ (A_X11_raises l ka0 h) (cwV 1 hts (gj_V ml_RX11_110 i_X11_raises s_X11_raises n_RX11 k_X11_raises) rfl rfl rfl (by decide +kernel) ⟨by exact Nat.le_of_ble_eq_true rfl, by exact Nat.le_of_ble_eq_true rfl⟩) (j_preV hK hSX hG (ci := 10) rfl ka0 (by decide)) rfl rfl hl.1 rfl (lv_room (Nat.le_of_ble_eq_true rfl)) dX11_occurrence_177 ⟨by exact Nat.le_of_ble_eq_true rfl, by exact Nat.le_of_ble_eq_true rfl⟩) hG (c2 := 0) (s2 := 0) ⟨by exact Nat.le_of_ble_eq_true rfl, by exact Nat.le_of_ble_eq_true rfl⟩ (fun z34 M35 h H locs hG => ?_)
                  exact jK31 z34 M35 h H locs hG ls (lv_sub hl [] rfl)
                · have h := h.2 c32
                  refine lv_aload_n hx hb dX11_occurrence_168 rfl (lv_at hl 2 rfl) ?_
                  refine j_geti hx hb hts hown hK hG (k := a0) (fun w h => List.mem_cons_of_mem _ (u_X11 w h)) (ci := 10) rfl ka0 28 (by decide) (jz := 28) rfl w_fl_RX11_213 dX11_occurrence_169 ?_
                  refine lv_goto (tgt := 180) hx hb dX11_occurrence_172 (by decide) ?_
                  exact jK31 (M24 a0 28) M24 h H locs hG ls (lv_sub hl [] rfl)
              · have h := h.2 c22
                refine lv_iload hx hb dX11_occurrence_131 (lv_at hl 0 rfl) ?_
                obtain ⟨g36, h⟩ := h
                refine j_conti (va_runS (As := [.int (J x16)]) (rest := []) ⟨hx, hb, hml, hown, hts⟩ (A_X11_isLocal l g36) (va_cwS 1 hts (gj_S ml_RX11_225 i_X11_isLocal n_RX11 k_X11_isLocal) rfl rfl rfl (by decide +kernel) ⟨by exact Nat.le_of_ble_eq_true rfl, by exact Nat.le_of_ble_eq_true rfl⟩) (j_preS hK hSX hG) rfl rfl hl.1 rfl (lv_room (Nat.le_of_ble_eq_true rfl)) dX11_occurrence_133 ⟨by exact Nat.le_of_ble_eq_true rfl, by exact Nat.le_of_ble_eq_true rfl⟩) hG (c2 := 0) (s2 := 0) ⟨by exact Nat.le_of_ble_eq_true rfl, by exact Nat.le_of_ble_eq_true rfl⟩ (fun z37 M38 ez37 H locs hG => ?_)
                obtain ⟨ez37, eM38⟩ := ez37
                subst ez37
                rw [eM38] at hG
                refine j_if_ne_b (tgt := 141) hx hb dX11_occurrence_136 (by decide) (fun c39 => ?_) (fun c39 => ?_)
                · have h := h.1 c39
                  refine lv_aload_n hx hb dX11_occurrence_141 rfl (lv_at hl 2 rfl) ?_
                  refine lv_aload_n hx hb dX11_occurrence_142 rfl (lv_at hl 2 rfl) ?_
                  refine j_getr hx hb hts hown hK hG (k := a0) (fun w h => List.mem_cons_of_mem _ (u_X11 w h)) (ci := 10) rfl ka0 1 (k2 := a0 + 1) (by decide) (by show a0 + (1 : Int) = a0 + 1; omega) w_fl_RX11_9 dX11_occurrence_143 ?_
                  refine lv_iload hx hb dX11_occurrence_146 (lv_at hl 1 rfl) ?_
                  obtain ⟨g40, h⟩ := h
                  refine j_iald hx hb hK hG (n := 1294) (kf_11_1 ka0) (by decide) g40 dX11_occurrence_148 ?_
                  refine lv_iload hx hb dX11_occurrence_149 (lv_at hl 0 rfl) ?_
                  refine j_contv (va_runV (As := [.int (J (M3 (a0 + 1) x12)), .int (J x16)]) (rest := []) ⟨hx, hb, hml, hown, hts⟩ (A_X11_finds l ka0 h) (cwV 2 hts (gj_V ml_RX11_219 i_X11_finds s_X11_finds n_RX11 k_X11_finds) rfl rfl rfl (by decide +kernel) ⟨by exact Nat.le_of_ble_eq_true rfl, by exact Nat.le_of_ble_eq_true rfl⟩) (j_preV hK hSX hG (ci := 10) rfl ka0 (by decide)) rfl rfl hl.1 rfl (lv_room (Nat.le_of_ble_eq_true rfl)) dX11_occurrence_151 ⟨by exact Nat.le_of_ble_eq_true rfl, by exact Nat.le_of_ble_eq_true rfl⟩) hG (c2 := 0) (s2 := 0) ⟨by exact Nat.le_of_ble_eq_true rfl, by exact Nat.le_of_ble_eq_true rfl⟩ (fun M42 h H locs hG => ?_)
                  refine lv_aload_n hx hb dX11_occurrence_154 rfl (lv_at hl 2 rfl) ?_
                  refine j_geti hx hb hts hown hK hG (k := a0) (fun w h => List.mem_cons_of_mem _ (u_X11 w h)) (ci := 10) rfl ka0 30 (by decide) (jz := 30) rfl w_fl_RX11_210 dX11_occurrence_155 ?_
                  rw [hQf]
                  exact j_ireti hx hb hr hlocks hG h (by decide) dX11_occurrence_158
                · have h := h.2 c39
                  refine lv_iconst (v := J (-1)) hx hb dX11_occurrence_139 (by decide) ?_
                  rw [hQf]
                  exact j_ireti hx hb hr hlocks hG h (by decide) dX11_occurrence_140
            · have h := h.2 c21
              refine lv_aload_n hx hb dX11_occurrence_91 rfl (lv_at hl 2 rfl) ?_
              refine j_getr hx hb hts hown hK hG (k := a0) (fun w h => List.mem_cons_of_mem _ (u_X11 w h)) (ci := 10) rfl ka0 1 (k2 := a0 + 1) (by decide) (by show a0 + (1 : Int) = a0 + 1; omega) w_fl_RX11_9 dX11_occurrence_92 ?_
              refine lv_iload hx hb dX11_occurrence_95 (lv_at hl 1 rfl) ?_
              refine lv_bipush (v := J 49) hx hb dX11_occurrence_97 (by decide) ?_
              refine j_iadd hx hb dX11_occurrence_99 ?_
              refine lv_iload_n hx hb dX11_occurrence_100 rfl (lv_at hl 4 rfl) ?_
              refine j_iadd hx hb dX11_occurrence_101 ?_
              obtain ⟨g43, h⟩ := h
              refine j_iald hx hb hK hG (n := 1294) (kf_11_1 ka0) (by decide) g43 dX11_occurrence_102 ?_
              refine lv_iconst (v := J 1) hx hb dX11_occurrence_103 (by decide) ?_
              obtain ⟨K52, hK52, h⟩ := h
              have jK52 : ∀ (x50 : Int) (M51 : jT), K52 x50 M51 → ∀ (H : Heap) (locs : List Loc), GM D cy o M51 s.heap H locs → ∀ ls : Array Slot, lv_has ls 6 [] → W p l e rm_X11_occurrence s m args below meth c H locs 0 0 Qf (F0 m 125 ls [.int (J x50)]) := by
                intro x50 M51 hcK52 H locs hG ls hl
                have h := hK52 x50 M51 hcK52
                rw [hQf]
                exact j_ireti hx hb hr hlocks hG h (by decide) dX11_occurrence_125
              obtain ⟨g54, h⟩ := h
              refine j_icmp_ne (tgt := 111) hx hb dX11_occurrence_104 (by decide) g54 (by decide) (fun c53 => ?_) (fun c53 => ?_)
              · have h := h.1 c53
                refine lv_aload_n hx hb dX11_occurrence_111 rfl (lv_at hl 2 rfl) ?_
                refine lv_iload_n hx hb dX11_occurrence_112 rfl (lv_at hl 3 rfl) ?_
                refine lv_iload_n hx hb dX11_occurrence_113 rfl (lv_at hl 4 rfl) ?_
                refine j_conti (va_runV (As := [.int (J a1), .int (J a2)]) (rest := []) ⟨hx, hb, hml, hown, hts⟩ (A_X11_isVoid l ka0 h) (cwV 2 hts (gj_V ml_RX11_253 i_X11_isVoid s_X11_isVoid n_RX11 k_X11_isVoid) rfl rfl rfl (by decide +kernel) ⟨by exact Nat.le_of_ble_eq_true rfl, by exact Nat.le_of_ble_eq_true rfl⟩) (j_preV hK hSX hG (ci := 10) rfl ka0 (by decide)) rfl rfl hl.1 rfl (lv_room (Nat.le_of_ble_eq_true rfl)) dX11_occurrence_114 ⟨by exact Nat.le_of_ble_eq_true rfl, by exact Nat.le_of_ble_eq_true rfl⟩) hG (c2 := 0) (s2 := 0) ⟨by exact Nat.le_of_ble_eq_true rfl, by exact Nat.le_of_ble_eq_true rfl⟩ (fun z55 M56 h H locs hG => ?_)
                obtain ⟨g58, h⟩ := h
                refine j_if_eq (tgt := 124) hx hb dX11_occurrence_117 (by decide) g58 (fun c57 => ?_) (fun c57 => ?_)
                · have h := h.1 c57
                  refine lv_iconst (v := J 0) hx hb dX11_occurrence_124 (by decide) ?_
                  exact jK52 0 M56 h H locs hG ls (lv_sub hl [] rfl)
                · have h := h.2 c57
                  refine lv_iconst (v := J 2) hx hb dX11_occurrence_120 (by decide) ?_
                  refine lv_goto (tgt := 125) hx hb dX11_occurrence_121 (by decide) ?_
                  exact jK52 2 M56 h H locs hG ls (lv_sub hl [] rfl)
              · have h := h.2 c53
                refine lv_iconst (v := J 1) hx hb dX11_occurrence_107 (by decide) ?_
                refine lv_goto (tgt := 125) hx hb dX11_occurrence_108 (by decide) ?_
                exact jK52 1 M3 h H locs hG ls (lv_sub hl [] rfl)
          · have h := h.2 c20
            refine lv_aload_n hx hb dX11_occurrence_73 rfl (lv_at hl 2 rfl) ?_
            refine j_getr hx hb hts hown hK hG (k := a0) (fun w h => List.mem_cons_of_mem _ (u_X11 w h)) (ci := 10) rfl ka0 1 (k2 := a0 + 1) (by decide) (by show a0 + (1 : Int) = a0 + 1; omega) w_fl_RX11_9 dX11_occurrence_74 ?_
            refine lv_iload hx hb dX11_occurrence_77 (lv_at hl 1 rfl) ?_
            refine lv_bipush (v := J 9) hx hb dX11_occurrence_79 (by decide) ?_
            refine j_iadd hx hb dX11_occurrence_81 ?_
            refine lv_iload_n hx hb dX11_occurrence_82 rfl (lv_at hl 4 rfl) ?_
            refine j_iadd hx hb dX11_occurrence_83 ?_
            obtain ⟨g59, h⟩ := h
            refine j_iald hx hb hK hG (n := 1294) (kf_11_1 ka0) (by decide) g59 dX11_occurrence_84 ?_
            rw [hQf]
            exact j_ireti hx hb hr hlocks hG h (by decide) dX11_occurrence_85
        · have h := h.2 c19
          refine lv_iload hx hb dX11_occurrence_65 (lv_at hl 0 rfl) ?_
          rw [hQf]
          exact j_ireti hx hb hr hlocks hG h (by decide) dX11_occurrence_67
      · have h := h.2 c17
        refine lv_aload_n hx hb dX11_occurrence_53 rfl (lv_at hl 2 rfl) ?_
        refine j_getr hx hb hts hown hK hG (k := a0) (fun w h => List.mem_cons_of_mem _ (u_X11 w h)) (ci := 10) rfl ka0 32 (k2 := a0 + 19) (by decide) (by show a0 + (19 : Int) = a0 + 19; omega) w_fl_RX11_71 dX11_occurrence_54 ?_
        refine lv_iload_n hx hb dX11_occurrence_57 rfl (lv_at hl 4 rfl) ?_
        obtain ⟨g60, h⟩ := h
        refine j_iald hx hb hK hG (n := 40) (kf_11_32 ka0) (by decide) g60 dX11_occurrence_58 ?_
        rw [hQf]
        exact j_ireti hx hb hr hlocks hG h (by decide) dX11_occurrence_59
    · have h := h.2 c9
      refine lv_aload_n hx hb dX11_occurrence_29 rfl (lv_at hl 0 rfl) ?_
      refine lv_iconst (v := J 2) hx hb dX11_occurrence_30 (by decide) ?_
      refine j_conti (va_runV (As := [.int (J 2)]) (rest := []) ⟨hx, hb, hml, hown, hts⟩ (A_X11_raises l ka0 h) (cwV 1 hts (gj_V ml_RX11_110 i_X11_raises s_X11_raises n_RX11 k_X11_raises) rfl rfl rfl (by decide +kernel) ⟨by exact Nat.le_of_ble_eq_true rfl, by exact Nat.le_of_ble_eq_true rfl⟩) (j_preV hK hSX hG (ci := 10) rfl ka0 (by decide)) rfl rfl hl.1 rfl (lv_room (Nat.le_of_ble_eq_true rfl)) dX11_occurrence_31 ⟨by exact Nat.le_of_ble_eq_true rfl, by exact Nat.le_of_ble_eq_true rfl⟩) hG (c2 := 0) (s2 := 0) ⟨by exact Nat.le_of_ble_eq_true rfl, by exact Nat.le_of_ble_eq_true rfl⟩ (fun z61 M62 h H locs hG => ?_)
      rw [hQf]
      exact j_ireti hx hb hr hlocks hG h (by decide) dX11_occurrence_34
  · have h := h.2 c4
    refine lv_aload_n hx hb dX11_occurrence_14 rfl (lv_at hl 0 rfl) ?_
    refine lv_iconst (v := J 1) hx hb dX11_occurrence_15 (by decide) ?_
    refine j_conti (va_runV (As := [.int (J 1)]) (rest := []) ⟨hx, hb, hml, hown, hts⟩ (A_X11_raises l ka0 h) (cwV 1 hts (gj_V ml_RX11_110 i_X11_raises s_X11_raises n_RX11 k_X11_raises) rfl rfl rfl (by decide +kernel) ⟨by exact Nat.le_of_ble_eq_true rfl, by exact Nat.le_of_ble_eq_true rfl⟩) (j_preV hK hSX hG (ci := 10) rfl ka0 (by decide)) rfl rfl hl.1 rfl (lv_room (Nat.le_of_ble_eq_true rfl)) dX11_occurrence_16 ⟨by exact Nat.le_of_ble_eq_true rfl, by exact Nat.le_of_ble_eq_true rfl⟩) hG (c2 := 0) (s2 := 0) ⟨by exact Nat.le_of_ble_eq_true rfl, by exact Nat.le_of_ble_eq_true rfl⟩ (fun z63 M64 h H locs hG => ?_)
    rw [hQf]
    exact j_ireti hx hb hr hlocks hG h (by decide) dX11_occurrence_19

abbrev rm_X11_enters : Room := { frames := 9, cells := 0, slots := 0, locals := 217 }
set_option maxRecDepth 100000 in
set_option maxHeartbeats 4000000 in
theorem A_X11_enters (l : Launch) {D : va_G} {cy : Nat → ClassId} {o : Nat} {sK sV : Nat → Nat} {M : jT} {a0 : Int} {a1 : Int} {a2 : Int} (ka0 : kd a0 = 11) {Q : jT → Prop} (h : wp_X11_enters M a0 a1 a2 Q) : CoV l yX11_enters (wj yX11_enters cX11_enters 5 none) rm_X11_enters D cy o sK sV M [.ref (rA o a0), .int (J a1), .int (J a2)] Q := by
  refine j_ofW (cc := cX11_enters) (maxL := 5) (ret := none) (by decide) rfl (Nat.le_of_ble_eq_true rfl) ?_
  intro p e s m args below meth c hx hb hr hlocks hml hown hts hK hSX H locs hG ls hl Qf hQf
  have hown : s.vm.findClass RX11 = some m.cls := hown
  have hl : lv_has ls 5 [(0, .ref (rA o a0)), (1, .int (J a1)), (2, .int (J a2))] := hl
  have w_fl_RX11_244 := hts _ (List.mem_cons_of_mem _ fl_RX11_244)
  have w_fl_RX11_213 := hts _ (List.mem_cons_of_mem _ fl_RX11_213)
  have w_fl_RX11_268 := hts _ (List.mem_cons_of_mem _ fl_RX11_268)
  have w_fl_RX11_74 := hts _ (List.mem_cons_of_mem _ fl_RX11_74)
  have w_fl_RX11_77 := hts _ (List.mem_cons_of_mem _ fl_RX11_77)
  unfold wp_X11_enters at h
  refine lv_aload_n hx hb dX11_enters_0 rfl (lv_at hl 0 rfl) ?_
  refine lv_iload_n hx hb dX11_enters_1 rfl (lv_at hl 1 rfl) ?_
  refine j_contv (va_runV (As := [.int (J a1)]) (rest := []) ⟨hx, hb, hml, hown, hts⟩ (A_X11_lists l ka0 h) (cwV 1 hts (gj_V ml_RX11_241 i_X11_lists s_X11_lists n_RX11 k_X11_lists) rfl rfl rfl (by decide +kernel) ⟨by exact Nat.le_of_ble_eq_true rfl, by exact Nat.le_of_ble_eq_true rfl⟩) (j_preV hK hSX hG (ci := 10) rfl ka0 (by decide)) rfl rfl hl.1 rfl (lv_room (Nat.le_of_ble_eq_true rfl)) dX11_enters_2 ⟨by exact Nat.le_of_ble_eq_true rfl, by exact Nat.le_of_ble_eq_true rfl⟩) hG (c2 := 0) (s2 := 0) ⟨by exact Nat.le_of_ble_eq_true rfl, by exact Nat.le_of_ble_eq_true rfl⟩ (fun M2 h H locs hG => ?_)
  refine lv_iconst (v := J 0) hx hb dX11_enters_5 (by decide) ?_
  refine lv_istore_n (lv' := [(3, .int (J 0)), (0, .ref (rA o a0)), (1, .int (J a1)), (2, .int (J a2))]) hx hb dX11_enters_6 rfl hl (by decide) rfl (fun ls hl => ?_)
  obtain ⟨I5, ⟨n6s, iI5⟩, qI5⟩ := h
  have lI5 : ∀ (n6 : Nat) (x3 : Int) (M4 : jT), I5 n6 x3 M4 → ∀ (H : Heap) (locs : List Loc), GM D cy o M4 s.heap H locs → ∀ ls : Array Slot, lv_has ls 5 [(0, .ref (rA o a0)), (1, .int (J a1)), (2, .int (J a2)), (3, .int (J x3))] → W p l e rm_X11_enters s m args below meth c H locs 0 0 Qf (F0 m 7 ls []) := by
    intro n6
    induction n6 using Nat.strongRecOn with
    | ind n6 rI5 =>
      intro x3 M4 iI5 H locs hG ls hl
      have h := qI5 n6 x3 M4 iI5
      refine lv_iload_n hx hb dX11_enters_7 rfl (lv_at hl 3 rfl) ?_
      refine lv_aload_n hx hb dX11_enters_8 rfl (lv_at hl 0 rfl) ?_
      refine j_geti hx hb hts hown hK hG (k := a0) (fun w h => List.mem_cons_of_mem _ (u_X11 w h)) (ci := 10) rfl ka0 33 (by decide) (jz := 33) rfl w_fl_RX11_244 dX11_enters_9 ?_
      obtain ⟨g8, h⟩ := h
      obtain ⟨g9, h⟩ := h
      refine j_icmp_ge (tgt := 137) hx hb dX11_enters_12 (by decide) g8 g9 (fun c7 => ?_) (fun c7 => ?_)
      · have h := h.1 c7
        rw [hQf]
        exact j_vret hx hb hr hlocks hG h (by decide) dX11_enters_137
      · have h := h.2 c7
        refine lv_aload_n hx hb dX11_enters_15 rfl (lv_at hl 0 rfl) ?_
        refine lv_iload_n hx hb dX11_enters_16 rfl (lv_at hl 1 rfl) ?_
        refine lv_iload_n hx hb dX11_enters_17 rfl (lv_at hl 3 rfl) ?_
        refine j_conti (va_runV (As := [.int (J a1), .int (J x3)]) (rest := []) ⟨hx, hb, hml, hown, hts⟩ (A_X11_takesPlace l ka0 h) (cwV 2 hts (gj_V ml_RX11_256 i_X11_takesPlace s_X11_takesPlace n_RX11 k_X11_takesPlace) rfl rfl rfl (by decide +kernel) ⟨by exact Nat.le_of_ble_eq_true rfl, by exact Nat.le_of_ble_eq_true rfl⟩) (j_preV hK hSX hG (ci := 10) rfl ka0 (by decide)) rfl rfl hl.1 rfl (lv_room (Nat.le_of_ble_eq_true rfl)) dX11_enters_18 ⟨by exact Nat.le_of_ble_eq_true rfl, by exact Nat.le_of_ble_eq_true rfl⟩) hG (c2 := 0) (s2 := 0) ⟨by exact Nat.le_of_ble_eq_true rfl, by exact Nat.le_of_ble_eq_true rfl⟩ (fun z10 M11 h H locs hG => ?_)
        obtain ⟨K50, hK50, h⟩ := h
        have jK50 : ∀ (M49 : jT), K50 M49 → ∀ (H : Heap) (locs : List Loc), GM D cy o M49 s.heap H locs → ∀ ls : Array Slot, lv_has ls 5 [(0, .ref (rA o a0)), (1, .int (J a1)), (2, .int (J a2)), (3, .int (J x3))] → W p l e rm_X11_enters s m args below meth c H locs 0 0 Qf (F0 m 131 ls []) := by
          intro M49 hcK50 H locs hG ls hl
          have h := hK50 M49 hcK50
          refine j_iinc hx hb dX11_enters_131 hl (k := 3) rfl (by decide) (fun x51 ex51 ls hl => ?_)
          have h := h x51 ex51
          have hl : lv_has ls 5 [(3, .int (J x51)), (0, .ref (rA o a0)), (1, .int (J a1)), (2, .int (J a2))] := hl
          refine lv_goto (tgt := 7) hx hb dX11_enters_134 (by decide) ?_
          obtain ⟨n52, ln52, iI5⟩ := h
          exact rI5 n52 ln52 x51 M49 iI5 H locs hG ls (lv_sub hl [1, 2, 3, 0] rfl)
        obtain ⟨g54, h⟩ := h
        refine j_if_eq (tgt := 131) hx hb dX11_enters_21 (by decide) g54 (fun c53 => ?_) (fun c53 => ?_)
        · have h := h.1 c53
          exact jK50 M11 h H locs hG ls (lv_sub hl [0, 1, 2, 3] rfl)
        · have h := h.2 c53
          refine lv_aload_n hx hb dX11_enters_24 rfl (lv_at hl 0 rfl) ?_
          refine j_geti hx hb hts hown hK hG (k := a0) (fun w h => List.mem_cons_of_mem _ (u_X11 w h)) (ci := 10) rfl ka0 28 (by decide) (jz := 28) rfl w_fl_RX11_213 dX11_enters_25 ?_
          refine lv_iload_n hx hb dX11_enters_28 rfl (lv_at hl 2 rfl) ?_
          obtain ⟨g56, h⟩ := h
          obtain ⟨g57, h⟩ := h
          refine j_icmp_ge (tgt := 35) hx hb dX11_enters_29 (by decide) g56 g57 (fun c55 => ?_) (fun c55 => ?_)
          · have h := h.1 c55
            refine lv_aload_n hx hb dX11_enters_35 rfl (lv_at hl 0 rfl) ?_
            refine lv_dup hx hb dX11_enters_36 rfl ?_
            refine j_geti hx hb hts hown hK hG (k := a0) (fun w h => List.mem_cons_of_mem _ (u_X11 w h)) (ci := 10) rfl ka0 36 (by decide) (jz := 36) rfl w_fl_RX11_268 dX11_enters_37 ?_
            refine lv_dup_x1 hx hb dX11_enters_40 rfl rfl ?_
            refine lv_iconst (v := J 1) hx hb dX11_enters_41 (by decide) ?_
            refine j_iadd hx hb dX11_enters_42 ?_
            refine j_puti hx hb hts hown hK hG (k := a0) (fun w h => List.mem_cons_of_mem _ (u_X11 w h)) tyX11 tyX11_ok nmX11 (ci := 10) rfl ka0 36 (by decide) (jz := 36) rfl w_fl_RX11_268 (hd := rfl) (hn := rfl) (hfit := rfl) (hdg := dX11_enters_43) (fun M58 eM58 H locs hG => ?_)
            have h := h M58 eM58
            refine j_topi (fun x59 ex59 => ?_)
            have h := h x59 ex59
            refine lv_istore (lv' := [(4, .int (J x59)), (0, .ref (rA o a0)), (1, .int (J a1)), (2, .int (J a2)), (3, .int (J x3))]) hx hb dX11_enters_46 hl (by decide) rfl (fun ls hl => ?_)
            obtain ⟨I62, ⟨n63s, iI62⟩, qI62⟩ := h
            have lI62 : ∀ (n63 : Nat) (x60 : Int) (M61 : jT), I62 n63 x60 M61 → ∀ (H : Heap) (locs : List Loc), GM D cy o M61 s.heap H locs → ∀ ls : Array Slot, lv_has ls 5 [(0, .ref (rA o a0)), (1, .int (J a1)), (2, .int (J a2)), (3, .int (J x3)), (4, .int (J x60))] → W p l e rm_X11_enters s m args below meth c H locs 0 0 Qf (F0 m 48 ls []) := by
              intro n63
              induction n63 using Nat.strongRecOn with
              | ind n63 rI62 =>
                intro x60 M61 iI62 H locs hG ls hl
                have h := qI62 n63 x60 M61 iI62
                refine lv_iload hx hb dX11_enters_48 (lv_at hl 4 rfl) ?_
                obtain ⟨K75, hK75, h⟩ := h
                have jK75 : K75 → ∀ (H : Heap) (locs : List Loc), GM D cy o M61 s.heap H locs → ∀ ls : Array Slot, lv_has ls 5 [(0, .ref (rA o a0)), (1, .int (J a1)), (2, .int (J a2)), (3, .int (J x3)), (4, .int (J x60))] → W p l e rm_X11_enters s m args below meth c H locs 0 0 Qf (F0 m 107 ls []) := by
                  intro hcK75 H locs hG ls hl
                  have h := hK75 hcK75
                  refine lv_aload_n hx hb dX11_enters_107 rfl (lv_at hl 0 rfl) ?_
                  refine j_getr hx hb hts hown hK hG (k := a0) (fun w h => List.mem_cons_of_mem _ (u_X11 w h)) (ci := 10) rfl ka0 34 (k2 := a0 + 20) (by decide) (by show a0 + (20 : Int) = a0 + 20; omega) w_fl_RX11_74 dX11_enters_108 ?_
                  refine lv_iload hx hb dX11_enters_111 (lv_at hl 4 rfl) ?_
                  refine lv_aload_n hx hb dX11_enters_113 rfl (lv_at hl 0 rfl) ?_
                  refine j_geti hx hb hts hown hK hG (k := a0) (fun w h => List.mem_cons_of_mem _ (u_X11 w h)) (ci := 10) rfl ka0 28 (by decide) (jz := 28) rfl w_fl_RX11_213 dX11_enters_114 ?_
                  obtain ⟨g76, h⟩ := h
                  refine j_iast hx hb hK hG (n := 400) (kf_11_34 ka0) (by decide) g76 dX11_enters_117 (fun M77 eM77 H locs hG => ?_)
                  have h := h M77 eM77
                  refine lv_aload_n hx hb dX11_enters_118 rfl (lv_at hl 0 rfl) ?_
                  refine j_getr hx hb hts hown hK hG (k := a0) (fun w h => List.mem_cons_of_mem _ (u_X11 w h)) (ci := 10) rfl ka0 35 (k2 := a0 + 21) (by decide) (by show a0 + (21 : Int) = a0 + 21; omega) w_fl_RX11_77 dX11_enters_119 ?_
                  refine lv_iload hx hb dX11_enters_122 (lv_at hl 4 rfl) ?_
                  refine lv_bipush (v := J 100) hx hb dX11_enters_124 (by decide) ?_
                  refine lv_iload_n hx hb dX11_enters_126 rfl (lv_at hl 1 rfl) ?_
                  refine j_imul hx hb dX11_enters_127 ?_
                  refine lv_iload_n hx hb dX11_enters_128 rfl (lv_at hl 3 rfl) ?_
                  refine j_iadd hx hb dX11_enters_129 ?_
                  refine j_iast hx hb hK hG (n := 400) (kf_11_35 ka0) (by decide) g76 dX11_enters_130 (fun M78 eM78 H locs hG => ?_)
                  have h := h M78 eM78
                  exact jK50 M78 h H locs hG ls (lv_sub hl [0, 1, 2, 3] rfl)
                obtain ⟨g80, h⟩ := h
                refine j_if_le (tgt := 107) hx hb dX11_enters_50 (by decide) g80 (fun c79 => ?_) (fun c79 => ?_)
                · have h := h.1 c79
                  exact jK75 h H locs hG ls (lv_sub hl [0, 1, 2, 3, 4] rfl)
                · have h := h.2 c79
                  refine lv_aload_n hx hb dX11_enters_53 rfl (lv_at hl 0 rfl) ?_
                  refine j_getr hx hb hts hown hK hG (k := a0) (fun w h => List.mem_cons_of_mem _ (u_X11 w h)) (ci := 10) rfl ka0 34 (k2 := a0 + 20) (by decide) (by show a0 + (20 : Int) = a0 + 20; omega) w_fl_RX11_74 dX11_enters_54 ?_
                  refine lv_iload hx hb dX11_enters_57 (lv_at hl 4 rfl) ?_
                  refine lv_iconst (v := J 1) hx hb dX11_enters_59 (by decide) ?_
                  refine j_isub hx hb dX11_enters_60 ?_
                  obtain ⟨g81, h⟩ := h
                  refine j_iald hx hb hK hG (n := 400) (kf_11_34 ka0) (by decide) g81 dX11_enters_61 ?_
                  refine lv_aload_n hx hb dX11_enters_62 rfl (lv_at hl 0 rfl) ?_
                  refine j_geti hx hb hts hown hK hG (k := a0) (fun w h => List.mem_cons_of_mem _ (u_X11 w h)) (ci := 10) rfl ka0 28 (by decide) (jz := 28) rfl w_fl_RX11_213 dX11_enters_63 ?_
                  obtain ⟨g83, h⟩ := h
                  obtain ⟨g84, h⟩ := h
                  refine j_icmp_le (tgt := 107) hx hb dX11_enters_66 (by decide) g83 g84 (fun c82 => ?_) (fun c82 => ?_)
                  · have h := h.1 c82
                    exact jK75 h H locs hG ls (lv_sub hl [0, 1, 2, 3, 4] rfl)
                  · have h := h.2 c82
                    refine lv_aload_n hx hb dX11_enters_69 rfl (lv_at hl 0 rfl) ?_
                    refine j_getr hx hb hts hown hK hG (k := a0) (fun w h => List.mem_cons_of_mem _ (u_X11 w h)) (ci := 10) rfl ka0 34 (k2 := a0 + 20) (by decide) (by show a0 + (20 : Int) = a0 + 20; omega) w_fl_RX11_74 dX11_enters_70 ?_
                    refine lv_iload hx hb dX11_enters_73 (lv_at hl 4 rfl) ?_
                    refine lv_aload_n hx hb dX11_enters_75 rfl (lv_at hl 0 rfl) ?_
                    refine j_getr hx hb hts hown hK hG (k := a0) (fun w h => List.mem_cons_of_mem _ (u_X11 w h)) (ci := 10) rfl ka0 34 (k2 := a0 + 20) (by decide) (by show a0 + (20 : Int) = a0 + 20; omega) w_fl_RX11_74 dX11_enters_76 ?_
                    refine lv_iload hx hb dX11_enters_79 (lv_at hl 4 rfl) ?_
                    refine lv_iconst (v := J 1) hx hb dX11_enters_81 (by decide) ?_
                    refine j_isub hx hb dX11_enters_82 ?_
                    refine j_iald hx hb hK hG (n := 400) (kf_11_34 ka0) (by decide) g81 dX11_enters_83 ?_
                    obtain ⟨g85, h⟩ := h
                    refine j_iast hx hb hK hG (n := 400) (kf_11_34 ka0) (by decide) g85 dX11_enters_84 (fun M86 eM86 H locs hG => ?_)
                    have h := h M86 eM86
                    refine lv_aload_n hx hb dX11_enters_85 rfl (lv_at hl 0 rfl) ?_
                    refine j_getr hx hb hts hown hK hG (k := a0) (fun w h => List.mem_cons_of_mem _ (u_X11 w h)) (ci := 10) rfl ka0 35 (k2 := a0 + 21) (by decide) (by show a0 + (21 : Int) = a0 + 21; omega) w_fl_RX11_77 dX11_enters_86 ?_
                    refine lv_iload hx hb dX11_enters_89 (lv_at hl 4 rfl) ?_
                    refine lv_aload_n hx hb dX11_enters_91 rfl (lv_at hl 0 rfl) ?_
                    refine j_getr hx hb hts hown hK hG (k := a0) (fun w h => List.mem_cons_of_mem _ (u_X11 w h)) (ci := 10) rfl ka0 35 (k2 := a0 + 21) (by decide) (by show a0 + (21 : Int) = a0 + 21; omega) w_fl_RX11_77 dX11_enters_92 ?_
                    refine lv_iload hx hb dX11_enters_95 (lv_at hl 4 rfl) ?_
                    refine lv_iconst (v := J 1) hx hb dX11_enters_97 (by decide) ?_
                    refine j_isub hx hb dX11_enters_98 ?_
                    refine j_iald hx hb hK hG (n := 400) (kf_11_35 ka0) (by decide) g81 dX11_enters_99 ?_
                    refine j_iast hx hb hK hG (n := 400) (kf_11_35 ka0) (by decide) g85 dX11_enters_100 (fun M87 eM87 H locs hG => ?_)
                    have h := h M87 eM87
                    refine j_iinc hx hb dX11_enters_101 hl (k := 4) rfl (by decide) (fun x88 ex88 ls hl => ?_)
                    have h := h x88 ex88
                    have hl : lv_has ls 5 [(4, .int (J x88)), (0, .ref (rA o a0)), (1, .int (J a1)), (2, .int (J a2)), (3, .int (J x3))] := hl
                    refine lv_goto (tgt := 48) hx hb dX11_enters_104 (by decide) ?_
                    obtain ⟨n89, ln89, iI62⟩ := h
                    exact rI62 n89 ln89 x88 M87 iI62 H locs hG ls (lv_sub hl [1, 2, 3, 4, 0] rfl)
            exact lI62 n63s x59 M58 iI62 H locs hG ls (lv_sub hl [1, 2, 3, 4, 0] rfl)
          · have h := h.2 c55
            refine lv_goto (tgt := 131) hx hb dX11_enters_32 (by decide) ?_
            exact jK50 M11 h H locs hG ls (lv_sub hl [0, 1, 2, 3] rfl)
  exact lI5 n6s 0 M2 iI5 H locs hG ls (lv_sub hl [1, 2, 3, 0] rfl)

abbrev rm_X11_next : Room := { frames := 10, cells := 0, slots := 0, locals := 241 }
set_option maxRecDepth 100000 in
set_option maxHeartbeats 4000000 in
theorem A_X11_next (l : Launch) {D : va_G} {cy : Nat → ClassId} {o : Nat} {sK sV : Nat → Nat} {M : jT} {a0 : Int} {a1 : Int} {a2 : Int} (ka0 : kd a0 = 11) {Q : Int → jT → Prop} (h : wp_X11_next M a0 a1 a2 Q) : CoI l yX11_next (wj yX11_next cX11_next 3 (some .int)) rm_X11_next D cy o sK sV M [.ref (rA o a0), .int (J a1), .int (J a2)] Q := by
  refine j_ofW (cc := cX11_next) (maxL := 3) (ret := (some .int)) (by decide) rfl (Nat.le_of_ble_eq_true rfl) ?_
  intro p e s m args below meth c hx hb hr hlocks hml hown hts hK hSX H locs hG ls hl Qf hQf
  have hown : s.vm.findClass RX11 = some m.cls := hown
  have hl : lv_has ls 3 [(0, .ref (rA o a0)), (1, .int (J a1)), (2, .int (J a2))] := hl
  have w_fl_RX11_80 := hts _ (List.mem_cons_of_mem _ fl_RX11_80)
  have w_fl_RX11_268 := hts _ (List.mem_cons_of_mem _ fl_RX11_268)
  have w_fl_RX11_77 := hts _ (List.mem_cons_of_mem _ fl_RX11_77)
  unfold wp_X11_next at h
  refine lv_aload_n hx hb dX11_next_0 rfl (lv_at hl 0 rfl) ?_
  refine lv_iconst (v := J 0) hx hb dX11_next_1 (by decide) ?_
  refine j_puti hx hb hts hown hK hG (k := a0) (fun w h => List.mem_cons_of_mem _ (u_X11 w h)) tyX11 tyX11_ok nmX11 (ci := 10) rfl ka0 0 (by decide) (jz := 0) rfl w_fl_RX11_80 (hd := rfl) (hn := rfl) (hfit := rfl) (hdg := dX11_next_2) (fun M1 eM1 H locs hG => ?_)
  have h := h M1 eM1
  refine lv_aload_n hx hb dX11_next_5 rfl (lv_at hl 0 rfl) ?_
  refine lv_iload_n hx hb dX11_next_6 rfl (lv_at hl 1 rfl) ?_
  obtain ⟨g2, h⟩ := h
  refine j_conti (va_runV (As := [.int (J a1)]) (rest := []) ⟨hx, hb, hml, hown, hts⟩ (A_X11_isMeeting l ka0 g2) (cwV 1 hts (gj_V ml_RX11_238 i_X11_isMeeting s_X11_isMeeting n_RX11 k_X11_isMeeting) rfl rfl rfl (by decide +kernel) ⟨by exact Nat.le_of_ble_eq_true rfl, by exact Nat.le_of_ble_eq_true rfl⟩) (j_preV hK hSX hG (ci := 10) rfl ka0 (by decide)) rfl rfl hl.1 rfl (lv_room (Nat.le_of_ble_eq_true rfl)) dX11_next_7 ⟨by exact Nat.le_of_ble_eq_true rfl, by exact Nat.le_of_ble_eq_true rfl⟩) hG (c2 := 0) (s2 := 0) ⟨by exact Nat.le_of_ble_eq_true rfl, by exact Nat.le_of_ble_eq_true rfl⟩ (fun z3 M4 ez3 H locs hG => ?_)
  obtain ⟨ez3, eM4⟩ := ez3
  subst ez3
  rw [eM4] at hG
  refine j_if_ne_b (tgt := 19) hx hb dX11_next_10 (by decide) (fun c5 => ?_) (fun c5 => ?_)
  · have h := h.1 c5
    refine lv_iload_n hx hb dX11_next_19 rfl (lv_at hl 2 rfl) ?_
    obtain ⟨g6, h⟩ := h
    refine j_conti (va_runS (As := [.int (J a2)]) (rest := []) ⟨hx, hb, hml, hown, hts⟩ (A_X11_isInstant l g6) (va_cwS 1 hts (gj_S ml_RX11_203 i_X11_isInstant n_RX11 k_X11_isInstant) rfl rfl rfl (by decide +kernel) ⟨by exact Nat.le_of_ble_eq_true rfl, by exact Nat.le_of_ble_eq_true rfl⟩) (j_preS hK hSX hG) rfl rfl hl.1 rfl (lv_room (Nat.le_of_ble_eq_true rfl)) dX11_next_20 ⟨by exact Nat.le_of_ble_eq_true rfl, by exact Nat.le_of_ble_eq_true rfl⟩) hG (c2 := 0) (s2 := 0) ⟨by exact Nat.le_of_ble_eq_true rfl, by exact Nat.le_of_ble_eq_true rfl⟩ (fun z7 M8 ez7 H locs hG => ?_)
    obtain ⟨ez7, eM8⟩ := ez7
    subst ez7
    rw [eM8] at hG
    refine j_if_ne_b (tgt := 32) hx hb dX11_next_23 (by decide) (fun c9 => ?_) (fun c9 => ?_)
    · have h := h.1 c9
      refine lv_aload_n hx hb dX11_next_32 rfl (lv_at hl 0 rfl) ?_
      refine lv_iconst (v := J 0) hx hb dX11_next_33 (by decide) ?_
      refine j_puti hx hb hts hown hK hG (k := a0) (fun w h => List.mem_cons_of_mem _ (u_X11 w h)) tyX11 tyX11_ok nmX11 (ci := 10) rfl ka0 36 (by decide) (jz := 36) rfl w_fl_RX11_268 (hd := rfl) (hn := rfl) (hfit := rfl) (hdg := dX11_next_34) (fun M10 eM10 H locs hG => ?_)
      have h := h M10 eM10
      refine lv_aload_n hx hb dX11_next_37 rfl (lv_at hl 0 rfl) ?_
      refine lv_iload_n hx hb dX11_next_38 rfl (lv_at hl 1 rfl) ?_
      refine lv_iload_n hx hb dX11_next_39 rfl (lv_at hl 2 rfl) ?_
      refine j_contv (va_runV (As := [.int (J a1), .int (J a2)]) (rest := []) ⟨hx, hb, hml, hown, hts⟩ (A_X11_enters l ka0 h) (cwV 2 hts (gj_V ml_RX11_271 i_X11_enters s_X11_enters n_RX11 k_X11_enters) rfl rfl rfl (by decide +kernel) ⟨by exact Nat.le_of_ble_eq_true rfl, by exact Nat.le_of_ble_eq_true rfl⟩) (j_preV hK hSX hG (ci := 10) rfl ka0 (by decide)) rfl rfl hl.1 rfl (lv_room (Nat.le_of_ble_eq_true rfl)) dX11_next_40 ⟨by exact Nat.le_of_ble_eq_true rfl, by exact Nat.le_of_ble_eq_true rfl⟩) hG (c2 := 0) (s2 := 0) ⟨by exact Nat.le_of_ble_eq_true rfl, by exact Nat.le_of_ble_eq_true rfl⟩ (fun M12 h H locs hG => ?_)
      refine lv_aload_n hx hb dX11_next_43 rfl (lv_at hl 0 rfl) ?_
      refine j_geti hx hb hts hown hK hG (k := a0) (fun w h => List.mem_cons_of_mem _ (u_X11 w h)) (ci := 10) rfl ka0 36 (by decide) (jz := 36) rfl w_fl_RX11_268 dX11_next_44 ?_
      obtain ⟨K20, hK20, h⟩ := h
      have jK20 : ∀ (x18 : Int) (M19 : jT), K20 x18 M19 → ∀ (H : Heap) (locs : List Loc), GM D cy o M19 s.heap H locs → ∀ ls : Array Slot, lv_has ls 3 [] → W p l e rm_X11_next s m args below meth c H locs 0 0 Qf (F0 m 67 ls [.int (J x18)]) := by
        intro x18 M19 hcK20 H locs hG ls hl
        have h := hK20 x18 M19 hcK20
        rw [hQf]
        exact j_ireti hx hb hr hlocks hG h (by decide) dX11_next_67
      obtain ⟨g22, h⟩ := h
      refine j_if_ne (tgt := 58) hx hb dX11_next_47 (by decide) g22 (fun c21 => ?_) (fun c21 => ?_)
      · have h := h.1 c21
        refine lv_aload_n hx hb dX11_next_58 rfl (lv_at hl 0 rfl) ?_
        refine j_getr hx hb hts hown hK hG (k := a0) (fun w h => List.mem_cons_of_mem _ (u_X11 w h)) (ci := 10) rfl ka0 35 (k2 := a0 + 21) (by decide) (by show a0 + (21 : Int) = a0 + 21; omega) w_fl_RX11_77 dX11_next_59 ?_
        refine lv_iconst (v := J 0) hx hb dX11_next_62 (by decide) ?_
        refine j_iald hx hb hK hG (n := 400) (kf_11_35 ka0) (by decide) (by decide) dX11_next_63 ?_
        refine lv_bipush (v := J 100) hx hb dX11_next_64 (by decide) ?_
        obtain ⟨g23, h⟩ := h
        refine j_irem hx hb dX11_next_66 g23 (by decide) ?_
        exact jK20 ((M12 (a0 + 21) 0) % 100) M12 h H locs hG ls (lv_sub hl [] rfl)
      · have h := h.2 c21
        refine lv_aload_n hx hb dX11_next_50 rfl (lv_at hl 0 rfl) ?_
        refine lv_iconst (v := J 3) hx hb dX11_next_51 (by decide) ?_
        refine j_conti (va_runV (As := [.int (J 3)]) (rest := []) ⟨hx, hb, hml, hown, hts⟩ (A_X11_raises l ka0 h) (cwV 1 hts (gj_V ml_RX11_110 i_X11_raises s_X11_raises n_RX11 k_X11_raises) rfl rfl rfl (by decide +kernel) ⟨by exact Nat.le_of_ble_eq_true rfl, by exact Nat.le_of_ble_eq_true rfl⟩) (j_preV hK hSX hG (ci := 10) rfl ka0 (by decide)) rfl rfl hl.1 rfl (lv_room (Nat.le_of_ble_eq_true rfl)) dX11_next_52 ⟨by exact Nat.le_of_ble_eq_true rfl, by exact Nat.le_of_ble_eq_true rfl⟩) hG (c2 := 0) (s2 := 0) ⟨by exact Nat.le_of_ble_eq_true rfl, by exact Nat.le_of_ble_eq_true rfl⟩ (fun z24 M25 h H locs hG => ?_)
        refine lv_goto (tgt := 67) hx hb dX11_next_55 (by decide) ?_
        exact jK20 z24 M25 h H locs hG ls (lv_sub hl [] rfl)
    · have h := h.2 c9
      refine lv_aload_n hx hb dX11_next_26 rfl (lv_at hl 0 rfl) ?_
      refine lv_iconst (v := J 2) hx hb dX11_next_27 (by decide) ?_
      refine j_conti (va_runV (As := [.int (J 2)]) (rest := []) ⟨hx, hb, hml, hown, hts⟩ (A_X11_raises l ka0 h) (cwV 1 hts (gj_V ml_RX11_110 i_X11_raises s_X11_raises n_RX11 k_X11_raises) rfl rfl rfl (by decide +kernel) ⟨by exact Nat.le_of_ble_eq_true rfl, by exact Nat.le_of_ble_eq_true rfl⟩) (j_preV hK hSX hG (ci := 10) rfl ka0 (by decide)) rfl rfl hl.1 rfl (lv_room (Nat.le_of_ble_eq_true rfl)) dX11_next_28 ⟨by exact Nat.le_of_ble_eq_true rfl, by exact Nat.le_of_ble_eq_true rfl⟩) hG (c2 := 0) (s2 := 0) ⟨by exact Nat.le_of_ble_eq_true rfl, by exact Nat.le_of_ble_eq_true rfl⟩ (fun z26 M27 h H locs hG => ?_)
      rw [hQf]
      exact j_ireti hx hb hr hlocks hG h (by decide) dX11_next_31
  · have h := h.2 c5
    refine lv_aload_n hx hb dX11_next_13 rfl (lv_at hl 0 rfl) ?_
    refine lv_iconst (v := J 1) hx hb dX11_next_14 (by decide) ?_
    refine j_conti (va_runV (As := [.int (J 1)]) (rest := []) ⟨hx, hb, hml, hown, hts⟩ (A_X11_raises l ka0 h) (cwV 1 hts (gj_V ml_RX11_110 i_X11_raises s_X11_raises n_RX11 k_X11_raises) rfl rfl rfl (by decide +kernel) ⟨by exact Nat.le_of_ble_eq_true rfl, by exact Nat.le_of_ble_eq_true rfl⟩) (j_preV hK hSX hG (ci := 10) rfl ka0 (by decide)) rfl rfl hl.1 rfl (lv_room (Nat.le_of_ble_eq_true rfl)) dX11_next_15 ⟨by exact Nat.le_of_ble_eq_true rfl, by exact Nat.le_of_ble_eq_true rfl⟩) hG (c2 := 0) (s2 := 0) ⟨by exact Nat.le_of_ble_eq_true rfl, by exact Nat.le_of_ble_eq_true rfl⟩ (fun z28 M29 h H locs hG => ?_)
    rw [hQf]
    exact j_ireti hx hb hr hlocks hG h (by decide) dX11_next_18

abbrev rm_X11_entersAll : Room := { frames := 10, cells := 0, slots := 0, locals := 241 }
set_option maxRecDepth 100000 in
set_option maxHeartbeats 4000000 in
theorem A_X11_entersAll (l : Launch) {D : va_G} {cy : Nat → ClassId} {o : Nat} {sK sV : Nat → Nat} {M : jT} {a0 : Int} {a1 : Int} (ka0 : kd a0 = 11) {Q : jT → Prop} (h : wp_X11_entersAll M a0 a1 Q) : CoV l yX11_entersAll (wj yX11_entersAll cX11_entersAll 3 none) rm_X11_entersAll D cy o sK sV M [.ref (rA o a0), .int (J a1)] Q := by
  refine j_ofW (cc := cX11_entersAll) (maxL := 3) (ret := none) (by decide) rfl (Nat.le_of_ble_eq_true rfl) ?_
  intro p e s m args below meth c hx hb hr hlocks hml hown hts hK hSX H locs hG ls hl Qf hQf
  have hown : s.vm.findClass RX11 = some m.cls := hown
  have hl : lv_has ls 3 [(0, .ref (rA o a0)), (1, .int (J a1))] := hl
  have w_fl_RX11_268 := hts _ (List.mem_cons_of_mem _ fl_RX11_268)
  have w_fl_RX11_9 := hts _ (List.mem_cons_of_mem _ fl_RX11_9)
  unfold wp_X11_entersAll at h
  refine lv_aload_n hx hb dX11_entersAll_0 rfl (lv_at hl 0 rfl) ?_
  refine lv_iconst (v := J 0) hx hb dX11_entersAll_1 (by decide) ?_
  refine j_puti hx hb hts hown hK hG (k := a0) (fun w h => List.mem_cons_of_mem _ (u_X11 w h)) tyX11 tyX11_ok nmX11 (ci := 10) rfl ka0 36 (by decide) (jz := 36) rfl w_fl_RX11_268 (hd := rfl) (hn := rfl) (hfit := rfl) (hdg := dX11_entersAll_2) (fun M1 eM1 H locs hG => ?_)
  have h := h M1 eM1
  refine lv_iconst (v := J 0) hx hb dX11_entersAll_5 (by decide) ?_
  refine lv_istore_n (lv' := [(2, .int (J 0)), (0, .ref (rA o a0)), (1, .int (J a1))]) hx hb dX11_entersAll_6 rfl hl (by decide) rfl (fun ls hl => ?_)
  obtain ⟨I4, ⟨n5s, iI4⟩, qI4⟩ := h
  have lI4 : ∀ (n5 : Nat) (x2 : Int) (M3 : jT), I4 n5 x2 M3 → ∀ (H : Heap) (locs : List Loc), GM D cy o M3 s.heap H locs → ∀ ls : Array Slot, lv_has ls 3 [(0, .ref (rA o a0)), (1, .int (J a1)), (2, .int (J x2))] → W p l e rm_X11_entersAll s m args below meth c H locs 0 0 Qf (F0 m 7 ls []) := by
    intro n5
    induction n5 using Nat.strongRecOn with
    | ind n5 rI4 =>
      intro x2 M3 iI4 H locs hG ls hl
      have h := qI4 n5 x2 M3 iI4
      refine lv_iload_n hx hb dX11_entersAll_7 rfl (lv_at hl 2 rfl) ?_
      refine lv_aload_n hx hb dX11_entersAll_8 rfl (lv_at hl 0 rfl) ?_
      refine j_getr hx hb hts hown hK hG (k := a0) (fun w h => List.mem_cons_of_mem _ (u_X11 w h)) (ci := 10) rfl ka0 1 (k2 := a0 + 1) (by decide) (by show a0 + (1 : Int) = a0 + 1; omega) w_fl_RX11_9 dX11_entersAll_9 ?_
      refine lv_iconst (v := J 1) hx hb dX11_entersAll_12 (by decide) ?_
      refine j_iald hx hb hK hG (n := 1294) (kf_11_1 ka0) (by decide) (by decide) dX11_entersAll_13 ?_
      obtain ⟨g7, h⟩ := h
      obtain ⟨g8, h⟩ := h
      refine j_icmp_ge (tgt := 29) hx hb dX11_entersAll_14 (by decide) g7 g8 (fun c6 => ?_) (fun c6 => ?_)
      · have h := h.1 c6
        rw [hQf]
        exact j_vret hx hb hr hlocks hG h (by decide) dX11_entersAll_29
      · have h := h.2 c6
        refine lv_aload_n hx hb dX11_entersAll_17 rfl (lv_at hl 0 rfl) ?_
        refine lv_iload_n hx hb dX11_entersAll_18 rfl (lv_at hl 2 rfl) ?_
        refine lv_iload_n hx hb dX11_entersAll_19 rfl (lv_at hl 1 rfl) ?_
        refine j_contv (va_runV (As := [.int (J x2), .int (J a1)]) (rest := []) ⟨hx, hb, hml, hown, hts⟩ (A_X11_enters l ka0 h) (cwV 2 hts (gj_V ml_RX11_271 i_X11_enters s_X11_enters n_RX11 k_X11_enters) rfl rfl rfl (by decide +kernel) ⟨by exact Nat.le_of_ble_eq_true rfl, by exact Nat.le_of_ble_eq_true rfl⟩) (j_preV hK hSX hG (ci := 10) rfl ka0 (by decide)) rfl rfl hl.1 rfl (lv_room (Nat.le_of_ble_eq_true rfl)) dX11_entersAll_20 ⟨by exact Nat.le_of_ble_eq_true rfl, by exact Nat.le_of_ble_eq_true rfl⟩) hG (c2 := 0) (s2 := 0) ⟨by exact Nat.le_of_ble_eq_true rfl, by exact Nat.le_of_ble_eq_true rfl⟩ (fun M10 h H locs hG => ?_)
        refine j_iinc hx hb dX11_entersAll_23 hl (k := 2) rfl (by decide) (fun x11 ex11 ls hl => ?_)
        have h := h x11 ex11
        have hl : lv_has ls 3 [(2, .int (J x11)), (0, .ref (rA o a0)), (1, .int (J a1))] := hl
        refine lv_goto (tgt := 7) hx hb dX11_entersAll_26 (by decide) ?_
        obtain ⟨n12, ln12, iI4⟩ := h
        exact rI4 n12 ln12 x11 M10 iI4 H locs hG ls (lv_sub hl [1, 2, 0] rfl)
  exact lI4 n5s 0 M1 iI4 H locs hG ls (lv_sub hl [1, 2, 0] rfl)

abbrev rm_X11_durationOf : Room := { frames := 1, cells := 0, slots := 0, locals := 20 }
set_option maxRecDepth 100000 in
set_option maxHeartbeats 4000000 in
theorem A_X11_durationOf (l : Launch) {D : va_G} {cy : Nat → ClassId} {o : Nat} {sK sV : Nat → Nat} {M : jT} {a0 : Int} {a1 : Int} (ka0 : kd a0 = 11) (h : pg_X11_durationOf M a0 a1) : CoI l yX11_durationOf (wj yX11_durationOf cX11_durationOf 2 (some .int)) rm_X11_durationOf D cy o sK sV M [.ref (rA o a0), .int (J a1)] (fun z M9 => z = pf_X11_durationOf M a0 a1 ∧ M9 = M) := by
  refine j_ofW (cc := cX11_durationOf) (maxL := 2) (ret := (some .int)) (by decide) rfl (Nat.le_of_ble_eq_true rfl) ?_
  intro p e s m args below meth c hx hb hr hlocks hml hown hts hK hSX H locs hG ls hl Qf hQf
  have hown : s.vm.findClass RX11 = some m.cls := hown
  have hl : lv_has ls 2 [(0, .ref (rA o a0)), (1, .int (J a1))] := hl
  have w_fl_RX11_9 := hts _ (List.mem_cons_of_mem _ fl_RX11_9)
  unfold pg_X11_durationOf at h
  refine lv_aload_n hx hb dX11_durationOf_0 rfl (lv_at hl 0 rfl) ?_
  refine j_getr hx hb hts hown hK hG (k := a0) (fun w h => List.mem_cons_of_mem _ (u_X11 w h)) (ci := 10) rfl ka0 1 (k2 := a0 + 1) (by decide) (by show a0 + (1 : Int) = a0 + 1; omega) w_fl_RX11_9 dX11_durationOf_1 ?_
  refine lv_iload_n hx hb dX11_durationOf_4 rfl (lv_at hl 1 rfl) ?_
  refine lv_bipush (v := J 100) hx hb dX11_durationOf_5 (by decide) ?_
  obtain ⟨g1, h⟩ := h
  refine j_idiv hx hb dX11_durationOf_7 g1 (by decide) ?_
  refine j_conti (va_runS (As := [.int (J (a1 / 100))]) (rest := [.ref (rA o (a0 + 1))]) ⟨hx, hb, hml, hown, hts⟩ (A_X11_meetingAt l) (va_cwS 1 hts (gj_S ml_RX11_145 i_X11_meetingAt n_RX11 k_X11_meetingAt) rfl rfl rfl (by decide +kernel) ⟨by exact Nat.le_of_ble_eq_true rfl, by exact Nat.le_of_ble_eq_true rfl⟩) (j_preS hK hSX hG) rfl rfl hl.1 rfl (lv_room (Nat.le_of_ble_eq_true rfl)) dX11_durationOf_8 ⟨by exact Nat.le_of_ble_eq_true rfl, by exact Nat.le_of_ble_eq_true rfl⟩) hG (c2 := 0) (s2 := 0) ⟨by exact Nat.le_of_ble_eq_true rfl, by exact Nat.le_of_ble_eq_true rfl⟩ (fun z2 M3 ez2 H locs hG => ?_)
  obtain ⟨ez2, eM3⟩ := ez2
  subst ez2
  rw [eM3] at hG
  refine lv_iconst (v := J 3) hx hb dX11_durationOf_11 (by decide) ?_
  refine j_iadd hx hb dX11_durationOf_12 ?_
  obtain ⟨g4, h⟩ := h
  refine j_iald hx hb hK hG (n := 1294) (kf_11_1 ka0) (by decide) g4 dX11_durationOf_13 ?_
  rw [hQf]
  exact j_ireti hx hb hr hlocks hG ⟨rfl, rfl⟩ (by decide) dX11_durationOf_14

abbrev rm_X11_clash : Room := { frames := 10, cells := 0, slots := 0, locals := 241 }
set_option maxRecDepth 100000 in
set_option maxHeartbeats 4000000 in
theorem A_X11_clash (l : Launch) {D : va_G} {cy : Nat → ClassId} {o : Nat} {sK sV : Nat → Nat} {M : jT} {a0 : Int} {a1 : Int} {a2 : Int} (ka0 : kd a0 = 11) {Q : Int → jT → Prop} (h : wp_X11_clash M a0 a1 a2 Q) : CoI l yX11_clash (wj yX11_clash cX11_clash 7 (some .int)) rm_X11_clash D cy o sK sV M [.ref (rA o a0), .int (J a1), .int (J a2)] Q := by
  refine j_ofW (cc := cX11_clash) (maxL := 7) (ret := (some .int)) (by decide) rfl (Nat.le_of_ble_eq_true rfl) ?_
  intro p e s m args below meth c hx hb hr hlocks hml hown hts hK hSX H locs hG ls hl Qf hQf
  have hown : s.vm.findClass RX11 = some m.cls := hown
  have hl : lv_has ls 7 [(0, .ref (rA o a0)), (1, .int (J a1)), (2, .int (J a2))] := hl
  have w_fl_RX11_80 := hts _ (List.mem_cons_of_mem _ fl_RX11_80)
  have w_fl_RX11_268 := hts _ (List.mem_cons_of_mem _ fl_RX11_268)
  have w_fl_RX11_77 := hts _ (List.mem_cons_of_mem _ fl_RX11_77)
  have w_fl_RX11_74 := hts _ (List.mem_cons_of_mem _ fl_RX11_74)
  unfold wp_X11_clash at h
  refine lv_aload_n hx hb dX11_clash_0 rfl (lv_at hl 0 rfl) ?_
  refine lv_iconst (v := J 0) hx hb dX11_clash_1 (by decide) ?_
  refine j_puti hx hb hts hown hK hG (k := a0) (fun w h => List.mem_cons_of_mem _ (u_X11 w h)) tyX11 tyX11_ok nmX11 (ci := 10) rfl ka0 0 (by decide) (jz := 0) rfl w_fl_RX11_80 (hd := rfl) (hn := rfl) (hfit := rfl) (hdg := dX11_clash_2) (fun M1 eM1 H locs hG => ?_)
  have h := h M1 eM1
  refine lv_aload_n hx hb dX11_clash_5 rfl (lv_at hl 0 rfl) ?_
  refine lv_iload_n hx hb dX11_clash_6 rfl (lv_at hl 1 rfl) ?_
  obtain ⟨g2, h⟩ := h
  refine j_conti (va_runV (As := [.int (J a1)]) (rest := []) ⟨hx, hb, hml, hown, hts⟩ (A_X11_isMeeting l ka0 g2) (cwV 1 hts (gj_V ml_RX11_238 i_X11_isMeeting s_X11_isMeeting n_RX11 k_X11_isMeeting) rfl rfl rfl (by decide +kernel) ⟨by exact Nat.le_of_ble_eq_true rfl, by exact Nat.le_of_ble_eq_true rfl⟩) (j_preV hK hSX hG (ci := 10) rfl ka0 (by decide)) rfl rfl hl.1 rfl (lv_room (Nat.le_of_ble_eq_true rfl)) dX11_clash_7 ⟨by exact Nat.le_of_ble_eq_true rfl, by exact Nat.le_of_ble_eq_true rfl⟩) hG (c2 := 0) (s2 := 0) ⟨by exact Nat.le_of_ble_eq_true rfl, by exact Nat.le_of_ble_eq_true rfl⟩ (fun z3 M4 ez3 H locs hG => ?_)
  obtain ⟨ez3, eM4⟩ := ez3
  subst ez3
  rw [eM4] at hG
  obtain ⟨K134, hK134, h⟩ := h
  have jK134 : K134 → ∀ (H : Heap) (locs : List Loc), GM D cy o M1 s.heap H locs → ∀ ls : Array Slot, lv_has ls 7 [(0, .ref (rA o a0))] → W p l e rm_X11_clash s m args below meth c H locs 0 0 Qf (F0 m 21 ls []) := by
    intro hcK134 H locs hG ls hl
    have h := hK134 hcK134
    refine lv_aload_n hx hb dX11_clash_21 rfl (lv_at hl 0 rfl) ?_
    refine lv_iconst (v := J 1) hx hb dX11_clash_22 (by decide) ?_
    refine j_conti (va_runV (As := [.int (J 1)]) (rest := []) ⟨hx, hb, hml, hown, hts⟩ (A_X11_raises l ka0 h) (cwV 1 hts (gj_V ml_RX11_110 i_X11_raises s_X11_raises n_RX11 k_X11_raises) rfl rfl rfl (by decide +kernel) ⟨by exact Nat.le_of_ble_eq_true rfl, by exact Nat.le_of_ble_eq_true rfl⟩) (j_preV hK hSX hG (ci := 10) rfl ka0 (by decide)) rfl rfl hl.1 rfl (lv_room (Nat.le_of_ble_eq_true rfl)) dX11_clash_23 ⟨by exact Nat.le_of_ble_eq_true rfl, by exact Nat.le_of_ble_eq_true rfl⟩) hG (c2 := 0) (s2 := 0) ⟨by exact Nat.le_of_ble_eq_true rfl, by exact Nat.le_of_ble_eq_true rfl⟩ (fun z135 M136 h H locs hG => ?_)
    rw [hQf]
    exact j_ireti hx hb hr hlocks hG h (by decide) dX11_clash_26
  refine j_if_eq_b (tgt := 21) hx hb dX11_clash_10 (by decide) (fun c137 => ?_) (fun c137 => ?_)
  · have h := h.1 c137
    exact jK134 h H locs hG ls (lv_sub hl [0] rfl)
  · have h := h.2 c137
    refine lv_aload_n hx hb dX11_clash_13 rfl (lv_at hl 0 rfl) ?_
    refine lv_iload_n hx hb dX11_clash_14 rfl (lv_at hl 2 rfl) ?_
    obtain ⟨g138, h⟩ := h
    refine j_conti (va_runV (As := [.int (J a2)]) (rest := []) ⟨hx, hb, hml, hown, hts⟩ (A_X11_isMeeting l ka0 g138) (cwV 1 hts (gj_V ml_RX11_238 i_X11_isMeeting s_X11_isMeeting n_RX11 k_X11_isMeeting) rfl rfl rfl (by decide +kernel) ⟨by exact Nat.le_of_ble_eq_true rfl, by exact Nat.le_of_ble_eq_true rfl⟩) (j_preV hK hSX hG (ci := 10) rfl ka0 (by decide)) rfl rfl hl.1 rfl (lv_room (Nat.le_of_ble_eq_true rfl)) dX11_clash_15 ⟨by exact Nat.le_of_ble_eq_true rfl, by exact Nat.le_of_ble_eq_true rfl⟩) hG (c2 := 0) (s2 := 0) ⟨by exact Nat.le_of_ble_eq_true rfl, by exact Nat.le_of_ble_eq_true rfl⟩ (fun z139 M140 ez139 H locs hG => ?_)
    obtain ⟨ez139, eM140⟩ := ez139
    subst ez139
    rw [eM140] at hG
    refine j_if_ne_b (tgt := 27) hx hb dX11_clash_18 (by decide) (fun c141 => ?_) (fun c141 => ?_)
    · have h := h.1 c141
      refine lv_aload_n hx hb dX11_clash_27 rfl (lv_at hl 0 rfl) ?_
      refine lv_iconst (v := J 0) hx hb dX11_clash_28 (by decide) ?_
      refine j_puti hx hb hts hown hK hG (k := a0) (fun w h => List.mem_cons_of_mem _ (u_X11 w h)) tyX11 tyX11_ok nmX11 (ci := 10) rfl ka0 36 (by decide) (jz := 36) rfl w_fl_RX11_268 (hd := rfl) (hn := rfl) (hfit := rfl) (hdg := dX11_clash_29) (fun M142 eM142 H locs hG => ?_)
      have h := h M142 eM142
      refine lv_aload_n hx hb dX11_clash_32 rfl (lv_at hl 0 rfl) ?_
      refine lv_iload_n hx hb dX11_clash_33 rfl (lv_at hl 1 rfl) ?_
      refine lv_sipush (v := J (-2000)) hx hb dX11_clash_34 (by decide) ?_
      refine j_contv (va_runV (As := [.int (J a1), .int (J ((-2000)))]) (rest := []) ⟨hx, hb, hml, hown, hts⟩ (A_X11_enters l ka0 h) (cwV 2 hts (gj_V ml_RX11_271 i_X11_enters s_X11_enters n_RX11 k_X11_enters) rfl rfl rfl (by decide +kernel) ⟨by exact Nat.le_of_ble_eq_true rfl, by exact Nat.le_of_ble_eq_true rfl⟩) (j_preV hK hSX hG (ci := 10) rfl ka0 (by decide)) rfl rfl hl.1 rfl (lv_room (Nat.le_of_ble_eq_true rfl)) dX11_clash_37 ⟨by exact Nat.le_of_ble_eq_true rfl, by exact Nat.le_of_ble_eq_true rfl⟩) hG (c2 := 0) (s2 := 0) ⟨by exact Nat.le_of_ble_eq_true rfl, by exact Nat.le_of_ble_eq_true rfl⟩ (fun M144 h H locs hG => ?_)
      refine lv_iload_n hx hb dX11_clash_40 rfl (lv_at hl 1 rfl) ?_
      refine lv_iload_n hx hb dX11_clash_41 rfl (lv_at hl 2 rfl) ?_
      obtain ⟨K151, hK151, h⟩ := h
      have jK151 : ∀ (M150 : jT), K151 M150 → ∀ (H : Heap) (locs : List Loc), GM D cy o M150 s.heap H locs → ∀ ls : Array Slot, lv_has ls 7 [(0, .ref (rA o a0)), (1, .int (J a1)), (2, .int (J a2))] → W p l e rm_X11_clash s m args below meth c H locs 0 0 Qf (F0 m 53 ls []) := by
        intro M150 hcK151 H locs hG ls hl
        have h := hK151 M150 hcK151
        refine lv_iconst (v := J (-1)) hx hb dX11_clash_53 (by decide) ?_
        refine lv_istore_n (lv' := [(3, .int (J ((-1)))), (0, .ref (rA o a0)), (1, .int (J a1)), (2, .int (J a2))]) hx hb dX11_clash_54 rfl hl (by decide) rfl (fun ls hl => ?_)
        refine lv_iconst (v := J 0) hx hb dX11_clash_55 (by decide) ?_
        refine lv_istore (lv' := [(4, .int (J 0)), (3, .int (J ((-1)))), (0, .ref (rA o a0)), (1, .int (J a1)), (2, .int (J a2))]) hx hb dX11_clash_56 hl (by decide) rfl (fun ls hl => ?_)
        obtain ⟨I154, ⟨n155s, iI154⟩, qI154⟩ := h
        have lI154 : ∀ (n155 : Nat) (x152 : Int) (x153 : Int), I154 n155 x152 x153 → ∀ (H : Heap) (locs : List Loc), GM D cy o M150 s.heap H locs → ∀ ls : Array Slot, lv_has ls 7 [(0, .ref (rA o a0)), (1, .int (J a1)), (2, .int (J a2)), (3, .int (J x152)), (4, .int (J x153))] → W p l e rm_X11_clash s m args below meth c H locs 0 0 Qf (F0 m 58 ls []) := by
          intro n155
          induction n155 using Nat.strongRecOn with
          | ind n155 rI154 =>
            intro x152 x153 iI154 H locs hG ls hl
            have h := qI154 n155 x152 x153 iI154
            refine lv_iload hx hb dX11_clash_58 (lv_at hl 4 rfl) ?_
            refine lv_aload_n hx hb dX11_clash_60 rfl (lv_at hl 0 rfl) ?_
            refine j_geti hx hb hts hown hK hG (k := a0) (fun w h => List.mem_cons_of_mem _ (u_X11 w h)) (ci := 10) rfl ka0 36 (by decide) (jz := 36) rfl w_fl_RX11_268 dX11_clash_61 ?_
            obtain ⟨g157, h⟩ := h
            obtain ⟨g158, h⟩ := h
            refine j_icmp_ge (tgt := 244) hx hb dX11_clash_64 (by decide) g157 g158 (fun c156 => ?_) (fun c156 => ?_)
            · have h := h.1 c156
              refine lv_iload_n hx hb dX11_clash_244 rfl (lv_at hl 3 rfl) ?_
              rw [hQf]
              exact j_ireti hx hb hr hlocks hG h (by decide) dX11_clash_245
            · have h := h.2 c156
              refine lv_iconst (v := J 0) hx hb dX11_clash_67 (by decide) ?_
              refine lv_istore (lv' := [(5, .int (J 0)), (0, .ref (rA o a0)), (1, .int (J a1)), (2, .int (J a2)), (3, .int (J x152)), (4, .int (J x153))]) hx hb dX11_clash_68 hl (by decide) rfl (fun ls hl => ?_)
              obtain ⟨I161, ⟨n162s, iI161⟩, qI161⟩ := h
              have lI161 : ∀ (n162 : Nat) (x159 : Int) (x160 : Int), I161 n162 x159 x160 → ∀ (H : Heap) (locs : List Loc), GM D cy o M150 s.heap H locs → ∀ ls : Array Slot, lv_has ls 7 [(0, .ref (rA o a0)), (1, .int (J a1)), (2, .int (J a2)), (3, .int (J x159)), (4, .int (J x153)), (5, .int (J x160))] → W p l e rm_X11_clash s m args below meth c H locs 0 0 Qf (F0 m 70 ls []) := by
                intro n162
                induction n162 using Nat.strongRecOn with
                | ind n162 rI161 =>
                  intro x159 x160 iI161 H locs hG ls hl
                  have h := qI161 n162 x159 x160 iI161
                  refine lv_iload hx hb dX11_clash_70 (lv_at hl 5 rfl) ?_
                  refine lv_aload_n hx hb dX11_clash_72 rfl (lv_at hl 0 rfl) ?_
                  refine j_geti hx hb hts hown hK hG (k := a0) (fun w h => List.mem_cons_of_mem _ (u_X11 w h)) (ci := 10) rfl ka0 36 (by decide) (jz := 36) rfl w_fl_RX11_268 dX11_clash_73 ?_
                  obtain ⟨g164, h⟩ := h
                  refine j_icmp_ge (tgt := 238) hx hb dX11_clash_76 (by decide) g164 g158 (fun c163 => ?_) (fun c163 => ?_)
                  · have h := h.1 c163
                    refine j_iinc hx hb dX11_clash_238 hl (k := 4) rfl (by decide) (fun x165 ex165 ls hl => ?_)
                    have h := h x165 ex165
                    have hl : lv_has ls 7 [(4, .int (J x165)), (0, .ref (rA o a0)), (1, .int (J a1)), (2, .int (J a2)), (3, .int (J x159)), (5, .int (J x160))] := hl
                    refine lv_goto (tgt := 58) hx hb dX11_clash_241 (by decide) ?_
                    obtain ⟨n166, ln166, iI154⟩ := h
                    exact rI154 n166 ln166 x159 x165 iI154 H locs hG ls (lv_sub hl [1, 2, 3, 4, 0] rfl)
                  · have h := h.2 c163
                    refine lv_aload_n hx hb dX11_clash_79 rfl (lv_at hl 0 rfl) ?_
                    refine j_getr hx hb hts hown hK hG (k := a0) (fun w h => List.mem_cons_of_mem _ (u_X11 w h)) (ci := 10) rfl ka0 35 (k2 := a0 + 21) (by decide) (by show a0 + (21 : Int) = a0 + 21; omega) w_fl_RX11_77 dX11_clash_80 ?_
                    refine lv_iload hx hb dX11_clash_83 (lv_at hl 4 rfl) ?_
                    obtain ⟨g167, h⟩ := h
                    refine j_iald hx hb hK hG (n := 400) (kf_11_35 ka0) (by decide) g167 dX11_clash_85 ?_
                    refine lv_bipush (v := J 100) hx hb dX11_clash_86 (by decide) ?_
                    obtain ⟨g168, h⟩ := h
                    refine j_idiv hx hb dX11_clash_88 g168 (by decide) ?_
                    refine lv_iload_n hx hb dX11_clash_89 rfl (lv_at hl 1 rfl) ?_
                    obtain ⟨hg, h⟩ := h
                    have jK214 : ∀ x213 : Int, ((M150 (a0 + 21) x153) / 100 ≠ a1 → x213 = x159) → ((M150 (a0 + 21) x153) / 100 = a1 ∧ (M150 (a0 + 21) x160) / 100 ≠ a2 → x213 = x159) → ((M150 (a0 + 21) x153) / 100 = a1 ∧ (M150 (a0 + 21) x160) / 100 = a2 ∧ a1 ≠ a2 ∧ (M150 (a0 + 20) x160) + (pf_X11_durationOf M150 a0 (M150 (a0 + 21) x160)) ≤ M150 (a0 + 20) x153 → x213 = x159) → ((M150 (a0 + 21) x153) / 100 = a1 ∧ (M150 (a0 + 21) x160) / 100 = a2 ∧ a1 ≠ a2 ∧ M150 (a0 + 20) x153 < (M150 (a0 + 20) x160) + (pf_X11_durationOf M150 a0 (M150 (a0 + 21) x160)) ∧ M150 (a0 + 20) x160 < (M150 (a0 + 20) x153) + (pf_X11_durationOf M150 a0 (M150 (a0 + 21) x153)) ∧ x159 < 0 → x213 = (100 * ((M150 (a0 + 21) x153) % 100)) + ((M150 (a0 + 21) x160) % 100)) → ((M150 (a0 + 21) x153) / 100 = a1 ∧ (M150 (a0 + 21) x160) / 100 = a2 ∧ a1 ≠ a2 ∧ M150 (a0 + 20) x153 < (M150 (a0 + 20) x160) + (pf_X11_durationOf M150 a0 (M150 (a0 + 21) x160)) ∧ M150 (a0 + 20) x160 < (M150 (a0 + 20) x153) + (pf_X11_durationOf M150 a0 (M150 (a0 + 21) x153)) ∧ 0 ≤ x159 ∧ x159 ≤ (100 * ((M150 (a0 + 21) x153) % 100)) + ((M150 (a0 + 21) x160) % 100) → x213 = x159) → ((M150 (a0 + 21) x153) / 100 = a1 ∧ (M150 (a0 + 21) x160) / 100 = a2 ∧ a1 ≠ a2 ∧ M150 (a0 + 20) x153 < (M150 (a0 + 20) x160) + (pf_X11_durationOf M150 a0 (M150 (a0 + 21) x160)) ∧ M150 (a0 + 20) x160 < (M150 (a0 + 20) x153) + (pf_X11_durationOf M150 a0 (M150 (a0 + 21) x153)) ∧ 0 ≤ x159 ∧ (100 * ((M150 (a0 + 21) x153) % 100)) + ((M150 (a0 + 21) x160) % 100) < x159 → x213 = (100 * ((M150 (a0 + 21) x153) % 100)) + ((M150 (a0 + 21) x160) % 100)) → ((M150 (a0 + 21) x153) / 100 = a1 ∧ (M150 (a0 + 21) x160) / 100 = a2 ∧ a1 ≠ a2 ∧ M150 (a0 + 20) x153 < (M150 (a0 + 20) x160) + (pf_X11_durationOf M150 a0 (M150 (a0 + 21) x160)) ∧ (M150 (a0 + 20) x153) + (pf_X11_durationOf M150 a0 (M150 (a0 + 21) x153)) ≤ M150 (a0 + 20) x160 → x213 = x159) → ((M150 (a0 + 21) x153) / 100 = a1 ∧ (M150 (a0 + 21) x160) / 100 = a2 ∧ a1 = a2 ∧ M150 (a0 + 21) x153 < M150 (a0 + 21) x160 ∧ (M150 (a0 + 20) x160) + (pf_X11_durationOf M150 a0 (M150 (a0 + 21) x160)) ≤ M150 (a0 + 20) x153 → x213 = x159) → ((M150 (a0 + 21) x153) / 100 = a1 ∧ (M150 (a0 + 21) x160) / 100 = a2 ∧ a1 = a2 ∧ M150 (a0 + 21) x153 < M150 (a0 + 21) x160 ∧ M150 (a0 + 20) x153 < (M150 (a0 + 20) x160) + (pf_X11_durationOf M150 a0 (M150 (a0 + 21) x160)) ∧ M150 (a0 + 20) x160 < (M150 (a0 + 20) x153) + (pf_X11_durationOf M150 a0 (M150 (a0 + 21) x153)) ∧ x159 < 0 → x213 = (100 * ((M150 (a0 + 21) x153) % 100)) + ((M150 (a0 + 21) x160) % 100)) → ((M150 (a0 + 21) x153) / 100 = a1 ∧ (M150 (a0 + 21) x160) / 100 = a2 ∧ a1 = a2 ∧ M150 (a0 + 21) x153 < M150 (a0 + 21) x160 ∧ M150 (a0 + 20) x153 < (M150 (a0 + 20) x160) + (pf_X11_durationOf M150 a0 (M150 (a0 + 21) x160)) ∧ M150 (a0 + 20) x160 < (M150 (a0 + 20) x153) + (pf_X11_durationOf M150 a0 (M150 (a0 + 21) x153)) ∧ 0 ≤ x159 ∧ x159 ≤ (100 * ((M150 (a0 + 21) x153) % 100)) + ((M150 (a0 + 21) x160) % 100) → x213 = x159) → ((M150 (a0 + 21) x153) / 100 = a1 ∧ (M150 (a0 + 21) x160) / 100 = a2 ∧ a1 = a2 ∧ M150 (a0 + 21) x153 < M150 (a0 + 21) x160 ∧ M150 (a0 + 20) x153 < (M150 (a0 + 20) x160) + (pf_X11_durationOf M150 a0 (M150 (a0 + 21) x160)) ∧ M150 (a0 + 20) x160 < (M150 (a0 + 20) x153) + (pf_X11_durationOf M150 a0 (M150 (a0 + 21) x153)) ∧ 0 ≤ x159 ∧ (100 * ((M150 (a0 + 21) x153) % 100)) + ((M150 (a0 + 21) x160) % 100) < x159 → x213 = (100 * ((M150 (a0 + 21) x153) % 100)) + ((M150 (a0 + 21) x160) % 100)) → ((M150 (a0 + 21) x153) / 100 = a1 ∧ (M150 (a0 + 21) x160) / 100 = a2 ∧ a1 = a2 ∧ M150 (a0 + 21) x153 < M150 (a0 + 21) x160 ∧ M150 (a0 + 20) x153 < (M150 (a0 + 20) x160) + (pf_X11_durationOf M150 a0 (M150 (a0 + 21) x160)) ∧ (M150 (a0 + 20) x153) + (pf_X11_durationOf M150 a0 (M150 (a0 + 21) x153)) ≤ M150 (a0 + 20) x160 → x213 = x159) → ((M150 (a0 + 21) x153) / 100 = a1 ∧ (M150 (a0 + 21) x160) / 100 = a2 ∧ a1 = a2 ∧ M150 (a0 + 21) x160 ≤ M150 (a0 + 21) x153 → x213 = x159) → ∀ (H : Heap) (locs : List Loc), GM D cy o M150 s.heap H locs → ∀ ls : Array Slot, lv_has ls 7 [(0, .ref (rA o a0)), (1, .int (J a1)), (2, .int (J a2)), (3, .int (J x213)), (4, .int (J x153)), (5, .int (J x160))] → W p l e rm_X11_clash s m args below meth c H locs 0 0 Qf (F0 m 232 ls []) := by
                      intro x213 qx213_0 qx213_1 qx213_2 qx213_3 qx213_4 qx213_5 qx213_6 qx213_7 qx213_8 qx213_9 qx213_10 qx213_11 qx213_12 H locs hG ls hl
                      have h := h x213 qx213_0 qx213_1 qx213_2 qx213_3 qx213_4 qx213_5 qx213_6 qx213_7 qx213_8 qx213_9 qx213_10 qx213_11 qx213_12
                      refine j_iinc hx hb dX11_clash_232 hl (k := 5) rfl (by decide) (fun x259 ex259 ls hl => ?_)
                      have h := h x259 ex259
                      have hl : lv_has ls 7 [(5, .int (J x259)), (0, .ref (rA o a0)), (1, .int (J a1)), (2, .int (J a2)), (3, .int (J x213)), (4, .int (J x153))] := hl
                      refine lv_goto (tgt := 70) hx hb dX11_clash_235 (by decide) ?_
                      obtain ⟨n260, ln260, iI161⟩ := h
                      exact rI161 n260 ln260 x213 x259 iI161 H locs hG ls (lv_sub hl [1, 2, 3, 4, 5, 0] rfl)
                    have h := hg
                    obtain ⟨g216, h⟩ := h
                    obtain ⟨g217, h⟩ := h
                    refine j_icmp_ne (tgt := 232) hx hb dX11_clash_90 (by decide) g216 g217 (fun c215 => ?_) (fun c215 => ?_)
                    · have h := h.1 c215
                      exact jK214 x159 (fun _ => rfl) (fun q => absurd q.1 (by omega)) (fun q => absurd q.1 (by omega)) (fun q => absurd q.1 (by omega)) (fun q => absurd q.1 (by omega)) (fun q => absurd q.1 (by omega)) (fun q => absurd q.1 (by omega)) (fun q => absurd q.1 (by omega)) (fun q => absurd q.1 (by omega)) (fun q => absurd q.1 (by omega)) (fun q => absurd q.1 (by omega)) (fun q => absurd q.1 (by omega)) (fun q => absurd q.1 (by omega)) H locs hG ls (lv_sub hl [0, 1, 2, 3, 4, 5] rfl)
                    · have h := h.2 c215
                      refine lv_aload_n hx hb dX11_clash_93 rfl (lv_at hl 0 rfl) ?_
                      refine j_getr hx hb hts hown hK hG (k := a0) (fun w h => List.mem_cons_of_mem _ (u_X11 w h)) (ci := 10) rfl ka0 35 (k2 := a0 + 21) (by decide) (by show a0 + (21 : Int) = a0 + 21; omega) w_fl_RX11_77 dX11_clash_94 ?_
                      refine lv_iload hx hb dX11_clash_97 (lv_at hl 5 rfl) ?_
                      obtain ⟨g218, h⟩ := h
                      refine j_iald hx hb hK hG (n := 400) (kf_11_35 ka0) (by decide) g218 dX11_clash_99 ?_
                      refine lv_bipush (v := J 100) hx hb dX11_clash_100 (by decide) ?_
                      obtain ⟨g219, h⟩ := h
                      refine j_idiv hx hb dX11_clash_102 g219 (by decide) ?_
                      refine lv_iload_n hx hb dX11_clash_103 rfl (lv_at hl 2 rfl) ?_
                      obtain ⟨g221, h⟩ := h
                      obtain ⟨g222, h⟩ := h
                      refine j_icmp_ne (tgt := 232) hx hb dX11_clash_104 (by decide) g221 g222 (fun c220 => ?_) (fun c220 => ?_)
                      · have h := h.1 c220
                        exact jK214 x159 (fun q => absurd q (by omega)) (fun _ => rfl) (fun q => absurd q.2.1 (by omega)) (fun q => absurd q.2.1 (by omega)) (fun q => absurd q.2.1 (by omega)) (fun q => absurd q.2.1 (by omega)) (fun q => absurd q.2.1 (by omega)) (fun q => absurd q.2.1 (by omega)) (fun q => absurd q.2.1 (by omega)) (fun q => absurd q.2.1 (by omega)) (fun q => absurd q.2.1 (by omega)) (fun q => absurd q.2.1 (by omega)) (fun q => absurd q.2.1 (by omega)) H locs hG ls (lv_sub hl [0, 1, 2, 3, 4, 5] rfl)
                      · have h := h.2 c220
                        refine lv_iload_n hx hb dX11_clash_107 rfl (lv_at hl 1 rfl) ?_
                        refine lv_iload_n hx hb dX11_clash_108 rfl (lv_at hl 2 rfl) ?_
                        refine j_icmp_ne (tgt := 132) hx hb dX11_clash_109 (by decide) g217 g222 (fun c223 => ?_) (fun c223 => ?_)
                        · have h := h.1 c223
                          refine lv_aload_n hx hb dX11_clash_132 rfl (lv_at hl 0 rfl) ?_
                          refine j_getr hx hb hts hown hK hG (k := a0) (fun w h => List.mem_cons_of_mem _ (u_X11 w h)) (ci := 10) rfl ka0 34 (k2 := a0 + 20) (by decide) (by show a0 + (20 : Int) = a0 + 20; omega) w_fl_RX11_74 dX11_clash_133 ?_
                          refine lv_iload hx hb dX11_clash_136 (lv_at hl 4 rfl) ?_
                          refine j_iald hx hb hK hG (n := 400) (kf_11_34 ka0) (by decide) g167 dX11_clash_138 ?_
                          refine lv_aload_n hx hb dX11_clash_139 rfl (lv_at hl 0 rfl) ?_
                          refine j_getr hx hb hts hown hK hG (k := a0) (fun w h => List.mem_cons_of_mem _ (u_X11 w h)) (ci := 10) rfl ka0 34 (k2 := a0 + 20) (by decide) (by show a0 + (20 : Int) = a0 + 20; omega) w_fl_RX11_74 dX11_clash_140 ?_
                          refine lv_iload hx hb dX11_clash_143 (lv_at hl 5 rfl) ?_
                          refine j_iald hx hb hK hG (n := 400) (kf_11_34 ka0) (by decide) g218 dX11_clash_145 ?_
                          refine lv_aload_n hx hb dX11_clash_146 rfl (lv_at hl 0 rfl) ?_
                          refine lv_aload_n hx hb dX11_clash_147 rfl (lv_at hl 0 rfl) ?_
                          refine j_getr hx hb hts hown hK hG (k := a0) (fun w h => List.mem_cons_of_mem _ (u_X11 w h)) (ci := 10) rfl ka0 35 (k2 := a0 + 21) (by decide) (by show a0 + (21 : Int) = a0 + 21; omega) w_fl_RX11_77 dX11_clash_148 ?_
                          refine lv_iload hx hb dX11_clash_151 (lv_at hl 5 rfl) ?_
                          refine j_iald hx hb hK hG (n := 400) (kf_11_35 ka0) (by decide) g218 dX11_clash_153 ?_
                          obtain ⟨g224, h⟩ := h
                          refine j_conti (va_runV (As := [.int (J (M150 (a0 + 21) x160))]) (rest := [.int (J (M150 (a0 + 20) x160)), .int (J (M150 (a0 + 20) x153))]) ⟨hx, hb, hml, hown, hts⟩ (A_X11_durationOf l ka0 g224) (cwV 1 hts (gj_V ml_RX11_274 i_X11_durationOf s_X11_durationOf n_RX11 k_X11_durationOf) rfl rfl rfl (by decide +kernel) ⟨by exact Nat.le_of_ble_eq_true rfl, by exact Nat.le_of_ble_eq_true rfl⟩) (j_preV hK hSX hG (ci := 10) rfl ka0 (by decide)) rfl rfl hl.1 rfl (lv_room (Nat.le_of_ble_eq_true rfl)) dX11_clash_154 ⟨by exact Nat.le_of_ble_eq_true rfl, by exact Nat.le_of_ble_eq_true rfl⟩) hG (c2 := 0) (s2 := 0) ⟨by exact Nat.le_of_ble_eq_true rfl, by exact Nat.le_of_ble_eq_true rfl⟩ (fun z225 M226 ez225 H locs hG => ?_)
                          obtain ⟨ez225, eM226⟩ := ez225
                          subst ez225
                          rw [eM226] at hG
                          refine j_iadd hx hb dX11_clash_157 ?_
                          obtain ⟨g228, h⟩ := h
                          obtain ⟨g229, h⟩ := h
                          refine j_icmp_ge (tgt := 232) hx hb dX11_clash_158 (by decide) g228 g229 (fun c227 => ?_) (fun c227 => ?_)
                          · have h := h.1 c227
                            exact jK214 x159 (fun q => absurd q (by omega)) (fun q => absurd q.2 (by omega)) (fun _ => rfl) (fun q => absurd q.2.2.2.1 (by omega)) (fun q => absurd q.2.2.2.1 (by omega)) (fun q => absurd q.2.2.2.1 (by omega)) (fun q => absurd q.2.2.2.1 (by omega)) (fun q => absurd q.2.2.1 (by omega)) (fun q => absurd q.2.2.1 (by omega)) (fun q => absurd q.2.2.1 (by omega)) (fun q => absurd q.2.2.1 (by omega)) (fun q => absurd q.2.2.1 (by omega)) (fun q => absurd q.2.2.1 (by omega)) H locs hG ls (lv_sub hl [0, 1, 2, 3, 4, 5] rfl)
                          · have h := h.2 c227
                            refine lv_aload_n hx hb dX11_clash_161 rfl (lv_at hl 0 rfl) ?_
                            refine j_getr hx hb hts hown hK hG (k := a0) (fun w h => List.mem_cons_of_mem _ (u_X11 w h)) (ci := 10) rfl ka0 34 (k2 := a0 + 20) (by decide) (by show a0 + (20 : Int) = a0 + 20; omega) w_fl_RX11_74 dX11_clash_162 ?_
                            refine lv_iload hx hb dX11_clash_165 (lv_at hl 5 rfl) ?_
                            refine j_iald hx hb hK hG (n := 400) (kf_11_34 ka0) (by decide) g218 dX11_clash_167 ?_
                            refine lv_aload_n hx hb dX11_clash_168 rfl (lv_at hl 0 rfl) ?_
                            refine j_getr hx hb hts hown hK hG (k := a0) (fun w h => List.mem_cons_of_mem _ (u_X11 w h)) (ci := 10) rfl ka0 34 (k2 := a0 + 20) (by decide) (by show a0 + (20 : Int) = a0 + 20; omega) w_fl_RX11_74 dX11_clash_169 ?_
                            refine lv_iload hx hb dX11_clash_172 (lv_at hl 4 rfl) ?_
                            refine j_iald hx hb hK hG (n := 400) (kf_11_34 ka0) (by decide) g167 dX11_clash_174 ?_
                            refine lv_aload_n hx hb dX11_clash_175 rfl (lv_at hl 0 rfl) ?_
                            refine lv_aload_n hx hb dX11_clash_176 rfl (lv_at hl 0 rfl) ?_
                            refine j_getr hx hb hts hown hK hG (k := a0) (fun w h => List.mem_cons_of_mem _ (u_X11 w h)) (ci := 10) rfl ka0 35 (k2 := a0 + 21) (by decide) (by show a0 + (21 : Int) = a0 + 21; omega) w_fl_RX11_77 dX11_clash_177 ?_
                            refine lv_iload hx hb dX11_clash_180 (lv_at hl 4 rfl) ?_
                            refine j_iald hx hb hK hG (n := 400) (kf_11_35 ka0) (by decide) g167 dX11_clash_182 ?_
                            obtain ⟨g230, h⟩ := h
                            refine j_conti (va_runV (As := [.int (J (M150 (a0 + 21) x153))]) (rest := [.int (J (M150 (a0 + 20) x153)), .int (J (M150 (a0 + 20) x160))]) ⟨hx, hb, hml, hown, hts⟩ (A_X11_durationOf l ka0 g230) (cwV 1 hts (gj_V ml_RX11_274 i_X11_durationOf s_X11_durationOf n_RX11 k_X11_durationOf) rfl rfl rfl (by decide +kernel) ⟨by exact Nat.le_of_ble_eq_true rfl, by exact Nat.le_of_ble_eq_true rfl⟩) (j_preV hK hSX hG (ci := 10) rfl ka0 (by decide)) rfl rfl hl.1 rfl (lv_room (Nat.le_of_ble_eq_true rfl)) dX11_clash_183 ⟨by exact Nat.le_of_ble_eq_true rfl, by exact Nat.le_of_ble_eq_true rfl⟩) hG (c2 := 0) (s2 := 0) ⟨by exact Nat.le_of_ble_eq_true rfl, by exact Nat.le_of_ble_eq_true rfl⟩ (fun z231 M232 ez231 H locs hG => ?_)
                            obtain ⟨ez231, eM232⟩ := ez231
                            subst ez231
                            rw [eM232] at hG
                            refine j_iadd hx hb dX11_clash_186 ?_
                            obtain ⟨g234, h⟩ := h
                            obtain ⟨g235, h⟩ := h
                            refine j_icmp_lt (tgt := 193) hx hb dX11_clash_187 (by decide) g234 g235 (fun c233 => ?_) (fun c233 => ?_)
                            · have h := h.1 c233
                              refine lv_bipush (v := J 100) hx hb dX11_clash_193 (by decide) ?_
                              refine lv_aload_n hx hb dX11_clash_195 rfl (lv_at hl 0 rfl) ?_
                              refine j_getr hx hb hts hown hK hG (k := a0) (fun w h => List.mem_cons_of_mem _ (u_X11 w h)) (ci := 10) rfl ka0 35 (k2 := a0 + 21) (by decide) (by show a0 + (21 : Int) = a0 + 21; omega) w_fl_RX11_77 dX11_clash_196 ?_
                              refine lv_iload hx hb dX11_clash_199 (lv_at hl 4 rfl) ?_
                              refine j_iald hx hb hK hG (n := 400) (kf_11_35 ka0) (by decide) g167 dX11_clash_201 ?_
                              refine lv_bipush (v := J 100) hx hb dX11_clash_202 (by decide) ?_
                              refine j_irem hx hb dX11_clash_204 g168 (by decide) ?_
                              refine j_imul hx hb dX11_clash_205 ?_
                              refine lv_aload_n hx hb dX11_clash_206 rfl (lv_at hl 0 rfl) ?_
                              refine j_getr hx hb hts hown hK hG (k := a0) (fun w h => List.mem_cons_of_mem _ (u_X11 w h)) (ci := 10) rfl ka0 35 (k2 := a0 + 21) (by decide) (by show a0 + (21 : Int) = a0 + 21; omega) w_fl_RX11_77 dX11_clash_207 ?_
                              refine lv_iload hx hb dX11_clash_210 (lv_at hl 5 rfl) ?_
                              refine j_iald hx hb hK hG (n := 400) (kf_11_35 ka0) (by decide) g218 dX11_clash_212 ?_
                              refine lv_bipush (v := J 100) hx hb dX11_clash_213 (by decide) ?_
                              refine j_irem hx hb dX11_clash_215 g219 (by decide) ?_
                              refine j_iadd hx hb dX11_clash_216 ?_
                              refine lv_istore (lv' := [(6, .int (J ((100 * ((M150 (a0 + 21) x153) % 100)) + ((M150 (a0 + 21) x160) % 100)))), (0, .ref (rA o a0)), (1, .int (J a1)), (2, .int (J a2)), (3, .int (J x159)), (4, .int (J x153)), (5, .int (J x160))]) hx hb dX11_clash_217 hl (by decide) rfl (fun ls hl => ?_)
                              refine lv_iload_n hx hb dX11_clash_219 rfl (lv_at hl 4 rfl) ?_
                              obtain ⟨g237, h⟩ := h
                              refine j_if_lt (tgt := 229) hx hb dX11_clash_220 (by decide) g237 (fun c236 => ?_) (fun c236 => ?_)
                              · have h := h.1 c236
                                refine lv_iload hx hb dX11_clash_229 (lv_at hl 0 rfl) ?_
                                refine lv_istore_n (lv' := [(3, .int (J ((100 * ((M150 (a0 + 21) x153) % 100)) + ((M150 (a0 + 21) x160) % 100)))), (6, .int (J ((100 * ((M150 (a0 + 21) x153) % 100)) + ((M150 (a0 + 21) x160) % 100)))), (0, .ref (rA o a0)), (1, .int (J a1)), (2, .int (J a2)), (4, .int (J x153)), (5, .int (J x160))]) hx hb dX11_clash_231 rfl hl (by decide) rfl (fun ls hl => ?_)
                                exact jK214 ((100 * ((M150 (a0 + 21) x153) % 100)) + ((M150 (a0 + 21) x160) % 100)) (fun q => absurd q (by omega)) (fun q => absurd q.2 (by omega)) (fun q => absurd q.2.2.2 (by omega)) (fun _ => rfl) (fun q => absurd q.2.2.2.2.2.1 (by omega)) (fun q => absurd q.2.2.2.2.2.1 (by omega)) (fun q => absurd q.2.2.2.2 (by omega)) (fun q => absurd q.2.2.1 (by omega)) (fun q => absurd q.2.2.1 (by omega)) (fun q => absurd q.2.2.1 (by omega)) (fun q => absurd q.2.2.1 (by omega)) (fun q => absurd q.2.2.1 (by omega)) (fun q => absurd q.2.2.1 (by omega)) H locs hG ls (lv_sub hl [2, 3, 4, 0, 5, 6] rfl)
                              · have h := h.2 c236
                                refine lv_iload hx hb dX11_clash_223 (lv_at hl 0 rfl) ?_
                                refine lv_iload_n hx hb dX11_clash_225 rfl (lv_at hl 4 rfl) ?_
                                obtain ⟨g239, h⟩ := h
                                refine j_icmp_ge (tgt := 232) hx hb dX11_clash_226 (by decide) g239 g237 (fun c238 => ?_) (fun c238 => ?_)
                                · have h := h.1 c238
                                  exact jK214 x159 (fun q => absurd q (by omega)) (fun q => absurd q.2 (by omega)) (fun q => absurd q.2.2.2 (by omega)) (fun q => absurd q.2.2.2.2.2 (by omega)) (fun _ => rfl) (fun q => absurd q.2.2.2.2.2.2 (by omega)) (fun q => absurd q.2.2.2.2 (by omega)) (fun q => absurd q.2.2.1 (by omega)) (fun q => absurd q.2.2.1 (by omega)) (fun q => absurd q.2.2.1 (by omega)) (fun q => absurd q.2.2.1 (by omega)) (fun q => absurd q.2.2.1 (by omega)) (fun q => absurd q.2.2.1 (by omega)) H locs hG ls (lv_sub hl [1, 2, 3, 4, 5, 6] rfl)
                                · have h := h.2 c238
                                  refine lv_iload hx hb dX11_clash_229 (lv_at hl 0 rfl) ?_
                                  refine lv_istore_n (lv' := [(3, .int (J ((100 * ((M150 (a0 + 21) x153) % 100)) + ((M150 (a0 + 21) x160) % 100)))), (6, .int (J ((100 * ((M150 (a0 + 21) x153) % 100)) + ((M150 (a0 + 21) x160) % 100)))), (0, .ref (rA o a0)), (1, .int (J a1)), (2, .int (J a2)), (4, .int (J x153)), (5, .int (J x160))]) hx hb dX11_clash_231 rfl hl (by decide) rfl (fun ls hl => ?_)
                                  exact jK214 ((100 * ((M150 (a0 + 21) x153) % 100)) + ((M150 (a0 + 21) x160) % 100)) (fun q => absurd q (by omega)) (fun q => absurd q.2 (by omega)) (fun q => absurd q.2.2.2 (by omega)) (fun q => absurd q.2.2.2.2.2 (by omega)) (fun q => absurd q.2.2.2.2.2.2 (by omega)) (fun _ => rfl) (fun q => absurd q.2.2.2.2 (by omega)) (fun q => absurd q.2.2.1 (by omega)) (fun q => absurd q.2.2.1 (by omega)) (fun q => absurd q.2.2.1 (by omega)) (fun q => absurd q.2.2.1 (by omega)) (fun q => absurd q.2.2.1 (by omega)) (fun q => absurd q.2.2.1 (by omega)) H locs hG ls (lv_sub hl [2, 3, 4, 0, 5, 6] rfl)
                            · have h := h.2 c233
                              refine lv_goto (tgt := 232) hx hb dX11_clash_190 (by decide) ?_
                              exact jK214 x159 (fun q => absurd q (by omega)) (fun q => absurd q.2 (by omega)) (fun q => absurd q.2.2.2 (by omega)) (fun q => absurd q.2.2.2.2.1 (by omega)) (fun q => absurd q.2.2.2.2.1 (by omega)) (fun q => absurd q.2.2.2.2.1 (by omega)) (fun _ => rfl) (fun q => absurd q.2.2.1 (by omega)) (fun q => absurd q.2.2.1 (by omega)) (fun q => absurd q.2.2.1 (by omega)) (fun q => absurd q.2.2.1 (by omega)) (fun q => absurd q.2.2.1 (by omega)) (fun q => absurd q.2.2.1 (by omega)) H locs hG ls (lv_sub hl [0, 1, 2, 3, 4, 5] rfl)
                        · have h := h.2 c223
                          refine lv_aload_n hx hb dX11_clash_112 rfl (lv_at hl 0 rfl) ?_
                          refine j_getr hx hb hts hown hK hG (k := a0) (fun w h => List.mem_cons_of_mem _ (u_X11 w h)) (ci := 10) rfl ka0 35 (k2 := a0 + 21) (by decide) (by show a0 + (21 : Int) = a0 + 21; omega) w_fl_RX11_77 dX11_clash_113 ?_
                          refine lv_iload hx hb dX11_clash_116 (lv_at hl 4 rfl) ?_
                          refine j_iald hx hb hK hG (n := 400) (kf_11_35 ka0) (by decide) g167 dX11_clash_118 ?_
                          refine lv_aload_n hx hb dX11_clash_119 rfl (lv_at hl 0 rfl) ?_
                          refine j_getr hx hb hts hown hK hG (k := a0) (fun w h => List.mem_cons_of_mem _ (u_X11 w h)) (ci := 10) rfl ka0 35 (k2 := a0 + 21) (by decide) (by show a0 + (21 : Int) = a0 + 21; omega) w_fl_RX11_77 dX11_clash_120 ?_
                          refine lv_iload hx hb dX11_clash_123 (lv_at hl 5 rfl) ?_
                          refine j_iald hx hb hK hG (n := 400) (kf_11_35 ka0) (by decide) g218 dX11_clash_125 ?_
                          obtain ⟨g241, h⟩ := h
                          obtain ⟨g242, h⟩ := h
                          refine j_icmp_lt (tgt := 132) hx hb dX11_clash_126 (by decide) g241 g242 (fun c240 => ?_) (fun c240 => ?_)
                          · have h := h.1 c240
                            refine lv_aload_n hx hb dX11_clash_132 rfl (lv_at hl 0 rfl) ?_
                            refine j_getr hx hb hts hown hK hG (k := a0) (fun w h => List.mem_cons_of_mem _ (u_X11 w h)) (ci := 10) rfl ka0 34 (k2 := a0 + 20) (by decide) (by show a0 + (20 : Int) = a0 + 20; omega) w_fl_RX11_74 dX11_clash_133 ?_
                            refine lv_iload hx hb dX11_clash_136 (lv_at hl 4 rfl) ?_
                            refine j_iald hx hb hK hG (n := 400) (kf_11_34 ka0) (by decide) g167 dX11_clash_138 ?_
                            refine lv_aload_n hx hb dX11_clash_139 rfl (lv_at hl 0 rfl) ?_
                            refine j_getr hx hb hts hown hK hG (k := a0) (fun w h => List.mem_cons_of_mem _ (u_X11 w h)) (ci := 10) rfl ka0 34 (k2 := a0 + 20) (by decide) (by show a0 + (20 : Int) = a0 + 20; omega) w_fl_RX11_74 dX11_clash_140 ?_
                            refine lv_iload hx hb dX11_clash_143 (lv_at hl 5 rfl) ?_
                            refine j_iald hx hb hK hG (n := 400) (kf_11_34 ka0) (by decide) g218 dX11_clash_145 ?_
                            refine lv_aload_n hx hb dX11_clash_146 rfl (lv_at hl 0 rfl) ?_
                            refine lv_aload_n hx hb dX11_clash_147 rfl (lv_at hl 0 rfl) ?_
                            refine j_getr hx hb hts hown hK hG (k := a0) (fun w h => List.mem_cons_of_mem _ (u_X11 w h)) (ci := 10) rfl ka0 35 (k2 := a0 + 21) (by decide) (by show a0 + (21 : Int) = a0 + 21; omega) w_fl_RX11_77 dX11_clash_148 ?_
                            refine lv_iload hx hb dX11_clash_151 (lv_at hl 5 rfl) ?_
                            refine j_iald hx hb hK hG (n := 400) (kf_11_35 ka0) (by decide) g218 dX11_clash_153 ?_
                            obtain ⟨g243, h⟩ := h
                            refine j_conti (va_runV (As := [.int (J (M150 (a0 + 21) x160))]) (rest := [.int (J (M150 (a0 + 20) x160)), .int (J (M150 (a0 + 20) x153))]) ⟨hx, hb, hml, hown, hts⟩ (A_X11_durationOf l ka0 g243) (cwV 1 hts (gj_V ml_RX11_274 i_X11_durationOf s_X11_durationOf n_RX11 k_X11_durationOf) rfl rfl rfl (by decide +kernel) ⟨by exact Nat.le_of_ble_eq_true rfl, by exact Nat.le_of_ble_eq_true rfl⟩) (j_preV hK hSX hG (ci := 10) rfl ka0 (by decide)) rfl rfl hl.1 rfl (lv_room (Nat.le_of_ble_eq_true rfl)) dX11_clash_154 ⟨by exact Nat.le_of_ble_eq_true rfl, by exact Nat.le_of_ble_eq_true rfl⟩) hG (c2 := 0) (s2 := 0) ⟨by exact Nat.le_of_ble_eq_true rfl, by exact Nat.le_of_ble_eq_true rfl⟩ (fun z244 M245 ez244 H locs hG => ?_)
                            obtain ⟨ez244, eM245⟩ := ez244
                            subst ez244
                            rw [eM245] at hG
                            refine j_iadd hx hb dX11_clash_157 ?_
                            obtain ⟨g247, h⟩ := h
                            obtain ⟨g248, h⟩ := h
                            refine j_icmp_ge (tgt := 232) hx hb dX11_clash_158 (by decide) g247 g248 (fun c246 => ?_) (fun c246 => ?_)
                            · have h := h.1 c246
                              exact jK214 x159 (fun q => absurd q (by omega)) (fun q => absurd q.2 (by omega)) (fun q => absurd q.2.2.1 (by omega)) (fun q => absurd q.2.2.1 (by omega)) (fun q => absurd q.2.2.1 (by omega)) (fun q => absurd q.2.2.1 (by omega)) (fun q => absurd q.2.2.1 (by omega)) (fun _ => rfl) (fun q => absurd q.2.2.2.2.1 (by omega)) (fun q => absurd q.2.2.2.2.1 (by omega)) (fun q => absurd q.2.2.2.2.1 (by omega)) (fun q => absurd q.2.2.2.2.1 (by omega)) (fun q => absurd q.2.2.2 (by omega)) H locs hG ls (lv_sub hl [0, 1, 2, 3, 4, 5] rfl)
                            · have h := h.2 c246
                              refine lv_aload_n hx hb dX11_clash_161 rfl (lv_at hl 0 rfl) ?_
                              refine j_getr hx hb hts hown hK hG (k := a0) (fun w h => List.mem_cons_of_mem _ (u_X11 w h)) (ci := 10) rfl ka0 34 (k2 := a0 + 20) (by decide) (by show a0 + (20 : Int) = a0 + 20; omega) w_fl_RX11_74 dX11_clash_162 ?_
                              refine lv_iload hx hb dX11_clash_165 (lv_at hl 5 rfl) ?_
                              refine j_iald hx hb hK hG (n := 400) (kf_11_34 ka0) (by decide) g218 dX11_clash_167 ?_
                              refine lv_aload_n hx hb dX11_clash_168 rfl (lv_at hl 0 rfl) ?_
                              refine j_getr hx hb hts hown hK hG (k := a0) (fun w h => List.mem_cons_of_mem _ (u_X11 w h)) (ci := 10) rfl ka0 34 (k2 := a0 + 20) (by decide) (by show a0 + (20 : Int) = a0 + 20; omega) w_fl_RX11_74 dX11_clash_169 ?_
                              refine lv_iload hx hb dX11_clash_172 (lv_at hl 4 rfl) ?_
                              refine j_iald hx hb hK hG (n := 400) (kf_11_34 ka0) (by decide) g167 dX11_clash_174 ?_
                              refine lv_aload_n hx hb dX11_clash_175 rfl (lv_at hl 0 rfl) ?_
                              refine lv_aload_n hx hb dX11_clash_176 rfl (lv_at hl 0 rfl) ?_
                              refine j_getr hx hb hts hown hK hG (k := a0) (fun w h => List.mem_cons_of_mem _ (u_X11 w h)) (ci := 10) rfl ka0 35 (k2 := a0 + 21) (by decide) (by show a0 + (21 : Int) = a0 + 21; omega) w_fl_RX11_77 dX11_clash_177 ?_
                              refine lv_iload hx hb dX11_clash_180 (lv_at hl 4 rfl) ?_
                              refine j_iald hx hb hK hG (n := 400) (kf_11_35 ka0) (by decide) g167 dX11_clash_182 ?_
                              obtain ⟨g249, h⟩ := h
                              refine j_conti (va_runV (As := [.int (J (M150 (a0 + 21) x153))]) (rest := [.int (J (M150 (a0 + 20) x153)), .int (J (M150 (a0 + 20) x160))]) ⟨hx, hb, hml, hown, hts⟩ (A_X11_durationOf l ka0 g249) (cwV 1 hts (gj_V ml_RX11_274 i_X11_durationOf s_X11_durationOf n_RX11 k_X11_durationOf) rfl rfl rfl (by decide +kernel) ⟨by exact Nat.le_of_ble_eq_true rfl, by exact Nat.le_of_ble_eq_true rfl⟩) (j_preV hK hSX hG (ci := 10) rfl ka0 (by decide)) rfl rfl hl.1 rfl (lv_room (Nat.le_of_ble_eq_true rfl)) dX11_clash_183 ⟨by exact Nat.le_of_ble_eq_true rfl, by exact Nat.le_of_ble_eq_true rfl⟩) hG (c2 := 0) (s2 := 0) ⟨by exact Nat.le_of_ble_eq_true rfl, by exact Nat.le_of_ble_eq_true rfl⟩ (fun z250 M251 ez250 H locs hG => ?_)
                              obtain ⟨ez250, eM251⟩ := ez250
                              subst ez250
                              rw [eM251] at hG
                              refine j_iadd hx hb dX11_clash_186 ?_
                              obtain ⟨g253, h⟩ := h
                              obtain ⟨g254, h⟩ := h
                              refine j_icmp_lt (tgt := 193) hx hb dX11_clash_187 (by decide) g253 g254 (fun c252 => ?_) (fun c252 => ?_)
                              · have h := h.1 c252
                                refine lv_bipush (v := J 100) hx hb dX11_clash_193 (by decide) ?_
                                refine lv_aload_n hx hb dX11_clash_195 rfl (lv_at hl 0 rfl) ?_
                                refine j_getr hx hb hts hown hK hG (k := a0) (fun w h => List.mem_cons_of_mem _ (u_X11 w h)) (ci := 10) rfl ka0 35 (k2 := a0 + 21) (by decide) (by show a0 + (21 : Int) = a0 + 21; omega) w_fl_RX11_77 dX11_clash_196 ?_
                                refine lv_iload hx hb dX11_clash_199 (lv_at hl 4 rfl) ?_
                                refine j_iald hx hb hK hG (n := 400) (kf_11_35 ka0) (by decide) g167 dX11_clash_201 ?_
                                refine lv_bipush (v := J 100) hx hb dX11_clash_202 (by decide) ?_
                                refine j_irem hx hb dX11_clash_204 g168 (by decide) ?_
                                refine j_imul hx hb dX11_clash_205 ?_
                                refine lv_aload_n hx hb dX11_clash_206 rfl (lv_at hl 0 rfl) ?_
                                refine j_getr hx hb hts hown hK hG (k := a0) (fun w h => List.mem_cons_of_mem _ (u_X11 w h)) (ci := 10) rfl ka0 35 (k2 := a0 + 21) (by decide) (by show a0 + (21 : Int) = a0 + 21; omega) w_fl_RX11_77 dX11_clash_207 ?_
                                refine lv_iload hx hb dX11_clash_210 (lv_at hl 5 rfl) ?_
                                refine j_iald hx hb hK hG (n := 400) (kf_11_35 ka0) (by decide) g218 dX11_clash_212 ?_
                                refine lv_bipush (v := J 100) hx hb dX11_clash_213 (by decide) ?_
                                refine j_irem hx hb dX11_clash_215 g219 (by decide) ?_
                                refine j_iadd hx hb dX11_clash_216 ?_
                                refine lv_istore (lv' := [(6, .int (J ((100 * ((M150 (a0 + 21) x153) % 100)) + ((M150 (a0 + 21) x160) % 100)))), (0, .ref (rA o a0)), (1, .int (J a1)), (2, .int (J a2)), (3, .int (J x159)), (4, .int (J x153)), (5, .int (J x160))]) hx hb dX11_clash_217 hl (by decide) rfl (fun ls hl => ?_)
                                refine lv_iload_n hx hb dX11_clash_219 rfl (lv_at hl 4 rfl) ?_
                                obtain ⟨g256, h⟩ := h
                                refine j_if_lt (tgt := 229) hx hb dX11_clash_220 (by decide) g256 (fun c255 => ?_) (fun c255 => ?_)
                                · have h := h.1 c255
                                  refine lv_iload hx hb dX11_clash_229 (lv_at hl 0 rfl) ?_
                                  refine lv_istore_n (lv' := [(3, .int (J ((100 * ((M150 (a0 + 21) x153) % 100)) + ((M150 (a0 + 21) x160) % 100)))), (6, .int (J ((100 * ((M150 (a0 + 21) x153) % 100)) + ((M150 (a0 + 21) x160) % 100)))), (0, .ref (rA o a0)), (1, .int (J a1)), (2, .int (J a2)), (4, .int (J x153)), (5, .int (J x160))]) hx hb dX11_clash_231 rfl hl (by decide) rfl (fun ls hl => ?_)
                                  exact jK214 ((100 * ((M150 (a0 + 21) x153) % 100)) + ((M150 (a0 + 21) x160) % 100)) (fun q => absurd q (by omega)) (fun q => absurd q.2 (by omega)) (fun q => absurd q.2.2.1 (by omega)) (fun q => absurd q.2.2.1 (by omega)) (fun q => absurd q.2.2.1 (by omega)) (fun q => absurd q.2.2.1 (by omega)) (fun q => absurd q.2.2.1 (by omega)) (fun q => absurd q.2.2.2.2 (by omega)) (fun _ => rfl) (fun q => absurd q.2.2.2.2.2.2.1 (by omega)) (fun q => absurd q.2.2.2.2.2.2.1 (by omega)) (fun q => absurd q.2.2.2.2.2 (by omega)) (fun q => absurd q.2.2.2 (by omega)) H locs hG ls (lv_sub hl [2, 3, 4, 0, 5, 6] rfl)
                                · have h := h.2 c255
                                  refine lv_iload hx hb dX11_clash_223 (lv_at hl 0 rfl) ?_
                                  refine lv_iload_n hx hb dX11_clash_225 rfl (lv_at hl 4 rfl) ?_
                                  obtain ⟨g258, h⟩ := h
                                  refine j_icmp_ge (tgt := 232) hx hb dX11_clash_226 (by decide) g258 g256 (fun c257 => ?_) (fun c257 => ?_)
                                  · have h := h.1 c257
                                    exact jK214 x159 (fun q => absurd q (by omega)) (fun q => absurd q.2 (by omega)) (fun q => absurd q.2.2.1 (by omega)) (fun q => absurd q.2.2.1 (by omega)) (fun q => absurd q.2.2.1 (by omega)) (fun q => absurd q.2.2.1 (by omega)) (fun q => absurd q.2.2.1 (by omega)) (fun q => absurd q.2.2.2.2 (by omega)) (fun q => absurd q.2.2.2.2.2.2 (by omega)) (fun _ => rfl) (fun q => absurd q.2.2.2.2.2.2.2 (by omega)) (fun q => absurd q.2.2.2.2.2 (by omega)) (fun q => absurd q.2.2.2 (by omega)) H locs hG ls (lv_sub hl [1, 2, 3, 4, 5, 6] rfl)
                                  · have h := h.2 c257
                                    refine lv_iload hx hb dX11_clash_229 (lv_at hl 0 rfl) ?_
                                    refine lv_istore_n (lv' := [(3, .int (J ((100 * ((M150 (a0 + 21) x153) % 100)) + ((M150 (a0 + 21) x160) % 100)))), (6, .int (J ((100 * ((M150 (a0 + 21) x153) % 100)) + ((M150 (a0 + 21) x160) % 100)))), (0, .ref (rA o a0)), (1, .int (J a1)), (2, .int (J a2)), (4, .int (J x153)), (5, .int (J x160))]) hx hb dX11_clash_231 rfl hl (by decide) rfl (fun ls hl => ?_)
                                    exact jK214 ((100 * ((M150 (a0 + 21) x153) % 100)) + ((M150 (a0 + 21) x160) % 100)) (fun q => absurd q (by omega)) (fun q => absurd q.2 (by omega)) (fun q => absurd q.2.2.1 (by omega)) (fun q => absurd q.2.2.1 (by omega)) (fun q => absurd q.2.2.1 (by omega)) (fun q => absurd q.2.2.1 (by omega)) (fun q => absurd q.2.2.1 (by omega)) (fun q => absurd q.2.2.2.2 (by omega)) (fun q => absurd q.2.2.2.2.2.2 (by omega)) (fun q => absurd q.2.2.2.2.2.2.2 (by omega)) (fun _ => rfl) (fun q => absurd q.2.2.2.2.2 (by omega)) (fun q => absurd q.2.2.2 (by omega)) H locs hG ls (lv_sub hl [2, 3, 4, 0, 5, 6] rfl)
                              · have h := h.2 c252
                                refine lv_goto (tgt := 232) hx hb dX11_clash_190 (by decide) ?_
                                exact jK214 x159 (fun q => absurd q (by omega)) (fun q => absurd q.2 (by omega)) (fun q => absurd q.2.2.1 (by omega)) (fun q => absurd q.2.2.1 (by omega)) (fun q => absurd q.2.2.1 (by omega)) (fun q => absurd q.2.2.1 (by omega)) (fun q => absurd q.2.2.1 (by omega)) (fun q => absurd q.2.2.2.2 (by omega)) (fun q => absurd q.2.2.2.2.2.1 (by omega)) (fun q => absurd q.2.2.2.2.2.1 (by omega)) (fun q => absurd q.2.2.2.2.2.1 (by omega)) (fun _ => rfl) (fun q => absurd q.2.2.2 (by omega)) H locs hG ls (lv_sub hl [0, 1, 2, 3, 4, 5] rfl)
                          · have h := h.2 c240
                            refine lv_goto (tgt := 232) hx hb dX11_clash_129 (by decide) ?_
                            exact jK214 x159 (fun q => absurd q (by omega)) (fun q => absurd q.2 (by omega)) (fun q => absurd q.2.2.1 (by omega)) (fun q => absurd q.2.2.1 (by omega)) (fun q => absurd q.2.2.1 (by omega)) (fun q => absurd q.2.2.1 (by omega)) (fun q => absurd q.2.2.1 (by omega)) (fun q => absurd q.2.2.2.1 (by omega)) (fun q => absurd q.2.2.2.1 (by omega)) (fun q => absurd q.2.2.2.1 (by omega)) (fun q => absurd q.2.2.2.1 (by omega)) (fun q => absurd q.2.2.2.1 (by omega)) (fun _ => rfl) H locs hG ls (lv_sub hl [0, 1, 2, 3, 4, 5] rfl)
              exact lI161 n162s x152 0 iI161 H locs hG ls (lv_sub hl [1, 2, 3, 4, 5, 0] rfl)
        exact lI154 n155s ((-1)) 0 iI154 H locs hG ls (lv_sub hl [2, 3, 4, 1, 0] rfl)
      obtain ⟨g262, h⟩ := h
      obtain ⟨g263, h⟩ := h
      refine j_icmp_eq (tgt := 53) hx hb dX11_clash_42 (by decide) g262 g263 (fun c261 => ?_) (fun c261 => ?_)
      · have h := h.1 c261
        exact jK151 M144 h H locs hG ls (lv_sub hl [0, 1, 2] rfl)
      · have h := h.2 c261
        refine lv_aload_n hx hb dX11_clash_45 rfl (lv_at hl 0 rfl) ?_
        refine lv_iload_n hx hb dX11_clash_46 rfl (lv_at hl 2 rfl) ?_
        refine lv_sipush (v := J (-2000)) hx hb dX11_clash_47 (by decide) ?_
        refine j_contv (va_runV (As := [.int (J a2), .int (J ((-2000)))]) (rest := []) ⟨hx, hb, hml, hown, hts⟩ (A_X11_enters l ka0 h) (cwV 2 hts (gj_V ml_RX11_271 i_X11_enters s_X11_enters n_RX11 k_X11_enters) rfl rfl rfl (by decide +kernel) ⟨by exact Nat.le_of_ble_eq_true rfl, by exact Nat.le_of_ble_eq_true rfl⟩) (j_preV hK hSX hG (ci := 10) rfl ka0 (by decide)) rfl rfl hl.1 rfl (lv_room (Nat.le_of_ble_eq_true rfl)) dX11_clash_50 ⟨by exact Nat.le_of_ble_eq_true rfl, by exact Nat.le_of_ble_eq_true rfl⟩) hG (c2 := 0) (s2 := 0) ⟨by exact Nat.le_of_ble_eq_true rfl, by exact Nat.le_of_ble_eq_true rfl⟩ (fun M265 h H locs hG => ?_)
        exact jK151 M265 h H locs hG ls (lv_sub hl [0, 1, 2] rfl)
    · have h := h.2 c141
      exact jK134 h H locs hG ls (lv_sub hl [0] rfl)

abbrev rm_X11_agenda : Room := { frames := 11, cells := 0, slots := 0, locals := 263 }
set_option maxRecDepth 100000 in
set_option maxHeartbeats 4000000 in
theorem A_X11_agenda (l : Launch) {D : va_G} {cy : Nat → ClassId} {o : Nat} {sK sV : Nat → Nat} {M : jT} {a0 : Int} {a1 : Int} {a2 : Int} (ka0 : kd a0 = 11) {Q : Int → jT → Prop} (h : wp_X11_agenda M a0 a1 a2 Q) : CoI l yX11_agenda (wj yX11_agenda cX11_agenda 3 (some .int)) rm_X11_agenda D cy o sK sV M [.ref (rA o a0), .int (J a1), .int (J a2)] Q := by
  refine j_ofW (cc := cX11_agenda) (maxL := 3) (ret := (some .int)) (by decide) rfl (Nat.le_of_ble_eq_true rfl) ?_
  intro p e s m args below meth c hx hb hr hlocks hml hown hts hK hSX H locs hG ls hl Qf hQf
  have hown : s.vm.findClass RX11 = some m.cls := hown
  have hl : lv_has ls 3 [(0, .ref (rA o a0)), (1, .int (J a1)), (2, .int (J a2))] := hl
  have w_fl_RX11_80 := hts _ (List.mem_cons_of_mem _ fl_RX11_80)
  have w_fl_RX11_268 := hts _ (List.mem_cons_of_mem _ fl_RX11_268)
  have w_fl_RX11_77 := hts _ (List.mem_cons_of_mem _ fl_RX11_77)
  unfold wp_X11_agenda at h
  refine lv_aload_n hx hb dX11_agenda_0 rfl (lv_at hl 0 rfl) ?_
  refine lv_iconst (v := J 0) hx hb dX11_agenda_1 (by decide) ?_
  refine j_puti hx hb hts hown hK hG (k := a0) (fun w h => List.mem_cons_of_mem _ (u_X11 w h)) tyX11 tyX11_ok nmX11 (ci := 10) rfl ka0 0 (by decide) (jz := 0) rfl w_fl_RX11_80 (hd := rfl) (hn := rfl) (hfit := rfl) (hdg := dX11_agenda_2) (fun M1 eM1 H locs hG => ?_)
  have h := h M1 eM1
  refine lv_iload_n hx hb dX11_agenda_5 rfl (lv_at hl 1 rfl) ?_
  obtain ⟨g2, h⟩ := h
  refine j_conti (va_runS (As := [.int (J a1)]) (rest := []) ⟨hx, hb, hml, hown, hts⟩ (A_X11_isInstant l g2) (va_cwS 1 hts (gj_S ml_RX11_203 i_X11_isInstant n_RX11 k_X11_isInstant) rfl rfl rfl (by decide +kernel) ⟨by exact Nat.le_of_ble_eq_true rfl, by exact Nat.le_of_ble_eq_true rfl⟩) (j_preS hK hSX hG) rfl rfl hl.1 rfl (lv_room (Nat.le_of_ble_eq_true rfl)) dX11_agenda_6 ⟨by exact Nat.le_of_ble_eq_true rfl, by exact Nat.le_of_ble_eq_true rfl⟩) hG (c2 := 0) (s2 := 0) ⟨by exact Nat.le_of_ble_eq_true rfl, by exact Nat.le_of_ble_eq_true rfl⟩ (fun z3 M4 ez3 H locs hG => ?_)
  obtain ⟨ez3, eM4⟩ := ez3
  subst ez3
  rw [eM4] at hG
  refine j_if_ne_b (tgt := 18) hx hb dX11_agenda_9 (by decide) (fun c5 => ?_) (fun c5 => ?_)
  · have h := h.1 c5
    refine lv_aload_n hx hb dX11_agenda_18 rfl (lv_at hl 0 rfl) ?_
    refine lv_iload_n hx hb dX11_agenda_19 rfl (lv_at hl 1 rfl) ?_
    refine j_contv (va_runV (As := [.int (J a1)]) (rest := []) ⟨hx, hb, hml, hown, hts⟩ (A_X11_entersAll l ka0 h) (cwV 1 hts (gj_V ml_RX11_277 i_X11_entersAll s_X11_entersAll n_RX11 k_X11_entersAll) rfl rfl rfl (by decide +kernel) ⟨by exact Nat.le_of_ble_eq_true rfl, by exact Nat.le_of_ble_eq_true rfl⟩) (j_preV hK hSX hG (ci := 10) rfl ka0 (by decide)) rfl rfl hl.1 rfl (lv_room (Nat.le_of_ble_eq_true rfl)) dX11_agenda_20 ⟨by exact Nat.le_of_ble_eq_true rfl, by exact Nat.le_of_ble_eq_true rfl⟩) hG (c2 := 0) (s2 := 0) ⟨by exact Nat.le_of_ble_eq_true rfl, by exact Nat.le_of_ble_eq_true rfl⟩ (fun M7 h H locs hG => ?_)
    refine lv_iload_n hx hb dX11_agenda_23 rfl (lv_at hl 2 rfl) ?_
    refine lv_iconst (v := J 0) hx hb dX11_agenda_24 (by decide) ?_
    refine lv_aload_n hx hb dX11_agenda_25 rfl (lv_at hl 0 rfl) ?_
    refine j_geti hx hb hts hown hK hG (k := a0) (fun w h => List.mem_cons_of_mem _ (u_X11 w h)) (ci := 10) rfl ka0 36 (by decide) (jz := 36) rfl w_fl_RX11_268 dX11_agenda_26 ?_
    refine lv_iconst (v := J 1) hx hb dX11_agenda_29 (by decide) ?_
    refine j_isub hx hb dX11_agenda_30 ?_
    obtain ⟨g8, h⟩ := h
    refine j_conti (va_runS (As := [.int (J a2), .int (J 0), .int (J ((M7 a0 36) - 1))]) (rest := []) ⟨hx, hb, hml, hown, hts⟩ (A_X11_in l g8) (va_cwS 3 hts (gj_S ml_RX11_106 i_X11_in n_RX11 k_X11_in) rfl rfl rfl (by decide +kernel) ⟨by exact Nat.le_of_ble_eq_true rfl, by exact Nat.le_of_ble_eq_true rfl⟩) (j_preS hK hSX hG) rfl rfl hl.1 rfl (lv_room (Nat.le_of_ble_eq_true rfl)) dX11_agenda_31 ⟨by exact Nat.le_of_ble_eq_true rfl, by exact Nat.le_of_ble_eq_true rfl⟩) hG (c2 := 0) (s2 := 0) ⟨by exact Nat.le_of_ble_eq_true rfl, by exact Nat.le_of_ble_eq_true rfl⟩ (fun z9 M10 ez9 H locs hG => ?_)
    obtain ⟨ez9, eM10⟩ := ez9
    subst ez9
    rw [eM10] at hG
    obtain ⟨K17, hK17, h⟩ := h
    have jK17 : ∀ (x15 : Int) (M16 : jT), K17 x15 M16 → ∀ (H : Heap) (locs : List Loc), GM D cy o M16 s.heap H locs → ∀ ls : Array Slot, lv_has ls 3 [] → W p l e rm_X11_agenda s m args below meth c H locs 0 0 Qf (F0 m 51 ls [.int (J x15)]) := by
      intro x15 M16 hcK17 H locs hG ls hl
      have h := hK17 x15 M16 hcK17
      rw [hQf]
      exact j_ireti hx hb hr hlocks hG h (by decide) dX11_agenda_51
    refine j_if_eq_b (tgt := 46) hx hb dX11_agenda_34 (by decide) (fun c18 => ?_) (fun c18 => ?_)
    · have h := h.1 c18
      refine lv_aload_n hx hb dX11_agenda_46 rfl (lv_at hl 0 rfl) ?_
      refine lv_iconst (v := J 2) hx hb dX11_agenda_47 (by decide) ?_
      refine j_conti (va_runV (As := [.int (J 2)]) (rest := []) ⟨hx, hb, hml, hown, hts⟩ (A_X11_raises l ka0 h) (cwV 1 hts (gj_V ml_RX11_110 i_X11_raises s_X11_raises n_RX11 k_X11_raises) rfl rfl rfl (by decide +kernel) ⟨by exact Nat.le_of_ble_eq_true rfl, by exact Nat.le_of_ble_eq_true rfl⟩) (j_preV hK hSX hG (ci := 10) rfl ka0 (by decide)) rfl rfl hl.1 rfl (lv_room (Nat.le_of_ble_eq_true rfl)) dX11_agenda_48 ⟨by exact Nat.le_of_ble_eq_true rfl, by exact Nat.le_of_ble_eq_true rfl⟩) hG (c2 := 0) (s2 := 0) ⟨by exact Nat.le_of_ble_eq_true rfl, by exact Nat.le_of_ble_eq_true rfl⟩ (fun z19 M20 h H locs hG => ?_)
      exact jK17 z19 M20 h H locs hG ls (lv_sub hl [] rfl)
    · have h := h.2 c18
      refine lv_aload_n hx hb dX11_agenda_37 rfl (lv_at hl 0 rfl) ?_
      refine j_getr hx hb hts hown hK hG (k := a0) (fun w h => List.mem_cons_of_mem _ (u_X11 w h)) (ci := 10) rfl ka0 35 (k2 := a0 + 21) (by decide) (by show a0 + (21 : Int) = a0 + 21; omega) w_fl_RX11_77 dX11_agenda_38 ?_
      refine lv_iload_n hx hb dX11_agenda_41 rfl (lv_at hl 2 rfl) ?_
      obtain ⟨g21, h⟩ := h
      refine j_iald hx hb hK hG (n := 400) (kf_11_35 ka0) (by decide) g21 dX11_agenda_42 ?_
      refine lv_goto (tgt := 51) hx hb dX11_agenda_43 (by decide) ?_
      exact jK17 (M7 (a0 + 21) a2) M7 h H locs hG ls (lv_sub hl [] rfl)
  · have h := h.2 c5
    refine lv_aload_n hx hb dX11_agenda_12 rfl (lv_at hl 0 rfl) ?_
    refine lv_iconst (v := J 1) hx hb dX11_agenda_13 (by decide) ?_
    refine j_conti (va_runV (As := [.int (J 1)]) (rest := []) ⟨hx, hb, hml, hown, hts⟩ (A_X11_raises l ka0 h) (cwV 1 hts (gj_V ml_RX11_110 i_X11_raises s_X11_raises n_RX11 k_X11_raises) rfl rfl rfl (by decide +kernel) ⟨by exact Nat.le_of_ble_eq_true rfl, by exact Nat.le_of_ble_eq_true rfl⟩) (j_preV hK hSX hG (ci := 10) rfl ka0 (by decide)) rfl rfl hl.1 rfl (lv_room (Nat.le_of_ble_eq_true rfl)) dX11_agenda_14 ⟨by exact Nat.le_of_ble_eq_true rfl, by exact Nat.le_of_ble_eq_true rfl⟩) hG (c2 := 0) (s2 := 0) ⟨by exact Nat.le_of_ble_eq_true rfl, by exact Nat.le_of_ble_eq_true rfl⟩ (fun z22 M23 h H locs hG => ?_)
    rw [hQf]
    exact j_ireti hx hb hr hlocks hG h (by decide) dX11_agenda_17

abbrev rm_X11_free : Room := { frames := 11, cells := 0, slots := 0, locals := 263 }
set_option maxRecDepth 100000 in
set_option maxHeartbeats 4000000 in
theorem A_X11_free (l : Launch) {D : va_G} {cy : Nat → ClassId} {o : Nat} {sK sV : Nat → Nat} {M : jT} {a0 : Int} {a1 : Int} {a2 : Int} {a3 : Int} (ka0 : kd a0 = 11) {Q : Int → jT → Prop} (h : wp_X11_free M a0 a1 a2 a3 Q) : CoI l yX11_free (wj yX11_free cX11_free 8 (some .int)) rm_X11_free D cy o sK sV M [.ref (rA o a0), .int (J a1), .int (J a2), .int (J a3)] Q := by
  refine j_ofW (cc := cX11_free) (maxL := 8) (ret := (some .int)) (by decide) rfl (Nat.le_of_ble_eq_true rfl) ?_
  intro p e s m args below meth c hx hb hr hlocks hml hown hts hK hSX H locs hG ls hl Qf hQf
  have hown : s.vm.findClass RX11 = some m.cls := hown
  have hl : lv_has ls 8 [(0, .ref (rA o a0)), (1, .int (J a1)), (2, .int (J a2)), (3, .int (J a3))] := hl
  have w_fl_RX11_80 := hts _ (List.mem_cons_of_mem _ fl_RX11_80)
  have w_fl_RX11_268 := hts _ (List.mem_cons_of_mem _ fl_RX11_268)
  have w_fl_RX11_74 := hts _ (List.mem_cons_of_mem _ fl_RX11_74)
  have w_fl_RX11_77 := hts _ (List.mem_cons_of_mem _ fl_RX11_77)
  unfold wp_X11_free at h
  refine lv_aload_n hx hb dX11_free_0 rfl (lv_at hl 0 rfl) ?_
  refine lv_iconst (v := J 0) hx hb dX11_free_1 (by decide) ?_
  refine j_puti hx hb hts hown hK hG (k := a0) (fun w h => List.mem_cons_of_mem _ (u_X11 w h)) tyX11 tyX11_ok nmX11 (ci := 10) rfl ka0 0 (by decide) (jz := 0) rfl w_fl_RX11_80 (hd := rfl) (hn := rfl) (hfit := rfl) (hdg := dX11_free_2) (fun M1 eM1 H locs hG => ?_)
  have h := h M1 eM1
  refine lv_iload_n hx hb dX11_free_5 rfl (lv_at hl 1 rfl) ?_
  obtain ⟨g2, h⟩ := h
  refine j_conti (va_runS (As := [.int (J a1)]) (rest := []) ⟨hx, hb, hml, hown, hts⟩ (A_X11_isInstant l g2) (va_cwS 1 hts (gj_S ml_RX11_203 i_X11_isInstant n_RX11 k_X11_isInstant) rfl rfl rfl (by decide +kernel) ⟨by exact Nat.le_of_ble_eq_true rfl, by exact Nat.le_of_ble_eq_true rfl⟩) (j_preS hK hSX hG) rfl rfl hl.1 rfl (lv_room (Nat.le_of_ble_eq_true rfl)) dX11_free_6 ⟨by exact Nat.le_of_ble_eq_true rfl, by exact Nat.le_of_ble_eq_true rfl⟩) hG (c2 := 0) (s2 := 0) ⟨by exact Nat.le_of_ble_eq_true rfl, by exact Nat.le_of_ble_eq_true rfl⟩ (fun z3 M4 ez3 H locs hG => ?_)
  obtain ⟨ez3, eM4⟩ := ez3
  subst ez3
  rw [eM4] at hG
  obtain ⟨K66, hK66, h⟩ := h
  have jK66 : K66 → ∀ (H : Heap) (locs : List Loc), GM D cy o M1 s.heap H locs → ∀ ls : Array Slot, lv_has ls 8 [(0, .ref (rA o a0))] → W p l e rm_X11_free s m args below meth c H locs 0 0 Qf (F0 m 30 ls []) := by
    intro hcK66 H locs hG ls hl
    have h := hK66 hcK66
    refine lv_aload_n hx hb dX11_free_30 rfl (lv_at hl 0 rfl) ?_
    refine lv_iconst (v := J 1) hx hb dX11_free_31 (by decide) ?_
    refine j_conti (va_runV (As := [.int (J 1)]) (rest := []) ⟨hx, hb, hml, hown, hts⟩ (A_X11_raises l ka0 h) (cwV 1 hts (gj_V ml_RX11_110 i_X11_raises s_X11_raises n_RX11 k_X11_raises) rfl rfl rfl (by decide +kernel) ⟨by exact Nat.le_of_ble_eq_true rfl, by exact Nat.le_of_ble_eq_true rfl⟩) (j_preV hK hSX hG (ci := 10) rfl ka0 (by decide)) rfl rfl hl.1 rfl (lv_room (Nat.le_of_ble_eq_true rfl)) dX11_free_32 ⟨by exact Nat.le_of_ble_eq_true rfl, by exact Nat.le_of_ble_eq_true rfl⟩) hG (c2 := 0) (s2 := 0) ⟨by exact Nat.le_of_ble_eq_true rfl, by exact Nat.le_of_ble_eq_true rfl⟩ (fun z67 M68 h H locs hG => ?_)
    rw [hQf]
    exact j_ireti hx hb hr hlocks hG h (by decide) dX11_free_35
  refine j_if_eq_b (tgt := 30) hx hb dX11_free_9 (by decide) (fun c69 => ?_) (fun c69 => ?_)
  · have h := h.1 c69
    exact jK66 h H locs hG ls (lv_sub hl [0] rfl)
  · have h := h.2 c69
    refine lv_iload_n hx hb dX11_free_12 rfl (lv_at hl 2 rfl) ?_
    obtain ⟨g70, h⟩ := h
    refine j_conti (va_runS (As := [.int (J a2)]) (rest := []) ⟨hx, hb, hml, hown, hts⟩ (A_X11_isInstant l g70) (va_cwS 1 hts (gj_S ml_RX11_203 i_X11_isInstant n_RX11 k_X11_isInstant) rfl rfl rfl (by decide +kernel) ⟨by exact Nat.le_of_ble_eq_true rfl, by exact Nat.le_of_ble_eq_true rfl⟩) (j_preS hK hSX hG) rfl rfl hl.1 rfl (lv_room (Nat.le_of_ble_eq_true rfl)) dX11_free_13 ⟨by exact Nat.le_of_ble_eq_true rfl, by exact Nat.le_of_ble_eq_true rfl⟩) hG (c2 := 0) (s2 := 0) ⟨by exact Nat.le_of_ble_eq_true rfl, by exact Nat.le_of_ble_eq_true rfl⟩ (fun z71 M72 ez71 H locs hG => ?_)
    obtain ⟨ez71, eM72⟩ := ez71
    subst ez71
    rw [eM72] at hG
    refine j_if_eq_b (tgt := 30) hx hb dX11_free_16 (by decide) (fun c73 => ?_) (fun c73 => ?_)
    · have h := h.1 c73
      exact jK66 h H locs hG ls (lv_sub hl [0] rfl)
    · have h := h.2 c73
      refine lv_iload_n hx hb dX11_free_19 rfl (lv_at hl 3 rfl) ?_
      refine lv_iconst (v := J 1) hx hb dX11_free_20 (by decide) ?_
      refine lv_sipush (v := J 1440) hx hb dX11_free_21 (by decide) ?_
      obtain ⟨g74, h⟩ := h
      refine j_conti (va_runS (As := [.int (J a3), .int (J 1), .int (J 1440)]) (rest := []) ⟨hx, hb, hml, hown, hts⟩ (A_X11_in l g74) (va_cwS 3 hts (gj_S ml_RX11_106 i_X11_in n_RX11 k_X11_in) rfl rfl rfl (by decide +kernel) ⟨by exact Nat.le_of_ble_eq_true rfl, by exact Nat.le_of_ble_eq_true rfl⟩) (j_preS hK hSX hG) rfl rfl hl.1 rfl (lv_room (Nat.le_of_ble_eq_true rfl)) dX11_free_24 ⟨by exact Nat.le_of_ble_eq_true rfl, by exact Nat.le_of_ble_eq_true rfl⟩) hG (c2 := 0) (s2 := 0) ⟨by exact Nat.le_of_ble_eq_true rfl, by exact Nat.le_of_ble_eq_true rfl⟩ (fun z75 M76 ez75 H locs hG => ?_)
      obtain ⟨ez75, eM76⟩ := ez75
      subst ez75
      rw [eM76] at hG
      refine j_if_ne_b (tgt := 36) hx hb dX11_free_27 (by decide) (fun c77 => ?_) (fun c77 => ?_)
      · have h := h.1 c77
        refine lv_aload_n hx hb dX11_free_36 rfl (lv_at hl 0 rfl) ?_
        refine lv_sipush (v := J (-2000)) hx hb dX11_free_37 (by decide) ?_
        refine j_contv (va_runV (As := [.int (J ((-2000)))]) (rest := []) ⟨hx, hb, hml, hown, hts⟩ (A_X11_entersAll l ka0 h) (cwV 1 hts (gj_V ml_RX11_277 i_X11_entersAll s_X11_entersAll n_RX11 k_X11_entersAll) rfl rfl rfl (by decide +kernel) ⟨by exact Nat.le_of_ble_eq_true rfl, by exact Nat.le_of_ble_eq_true rfl⟩) (j_preV hK hSX hG (ci := 10) rfl ka0 (by decide)) rfl rfl hl.1 rfl (lv_room (Nat.le_of_ble_eq_true rfl)) dX11_free_40 ⟨by exact Nat.le_of_ble_eq_true rfl, by exact Nat.le_of_ble_eq_true rfl⟩) hG (c2 := 0) (s2 := 0) ⟨by exact Nat.le_of_ble_eq_true rfl, by exact Nat.le_of_ble_eq_true rfl⟩ (fun M79 h H locs hG => ?_)
        refine lv_iload_n hx hb dX11_free_43 rfl (lv_at hl 1 rfl) ?_
        refine lv_istore (lv' := [(4, .int (J a1)), (0, .ref (rA o a0)), (1, .int (J a1)), (2, .int (J a2)), (3, .int (J a3))]) hx hb dX11_free_44 hl (by decide) rfl (fun ls hl => ?_)
        refine lv_iconst (v := J 1) hx hb dX11_free_46 (by decide) ?_
        refine lv_istore (lv' := [(5, .int (J 1)), (4, .int (J a1)), (0, .ref (rA o a0)), (1, .int (J a1)), (2, .int (J a2)), (3, .int (J a3))]) hx hb dX11_free_47 hl (by decide) rfl (fun ls hl => ?_)
        obtain ⟨I82, ⟨n83s, iI82⟩, qI82⟩ := h
        have lI82 : ∀ (n83 : Nat) (x80 : Int) (x81 : Int), I82 n83 x80 x81 → ∀ (H : Heap) (locs : List Loc), GM D cy o M79 s.heap H locs → ∀ ls : Array Slot, lv_has ls 8 [(0, .ref (rA o a0)), (2, .int (J a2)), (3, .int (J a3)), (4, .int (J x80)), (5, .int (J x81))] → W p l e rm_X11_free s m args below meth c H locs 0 0 Qf (F0 m 49 ls []) := by
          intro n83
          induction n83 using Nat.strongRecOn with
          | ind n83 rI82 =>
            intro x80 x81 iI82 H locs hG ls hl
            have h := qI82 n83 x80 x81 iI82
            refine lv_iload hx hb dX11_free_49 (lv_at hl 4 rfl) ?_
            obtain ⟨g85, h⟩ := h
            refine j_if_eq (tgt := 130) hx hb dX11_free_51 (by decide) g85 (fun c84 => ?_) (fun c84 => ?_)
            · have h := h.1 c84
              refine lv_iload hx hb dX11_free_130 (lv_at hl 3 rfl) ?_
              refine lv_iload_n hx hb dX11_free_132 rfl (lv_at hl 2 rfl) ?_
              refine j_iadd hx hb dX11_free_133 ?_
              refine lv_iload_n hx hb dX11_free_134 rfl (lv_at hl 1 rfl) ?_
              obtain ⟨K93, hK93, h⟩ := h
              have jK93 : ∀ (x91 : Int) (M92 : jT), K93 x91 M92 → ∀ (H : Heap) (locs : List Loc), GM D cy o M92 s.heap H locs → ∀ ls : Array Slot, lv_has ls 8 [] → W p l e rm_X11_free s m args below meth c H locs 0 0 Qf (F0 m 148 ls [.int (J x91)]) := by
                intro x91 M92 hcK93 H locs hG ls hl
                have h := hK93 x91 M92 hcK93
                rw [hQf]
                exact j_ireti hx hb hr hlocks hG h (by decide) dX11_free_148
              obtain ⟨g95, h⟩ := h
              obtain ⟨g96, h⟩ := h
              refine j_icmp_gt (tgt := 143) hx hb dX11_free_135 (by decide) g95 g96 (fun c94 => ?_) (fun c94 => ?_)
              · have h := h.1 c94
                refine lv_aload_n hx hb dX11_free_143 rfl (lv_at hl 0 rfl) ?_
                refine lv_iconst (v := J 2) hx hb dX11_free_144 (by decide) ?_
                refine j_conti (va_runV (As := [.int (J 2)]) (rest := []) ⟨hx, hb, hml, hown, hts⟩ (A_X11_raises l ka0 h) (cwV 1 hts (gj_V ml_RX11_110 i_X11_raises s_X11_raises n_RX11 k_X11_raises) rfl rfl rfl (by decide +kernel) ⟨by exact Nat.le_of_ble_eq_true rfl, by exact Nat.le_of_ble_eq_true rfl⟩) (j_preV hK hSX hG (ci := 10) rfl ka0 (by decide)) rfl rfl hl.1 rfl (lv_room (Nat.le_of_ble_eq_true rfl)) dX11_free_145 ⟨by exact Nat.le_of_ble_eq_true rfl, by exact Nat.le_of_ble_eq_true rfl⟩) hG (c2 := 0) (s2 := 0) ⟨by exact Nat.le_of_ble_eq_true rfl, by exact Nat.le_of_ble_eq_true rfl⟩ (fun z97 M98 h H locs hG => ?_)
                exact jK93 z97 M98 h H locs hG ls (lv_sub hl [] rfl)
              · have h := h.2 c94
                refine lv_iload hx hb dX11_free_138 (lv_at hl 3 rfl) ?_
                refine lv_goto (tgt := 148) hx hb dX11_free_140 (by decide) ?_
                exact jK93 x80 M79 h H locs hG ls (lv_sub hl [] rfl)
            · have h := h.2 c84
              refine lv_iconst (v := J 0) hx hb dX11_free_54 (by decide) ?_
              refine lv_istore (lv' := [(5, .int (J 0)), (0, .ref (rA o a0)), (2, .int (J a2)), (3, .int (J a3)), (4, .int (J x80))]) hx hb dX11_free_55 hl (by decide) rfl (fun ls hl => ?_)
              refine lv_iconst (v := J 0) hx hb dX11_free_57 (by decide) ?_
              refine lv_istore (lv' := [(6, .int (J 0)), (5, .int (J 0)), (0, .ref (rA o a0)), (2, .int (J a2)), (3, .int (J a3)), (4, .int (J x80))]) hx hb dX11_free_58 hl (by decide) rfl (fun ls hl => ?_)
              obtain ⟨I102, ⟨n103s, iI102⟩, qI102⟩ := h
              have lI102 : ∀ (n103 : Nat) (x99 : Int) (x100 : Int) (x101 : Int), I102 n103 x99 x100 x101 → ∀ (H : Heap) (locs : List Loc), GM D cy o M79 s.heap H locs → ∀ ls : Array Slot, lv_has ls 8 [(0, .ref (rA o a0)), (2, .int (J a2)), (3, .int (J a3)), (4, .int (J x99)), (5, .int (J x100)), (6, .int (J x101))] → W p l e rm_X11_free s m args below meth c H locs 0 0 Qf (F0 m 60 ls []) := by
                intro n103
                induction n103 using Nat.strongRecOn with
                | ind n103 rI102 =>
                  intro x99 x100 x101 iI102 H locs hG ls hl
                  have h := qI102 n103 x99 x100 x101 iI102
                  refine lv_iload hx hb dX11_free_60 (lv_at hl 5 rfl) ?_
                  refine lv_aload_n hx hb dX11_free_62 rfl (lv_at hl 0 rfl) ?_
                  refine j_geti hx hb hts hown hK hG (k := a0) (fun w h => List.mem_cons_of_mem _ (u_X11 w h)) (ci := 10) rfl ka0 36 (by decide) (jz := 36) rfl w_fl_RX11_268 dX11_free_63 ?_
                  obtain ⟨g105, h⟩ := h
                  obtain ⟨g106, h⟩ := h
                  refine j_icmp_ge (tgt := 127) hx hb dX11_free_66 (by decide) g105 g106 (fun c104 => ?_) (fun c104 => ?_)
                  · have h := h.1 c104
                    refine lv_goto (tgt := 49) hx hb dX11_free_127 (by decide) ?_
                    obtain ⟨n107, ln107, iI82⟩ := h
                    exact rI82 n107 ln107 x99 x100 iI82 H locs hG ls (lv_sub hl [0, 1, 2, 3, 4] rfl)
                  · have h := h.2 c104
                    refine lv_aload_n hx hb dX11_free_69 rfl (lv_at hl 0 rfl) ?_
                    refine j_getr hx hb hts hown hK hG (k := a0) (fun w h => List.mem_cons_of_mem _ (u_X11 w h)) (ci := 10) rfl ka0 34 (k2 := a0 + 20) (by decide) (by show a0 + (20 : Int) = a0 + 20; omega) w_fl_RX11_74 dX11_free_70 ?_
                    refine lv_iload hx hb dX11_free_73 (lv_at hl 5 rfl) ?_
                    obtain ⟨g108, h⟩ := h
                    refine j_iald hx hb hK hG (n := 400) (kf_11_34 ka0) (by decide) g108 dX11_free_75 ?_
                    refine lv_aload_n hx hb dX11_free_76 rfl (lv_at hl 0 rfl) ?_
                    refine lv_aload_n hx hb dX11_free_77 rfl (lv_at hl 0 rfl) ?_
                    refine j_getr hx hb hts hown hK hG (k := a0) (fun w h => List.mem_cons_of_mem _ (u_X11 w h)) (ci := 10) rfl ka0 35 (k2 := a0 + 21) (by decide) (by show a0 + (21 : Int) = a0 + 21; omega) w_fl_RX11_77 dX11_free_78 ?_
                    refine lv_iload hx hb dX11_free_81 (lv_at hl 5 rfl) ?_
                    refine j_iald hx hb hK hG (n := 400) (kf_11_35 ka0) (by decide) g108 dX11_free_83 ?_
                    obtain ⟨g109, h⟩ := h
                    refine j_conti (va_runV (As := [.int (J (M79 (a0 + 21) x101))]) (rest := [.int (J (M79 (a0 + 20) x101))]) ⟨hx, hb, hml, hown, hts⟩ (A_X11_durationOf l ka0 g109) (cwV 1 hts (gj_V ml_RX11_274 i_X11_durationOf s_X11_durationOf n_RX11 k_X11_durationOf) rfl rfl rfl (by decide +kernel) ⟨by exact Nat.le_of_ble_eq_true rfl, by exact Nat.le_of_ble_eq_true rfl⟩) (j_preV hK hSX hG (ci := 10) rfl ka0 (by decide)) rfl rfl hl.1 rfl (lv_room (Nat.le_of_ble_eq_true rfl)) dX11_free_84 ⟨by exact Nat.le_of_ble_eq_true rfl, by exact Nat.le_of_ble_eq_true rfl⟩) hG (c2 := 0) (s2 := 0) ⟨by exact Nat.le_of_ble_eq_true rfl, by exact Nat.le_of_ble_eq_true rfl⟩ (fun z110 M111 ez110 H locs hG => ?_)
                    obtain ⟨ez110, eM111⟩ := ez110
                    subst ez110
                    rw [eM111] at hG
                    refine j_iadd hx hb dX11_free_87 ?_
                    refine j_topi (fun x112 ex112 => ?_)
                    have h := h x112 ex112
                    refine lv_istore (lv' := [(7, .int (J x112)), (0, .ref (rA o a0)), (2, .int (J a2)), (3, .int (J a3)), (4, .int (J x99)), (5, .int (J x100)), (6, .int (J x101))]) hx hb dX11_free_88 hl (by decide) rfl (fun ls hl => ?_)
                    refine lv_aload_n hx hb dX11_free_90 rfl (lv_at hl 1 rfl) ?_
                    refine j_getr hx hb hts hown hK hG (k := a0) (fun w h => List.mem_cons_of_mem _ (u_X11 w h)) (ci := 10) rfl ka0 34 (k2 := a0 + 20) (by decide) (by show a0 + (20 : Int) = a0 + 20; omega) w_fl_RX11_74 dX11_free_91 ?_
                    refine lv_iload hx hb dX11_free_94 (lv_at hl 6 rfl) ?_
                    refine j_iald hx hb hK hG (n := 400) (kf_11_34 ka0) (by decide) g108 dX11_free_96 ?_
                    refine lv_iload hx hb dX11_free_97 (lv_at hl 4 rfl) ?_
                    refine lv_iload_n hx hb dX11_free_99 rfl (lv_at hl 3 rfl) ?_
                    refine j_iadd hx hb dX11_free_100 ?_
                    obtain ⟨hg, h⟩ := h
                    have jK121 : ∀ x119 : Int, (x99 + a3 ≤ M79 (a0 + 20) x101 → x119 = x99) → (M79 (a0 + 20) x101 < x99 + a3 ∧ x99 < x112 → x119 = x112) → (M79 (a0 + 20) x101 < x99 + a3 ∧ x112 ≤ x99 → x119 = x99) → ∀ x120 : Int, (x99 + a3 ≤ M79 (a0 + 20) x101 → x120 = x100) → (M79 (a0 + 20) x101 < x99 + a3 ∧ x99 < x112 → x120 = 1) → (M79 (a0 + 20) x101 < x99 + a3 ∧ x112 ≤ x99 → x120 = x100) → ∀ (H : Heap) (locs : List Loc), GM D cy o M79 s.heap H locs → ∀ ls : Array Slot, lv_has ls 8 [(0, .ref (rA o a0)), (2, .int (J a2)), (3, .int (J a3)), (4, .int (J x119)), (5, .int (J x120)), (6, .int (J x101))] → W p l e rm_X11_free s m args below meth c H locs 0 0 Qf (F0 m 121 ls []) := by
                      intro x119 qx119_0 qx119_1 qx119_2 x120 qx120_0 qx120_1 qx120_2 H locs hG ls hl
                      have h := h x119 qx119_0 qx119_1 qx119_2 x120 qx120_0 qx120_1 qx120_2
                      refine j_iinc hx hb dX11_free_121 hl (k := 5) rfl (by decide) (fun x128 ex128 ls hl => ?_)
                      have h := h x128 ex128
                      have hl : lv_has ls 8 [(6, .int (J x128)), (0, .ref (rA o a0)), (2, .int (J a2)), (3, .int (J a3)), (4, .int (J x119)), (5, .int (J x120))] := hl
                      refine lv_goto (tgt := 60) hx hb dX11_free_124 (by decide) ?_
                      obtain ⟨n129, ln129, iI102⟩ := h
                      exact rI102 n129 ln129 x119 x120 x128 iI102 H locs hG ls (lv_sub hl [1, 2, 3, 4, 5, 0] rfl)
                    have h := hg
                    obtain ⟨g123, h⟩ := h
                    obtain ⟨g124, h⟩ := h
                    refine j_icmp_ge (tgt := 121) hx hb dX11_free_101 (by decide) g123 g124 (fun c122 => ?_) (fun c122 => ?_)
                    · have h := h.1 c122
                      exact jK121 x99 (fun _ => rfl) (fun q => absurd q.1 (by omega)) (fun q => absurd q.1 (by omega)) x100 (fun _ => rfl) (fun q => absurd q.1 (by omega)) (fun q => absurd q.1 (by omega)) H locs hG ls (lv_sub hl [1, 2, 3, 4, 5, 6] rfl)
                    · have h := h.2 c122
                      refine lv_iload hx hb dX11_free_104 (lv_at hl 0 rfl) ?_
                      refine lv_iload hx hb dX11_free_106 (lv_at hl 4 rfl) ?_
                      obtain ⟨g126, h⟩ := h
                      obtain ⟨g127, h⟩ := h
                      refine j_icmp_gt (tgt := 114) hx hb dX11_free_108 (by decide) g126 g127 (fun c125 => ?_) (fun c125 => ?_)
                      · have h := h.1 c125
                        refine lv_iload hx hb dX11_free_114 (lv_at hl 0 rfl) ?_
                        refine lv_istore (lv' := [(4, .int (J x112)), (7, .int (J x112)), (0, .ref (rA o a0)), (2, .int (J a2)), (3, .int (J a3)), (5, .int (J x100)), (6, .int (J x101))]) hx hb dX11_free_116 hl (by decide) rfl (fun ls hl => ?_)
                        refine lv_iconst (v := J 1) hx hb dX11_free_118 (by decide) ?_
                        refine lv_istore (lv' := [(5, .int (J 1)), (4, .int (J x112)), (7, .int (J x112)), (0, .ref (rA o a0)), (2, .int (J a2)), (3, .int (J a3)), (6, .int (J x101))]) hx hb dX11_free_119 hl (by decide) rfl (fun ls hl => ?_)
                        exact jK121 x112 (fun q => absurd q (by omega)) (fun _ => rfl) (fun q => absurd q.2 (by omega)) 1 (fun q => absurd q (by omega)) (fun _ => rfl) (fun q => absurd q.2 (by omega)) H locs hG ls (lv_sub hl [3, 4, 5, 1, 0, 6] rfl)
                      · have h := h.2 c125
                        refine lv_goto (tgt := 121) hx hb dX11_free_111 (by decide) ?_
                        exact jK121 x99 (fun q => absurd q (by omega)) (fun q => absurd q.2 (by omega)) (fun _ => rfl) x100 (fun q => absurd q (by omega)) (fun q => absurd q.2 (by omega)) (fun _ => rfl) H locs hG ls (lv_sub hl [1, 2, 3, 4, 5, 6] rfl)
              exact lI102 n103s x80 0 0 iI102 H locs hG ls (lv_sub hl [2, 3, 4, 5, 1, 0] rfl)
        exact lI82 n83s a1 1 iI82 H locs hG ls (lv_sub hl [2, 4, 5, 1, 0] rfl)
      · have h := h.2 c77
        exact jK66 h H locs hG ls (lv_sub hl [0] rfl)

abbrev rm_X11_append : Room := { frames := 1, cells := 0, slots := 0, locals := 22 }
set_option maxRecDepth 100000 in
set_option maxHeartbeats 4000000 in
theorem A_X11_append (l : Launch) {D : va_G} {cy : Nat → ClassId} {o : Nat} {sK sV : Nat → Nat} {M : jT} {a0 : Int} {a1 : Int} (ka0 : kd a0 = 11) {Q : Int → jT → Prop} (h : wp_X11_append M a0 a1 Q) : CoI l yX11_append (wj yX11_append cX11_append 5 (some .int)) rm_X11_append D cy o sK sV M [.ref (rA o a0), .int (J a1)] Q := by
  refine j_ofW (cc := cX11_append) (maxL := 5) (ret := (some .int)) (by decide) rfl (Nat.le_of_ble_eq_true rfl) ?_
  intro p e s m args below meth c hx hb hr hlocks hml hown hts hK hSX H locs hG ls hl Qf hQf
  have hown : s.vm.findClass RX11 = some m.cls := hown
  have hl : lv_has ls 5 [(0, .ref (rA o a0)), (1, .int (J a1))] := hl
  have w_fl_RX11_80 := hts _ (List.mem_cons_of_mem _ fl_RX11_80)
  have w_fl_RX11_283 := hts _ (List.mem_cons_of_mem _ fl_RX11_283)
  have w_fl_RX11_22 := hts _ (List.mem_cons_of_mem _ fl_RX11_22)
  unfold wp_X11_append at h
  refine lv_aload_n hx hb dX11_append_0 rfl (lv_at hl 0 rfl) ?_
  refine lv_iconst (v := J 0) hx hb dX11_append_1 (by decide) ?_
  refine j_puti hx hb hts hown hK hG (k := a0) (fun w h => List.mem_cons_of_mem _ (u_X11 w h)) tyX11 tyX11_ok nmX11 (ci := 10) rfl ka0 0 (by decide) (jz := 0) rfl w_fl_RX11_80 (hd := rfl) (hn := rfl) (hfit := rfl) (hdg := dX11_append_2) (fun M1 eM1 H locs hG => ?_)
  have h := h M1 eM1
  refine lv_iconst (v := J 0) hx hb dX11_append_5 (by decide) ?_
  refine lv_istore_n (lv' := [(2, .int (J 0)), (0, .ref (rA o a0)), (1, .int (J a1))]) hx hb dX11_append_6 rfl hl (by decide) rfl (fun ls hl => ?_)
  refine lv_bipush (v := J 24) hx hb dX11_append_7 (by decide) ?_
  refine lv_istore_n (lv' := [(3, .int (J 24)), (2, .int (J 0)), (0, .ref (rA o a0)), (1, .int (J a1))]) hx hb dX11_append_9 rfl hl (by decide) rfl (fun ls hl => ?_)
  obtain ⟨I4, ⟨n5s, iI4⟩, qI4⟩ := h
  have lI4 : ∀ (n5 : Nat) (x2 : Int) (x3 : Int), I4 n5 x2 x3 → ∀ (H : Heap) (locs : List Loc), GM D cy o M1 s.heap H locs → ∀ ls : Array Slot, lv_has ls 5 [(0, .ref (rA o a0)), (1, .int (J a1)), (2, .int (J x2)), (3, .int (J x3))] → W p l e rm_X11_append s m args below meth c H locs 0 0 Qf (F0 m 10 ls []) := by
    intro n5
    induction n5 using Nat.strongRecOn with
    | ind n5 rI4 =>
      intro x2 x3 iI4 H locs hG ls hl
      have h := qI4 n5 x2 x3 iI4
      refine lv_iload_n hx hb dX11_append_10 rfl (lv_at hl 3 rfl) ?_
      obtain ⟨g7, h⟩ := h
      refine j_if_lt (tgt := 58) hx hb dX11_append_11 (by decide) g7 (fun c6 => ?_) (fun c6 => ?_)
      · have h := h.1 c6
        refine lv_aload_n hx hb dX11_append_58 rfl (lv_at hl 0 rfl) ?_
        refine j_geti hx hb hts hown hK hG (k := a0) (fun w h => List.mem_cons_of_mem _ (u_X11 w h)) (ci := 10) rfl ka0 8 (by decide) (jz := 8) rfl w_fl_RX11_283 dX11_append_59 ?_
        refine lv_iload_n hx hb dX11_append_62 rfl (lv_at hl 2 rfl) ?_
        refine j_iadd hx hb dX11_append_63 ?_
        refine lv_bipush (v := J 60) hx hb dX11_append_64 (by decide) ?_
        obtain ⟨g9, h⟩ := h
        refine j_icmp_le (tgt := 75) hx hb dX11_append_66 (by decide) g9 (by decide) (fun c8 => ?_) (fun c8 => ?_)
        · have h := h.1 c8
          refine lv_bipush (v := J 24) hx hb dX11_append_75 (by decide) ?_
          refine lv_istore_n (lv' := [(3, .int (J 24)), (0, .ref (rA o a0)), (1, .int (J a1)), (2, .int (J x2))]) hx hb dX11_append_77 rfl hl (by decide) rfl (fun ls hl => ?_)
          obtain ⟨I12, ⟨n13s, iI12⟩, qI12⟩ := h
          have lI12 : ∀ (n13 : Nat) (x10 : Int) (M11 : jT), I12 n13 x10 M11 → ∀ (H : Heap) (locs : List Loc), GM D cy o M11 s.heap H locs → ∀ ls : Array Slot, lv_has ls 5 [(0, .ref (rA o a0)), (1, .int (J a1)), (3, .int (J x10))] → W p l e rm_X11_append s m args below meth c H locs 0 0 Qf (F0 m 78 ls []) := by
            intro n13
            induction n13 using Nat.strongRecOn with
            | ind n13 rI12 =>
              intro x10 M11 iI12 H locs hG ls hl
              have h := qI12 n13 x10 M11 iI12
              refine lv_iload_n hx hb dX11_append_78 rfl (lv_at hl 2 rfl) ?_
              obtain ⟨g15, h⟩ := h
              refine j_if_lt (tgt := 120) hx hb dX11_append_79 (by decide) g15 (fun c14 => ?_) (fun c14 => ?_)
              · have h := h.1 c14
                refine lv_aload_n hx hb dX11_append_120 rfl (lv_at hl 0 rfl) ?_
                refine j_geti hx hb hts hown hK hG (k := a0) (fun w h => List.mem_cons_of_mem _ (u_X11 w h)) (ci := 10) rfl ka0 8 (by decide) (jz := 8) rfl w_fl_RX11_283 dX11_append_121 ?_
                rw [hQf]
                exact j_ireti hx hb hr hlocks hG h (by decide) dX11_append_124
              · have h := h.2 c14
                refine lv_iload_n hx hb dX11_append_82 rfl (lv_at hl 1 rfl) ?_
                refine lv_iload_n hx hb dX11_append_83 rfl (lv_at hl 2 rfl) ?_
                obtain ⟨g16, h⟩ := h
                refine j_iushr hx hb x10.toNat (by omega) dX11_append_84 (by omega) ?_
                refine lv_sipush (v := J 255) hx hb dX11_append_85 (by decide) ?_
                refine j_iand hx hb 8 (by decide) dX11_append_88 (by decide) ?_
                refine j_topi (fun x17 ex17 => ?_)
                have h := h x17 ex17
                refine lv_istore (lv' := [(4, .int (J x17)), (0, .ref (rA o a0)), (1, .int (J a1)), (3, .int (J x10))]) hx hb dX11_append_89 hl (by decide) rfl (fun ls hl => ?_)
                refine lv_iload hx hb dX11_append_91 (lv_at hl 0 rfl) ?_
                obtain ⟨K24, hK24, h⟩ := h
                have jK24 : ∀ (M23 : jT), K24 M23 → ∀ (H : Heap) (locs : List Loc), GM D cy o M23 s.heap H locs → ∀ ls : Array Slot, lv_has ls 5 [(0, .ref (rA o a0)), (1, .int (J a1)), (3, .int (J x10))] → W p l e rm_X11_append s m args below meth c H locs 0 0 Qf (F0 m 114 ls []) := by
                  intro M23 hcK24 H locs hG ls hl
                  have h := hK24 M23 hcK24
                  refine j_iinc hx hb dX11_append_114 hl (k := 2) rfl (by decide) (fun x25 ex25 ls hl => ?_)
                  have h := h x25 ex25
                  have hl : lv_has ls 5 [(3, .int (J x25)), (0, .ref (rA o a0)), (1, .int (J a1))] := hl
                  refine lv_goto (tgt := 78) hx hb dX11_append_117 (by decide) ?_
                  obtain ⟨n26, ln26, iI12⟩ := h
                  exact rI12 n26 ln26 x25 M23 iI12 H locs hG ls (lv_sub hl [1, 2, 0] rfl)
                obtain ⟨g28, h⟩ := h
                refine j_if_le (tgt := 114) hx hb dX11_append_93 (by decide) g28 (fun c27 => ?_) (fun c27 => ?_)
                · have h := h.1 c27
                  exact jK24 M11 h H locs hG ls (lv_sub hl [1, 2, 3] rfl)
                · have h := h.2 c27
                  refine lv_aload_n hx hb dX11_append_96 rfl (lv_at hl 1 rfl) ?_
                  refine j_getr hx hb hts hown hK hG (k := a0) (fun w h => List.mem_cons_of_mem _ (u_X11 w h)) (ci := 10) rfl ka0 7 (k2 := a0 + 5) (by decide) (by show a0 + (5 : Int) = a0 + 5; omega) w_fl_RX11_22 dX11_append_97 ?_
                  refine lv_aload_n hx hb dX11_append_100 rfl (lv_at hl 1 rfl) ?_
                  refine lv_dup hx hb dX11_append_101 rfl ?_
                  refine j_geti hx hb hts hown hK hG (k := a0) (fun w h => List.mem_cons_of_mem _ (u_X11 w h)) (ci := 10) rfl ka0 8 (by decide) (jz := 8) rfl w_fl_RX11_283 dX11_append_102 ?_
                  refine lv_dup_x1 hx hb dX11_append_105 rfl rfl ?_
                  refine lv_iconst (v := J 1) hx hb dX11_append_106 (by decide) ?_
                  refine j_iadd hx hb dX11_append_107 ?_
                  refine j_puti hx hb hts hown hK hG (k := a0) (fun w h => List.mem_cons_of_mem _ (u_X11 w h)) tyX11 tyX11_ok nmX11 (ci := 10) rfl ka0 8 (by decide) (jz := 8) rfl w_fl_RX11_283 (hd := rfl) (hn := rfl) (hfit := rfl) (hdg := dX11_append_108) (fun M29 eM29 H locs hG => ?_)
                  have h := h M29 eM29
                  refine lv_iload hx hb dX11_append_111 (lv_at hl 0 rfl) ?_
                  obtain ⟨g30, h⟩ := h
                  refine j_iast hx hb hK hG (n := 60) (kf_11_7 ka0) (by decide) g30 dX11_append_113 (fun M31 eM31 H locs hG => ?_)
                  have h := h M31 eM31
                  exact jK24 M31 h H locs hG ls (lv_sub hl [1, 2, 3] rfl)
          exact lI12 n13s 24 M1 iI12 H locs hG ls (lv_sub hl [1, 2, 0] rfl)
        · have h := h.2 c8
          refine lv_aload_n hx hb dX11_append_69 rfl (lv_at hl 0 rfl) ?_
          refine lv_iconst (v := J 2) hx hb dX11_append_70 (by decide) ?_
          refine j_conti (va_runV (As := [.int (J 2)]) (rest := []) ⟨hx, hb, hml, hown, hts⟩ (A_X11_raises l ka0 h) (cwV 1 hts (gj_V ml_RX11_110 i_X11_raises s_X11_raises n_RX11 k_X11_raises) rfl rfl rfl (by decide +kernel) ⟨by exact Nat.le_of_ble_eq_true rfl, by exact Nat.le_of_ble_eq_true rfl⟩) (j_preV hK hSX hG (ci := 10) rfl ka0 (by decide)) rfl rfl hl.1 rfl (lv_room (Nat.le_of_ble_eq_true rfl)) dX11_append_71 ⟨by exact Nat.le_of_ble_eq_true rfl, by exact Nat.le_of_ble_eq_true rfl⟩) hG (c2 := 0) (s2 := 0) ⟨by exact Nat.le_of_ble_eq_true rfl, by exact Nat.le_of_ble_eq_true rfl⟩ (fun z32 M33 h H locs hG => ?_)
          rw [hQf]
          exact j_ireti hx hb hr hlocks hG h (by decide) dX11_append_74
      · have h := h.2 c6
        refine lv_iload_n hx hb dX11_append_14 rfl (lv_at hl 1 rfl) ?_
        refine lv_iload_n hx hb dX11_append_15 rfl (lv_at hl 3 rfl) ?_
        obtain ⟨g34, h⟩ := h
        refine j_iushr hx hb x3.toNat (by omega) dX11_append_16 (by omega) ?_
        refine lv_sipush (v := J 255) hx hb dX11_append_17 (by decide) ?_
        refine j_iand hx hb 8 (by decide) dX11_append_20 (by decide) ?_
        refine j_topi (fun x35 ex35 => ?_)
        have h := h x35 ex35
        refine lv_istore (lv' := [(4, .int (J x35)), (0, .ref (rA o a0)), (1, .int (J a1)), (2, .int (J x2)), (3, .int (J x3))]) hx hb dX11_append_21 hl (by decide) rfl (fun ls hl => ?_)
        refine lv_iload hx hb dX11_append_23 (lv_at hl 0 rfl) ?_
        obtain ⟨K46, hK46, h⟩ := h
        have jK46 : ∀ (x45 : Int), K46 x45 → ∀ (H : Heap) (locs : List Loc), GM D cy o M1 s.heap H locs → ∀ ls : Array Slot, lv_has ls 5 [(0, .ref (rA o a0)), (1, .int (J a1)), (2, .int (J x45)), (3, .int (J x3))] → W p l e rm_X11_append s m args below meth c H locs 0 0 Qf (F0 m 52 ls []) := by
          intro x45 hcK46 H locs hG ls hl
          have h := hK46 x45 hcK46
          refine j_iinc hx hb dX11_append_52 hl (k := 3) rfl (by decide) (fun x47 ex47 ls hl => ?_)
          have h := h x47 ex47
          have hl : lv_has ls 5 [(3, .int (J x47)), (0, .ref (rA o a0)), (1, .int (J a1)), (2, .int (J x45))] := hl
          refine lv_goto (tgt := 10) hx hb dX11_append_55 (by decide) ?_
          obtain ⟨n48, ln48, iI4⟩ := h
          exact rI4 n48 ln48 x45 x47 iI4 H locs hG ls (lv_sub hl [1, 2, 3, 0] rfl)
        obtain ⟨g50, h⟩ := h
        refine j_if_ne (tgt := 31) hx hb dX11_append_25 (by decide) g50 (fun c49 => ?_) (fun c49 => ?_)
        · have h := h.1 c49
          refine lv_iload hx hb dX11_append_31 (lv_at hl 0 rfl) ?_
          refine lv_bipush (v := J 33) hx hb dX11_append_33 (by decide) ?_
          refine lv_bipush (v := J 126) hx hb dX11_append_35 (by decide) ?_
          obtain ⟨g51, h⟩ := h
          refine j_conti (va_runS (As := [.int (J x35), .int (J 33), .int (J 126)]) (rest := []) ⟨hx, hb, hml, hown, hts⟩ (A_X11_in l g51) (va_cwS 3 hts (gj_S ml_RX11_106 i_X11_in n_RX11 k_X11_in) rfl rfl rfl (by decide +kernel) ⟨by exact Nat.le_of_ble_eq_true rfl, by exact Nat.le_of_ble_eq_true rfl⟩) (j_preS hK hSX hG) rfl rfl hl.1 rfl (lv_room (Nat.le_of_ble_eq_true rfl)) dX11_append_37 ⟨by exact Nat.le_of_ble_eq_true rfl, by exact Nat.le_of_ble_eq_true rfl⟩) hG (c2 := 0) (s2 := 0) ⟨by exact Nat.le_of_ble_eq_true rfl, by exact Nat.le_of_ble_eq_true rfl⟩ (fun z52 M53 ez52 H locs hG => ?_)
          obtain ⟨ez52, eM53⟩ := ez52
          subst ez52
          rw [eM53] at hG
          refine j_if_ne_b (tgt := 49) hx hb dX11_append_40 (by decide) (fun c54 => ?_) (fun c54 => ?_)
          · have h := h.1 c54
            refine j_iinc hx hb dX11_append_49 hl (k := 3) rfl (by decide) (fun x55 ex55 ls hl => ?_)
            have h := h x55 ex55
            have hl : lv_has ls 5 [(2, .int (J x55)), (4, .int (J x35)), (0, .ref (rA o a0)), (1, .int (J a1)), (3, .int (J x3))] := hl
            exact jK46 x55 h H locs hG ls (lv_sub hl [2, 3, 0, 4] rfl)
          · have h := h.2 c54
            refine lv_aload_n hx hb dX11_append_43 rfl (lv_at hl 1 rfl) ?_
            refine lv_iconst (v := J 1) hx hb dX11_append_44 (by decide) ?_
            refine j_conti (va_runV (As := [.int (J 1)]) (rest := []) ⟨hx, hb, hml, hown, hts⟩ (A_X11_raises l ka0 h) (cwV 1 hts (gj_V ml_RX11_110 i_X11_raises s_X11_raises n_RX11 k_X11_raises) rfl rfl rfl (by decide +kernel) ⟨by exact Nat.le_of_ble_eq_true rfl, by exact Nat.le_of_ble_eq_true rfl⟩) (j_preV hK hSX hG (ci := 10) rfl ka0 (by decide)) rfl rfl hl.1 rfl (lv_room (Nat.le_of_ble_eq_true rfl)) dX11_append_45 ⟨by exact Nat.le_of_ble_eq_true rfl, by exact Nat.le_of_ble_eq_true rfl⟩) hG (c2 := 0) (s2 := 0) ⟨by exact Nat.le_of_ble_eq_true rfl, by exact Nat.le_of_ble_eq_true rfl⟩ (fun z56 M57 h H locs hG => ?_)
            rw [hQf]
            exact j_ireti hx hb hr hlocks hG h (by decide) dX11_append_48
        · have h := h.2 c49
          refine lv_goto (tgt := 52) hx hb dX11_append_28 (by decide) ?_
          exact jK46 x2 h H locs hG ls (lv_sub hl [1, 2, 3, 4] rfl)
  exact lI4 n5s 0 24 iI4 H locs hG ls (lv_sub hl [2, 3, 1, 0] rfl)

abbrev rm_X11_here : Room := { frames := 0, cells := 0, slots := 0, locals := 0 }
set_option maxRecDepth 100000 in
set_option maxHeartbeats 4000000 in
theorem A_X11_here (l : Launch) {D : va_G} {cy : Nat → ClassId} {o : Nat} {sK sV : Nat → Nat} {M : jT} {a0 : Int} (ka0 : kd a0 = 11) (h : pg_X11_here M a0) : CoI l yX11_here (wj yX11_here cX11_here 1 (some .int)) rm_X11_here D cy o sK sV M [.ref (rA o a0)] (fun z M9 => z = pf_X11_here M a0 ∧ M9 = M) := by
  refine j_ofW (cc := cX11_here) (maxL := 1) (ret := (some .int)) (by decide) rfl (Nat.le_of_ble_eq_true rfl) ?_
  intro p e s m args below meth c hx hb hr hlocks hml hown hts hK hSX H locs hG ls hl Qf hQf
  have hown : s.vm.findClass RX11 = some m.cls := hown
  have hl : lv_has ls 1 [(0, .ref (rA o a0))] := hl
  have w_fl_RX11_286 := hts _ (List.mem_cons_of_mem _ fl_RX11_286)
  have w_fl_RX11_283 := hts _ (List.mem_cons_of_mem _ fl_RX11_283)
  have w_fl_RX11_22 := hts _ (List.mem_cons_of_mem _ fl_RX11_22)
  unfold pg_X11_here at h
  refine lv_aload_n hx hb dX11_here_0 rfl (lv_at hl 0 rfl) ?_
  refine j_geti hx hb hts hown hK hG (k := a0) (fun w h => List.mem_cons_of_mem _ (u_X11 w h)) (ci := 10) rfl ka0 9 (by decide) (jz := 9) rfl w_fl_RX11_286 dX11_here_1 ?_
  refine lv_aload_n hx hb dX11_here_4 rfl (lv_at hl 0 rfl) ?_
  refine j_geti hx hb hts hown hK hG (k := a0) (fun w h => List.mem_cons_of_mem _ (u_X11 w h)) (ci := 10) rfl ka0 8 (by decide) (jz := 8) rfl w_fl_RX11_283 dX11_here_5 ?_
  obtain ⟨g2, h⟩ := h
  obtain ⟨g3, h⟩ := h
  refine j_icmp_ge (tgt := 23) hx hb dX11_here_8 (by decide) g2 g3 (fun c1 => ?_) (fun c1 => ?_)
  · have h := h.1 c1
    refine lv_iconst (v := J 0) hx hb dX11_here_23 (by decide) ?_
    rw [hQf]
    exact j_ireti hx hb hr hlocks hG ⟨(by unfold pf_X11_here; rw [if_pos c1]), rfl⟩ (by decide) dX11_here_24
  · have h := h.2 c1
    refine lv_aload_n hx hb dX11_here_11 rfl (lv_at hl 0 rfl) ?_
    refine j_getr hx hb hts hown hK hG (k := a0) (fun w h => List.mem_cons_of_mem _ (u_X11 w h)) (ci := 10) rfl ka0 7 (k2 := a0 + 5) (by decide) (by show a0 + (5 : Int) = a0 + 5; omega) w_fl_RX11_22 dX11_here_12 ?_
    refine lv_aload_n hx hb dX11_here_15 rfl (lv_at hl 0 rfl) ?_
    refine j_geti hx hb hts hown hK hG (k := a0) (fun w h => List.mem_cons_of_mem _ (u_X11 w h)) (ci := 10) rfl ka0 9 (by decide) (jz := 9) rfl w_fl_RX11_286 dX11_here_16 ?_
    obtain ⟨g4, h⟩ := h
    refine j_iald hx hb hK hG (n := 60) (kf_11_7 ka0) (by decide) g4 dX11_here_19 ?_
    refine lv_goto (tgt := 24) hx hb dX11_here_20 (by decide) ?_
    rw [hQf]
    exact j_ireti hx hb hr hlocks hG ⟨(by unfold pf_X11_here; rw [if_neg (show ¬ (M a0 8 ≤ M a0 9) from by omega)]), rfl⟩ (by decide) dX11_here_24

abbrev rm_X11_takes : Room := { frames := 1, cells := 0, slots := 0, locals := 20 }
set_option maxRecDepth 100000 in
set_option maxHeartbeats 4000000 in
theorem A_X11_takes (l : Launch) {D : va_G} {cy : Nat → ClassId} {o : Nat} {sK sV : Nat → Nat} {M : jT} {a0 : Int} {a1 : Int} (ka0 : kd a0 = 11) {Q : Int → jT → Prop} (h : wp_X11_takes M a0 a1 Q) : CoI l yX11_takes (wj yX11_takes cX11_takes 2 (some .boolean)) rm_X11_takes D cy o sK sV M [.ref (rA o a0), .int (J a1)] Q := by
  refine j_ofW (cc := cX11_takes) (maxL := 2) (ret := (some .boolean)) (by decide) rfl (Nat.le_of_ble_eq_true rfl) ?_
  intro p e s m args below meth c hx hb hr hlocks hml hown hts hK hSX H locs hG ls hl Qf hQf
  have hown : s.vm.findClass RX11 = some m.cls := hown
  have hl : lv_has ls 2 [(0, .ref (rA o a0)), (1, .int (J a1))] := hl
  have w_fl_RX11_286 := hts _ (List.mem_cons_of_mem _ fl_RX11_286)
  unfold wp_X11_takes at h
  refine lv_aload_n hx hb dX11_takes_0 rfl (lv_at hl 0 rfl) ?_
  obtain ⟨g1, h⟩ := h
  refine j_conti (va_runV (As := []) (rest := []) ⟨hx, hb, hml, hown, hts⟩ (A_X11_here l ka0 g1) (cwV 0 hts (gj_V ml_RX11_289 i_X11_here s_X11_here n_RX11 k_X11_here) rfl rfl rfl (by decide +kernel) ⟨by exact Nat.le_of_ble_eq_true rfl, by exact Nat.le_of_ble_eq_true rfl⟩) (j_preV hK hSX hG (ci := 10) rfl ka0 (by decide)) rfl rfl hl.1 rfl (lv_room (Nat.le_of_ble_eq_true rfl)) dX11_takes_1 ⟨by exact Nat.le_of_ble_eq_true rfl, by exact Nat.le_of_ble_eq_true rfl⟩) hG (c2 := 0) (s2 := 0) ⟨by exact Nat.le_of_ble_eq_true rfl, by exact Nat.le_of_ble_eq_true rfl⟩ (fun z2 M3 ez2 H locs hG => ?_)
  obtain ⟨ez2, eM3⟩ := ez2
  subst ez2
  rw [eM3] at hG
  refine lv_iload_n hx hb dX11_takes_4 rfl (lv_at hl 1 rfl) ?_
  obtain ⟨g5, h⟩ := h
  obtain ⟨g6, h⟩ := h
  refine j_icmp_eq (tgt := 10) hx hb dX11_takes_5 (by decide) g5 g6 (fun c4 => ?_) (fun c4 => ?_)
  · have h := h.1 c4
    refine lv_aload_n hx hb dX11_takes_10 rfl (lv_at hl 0 rfl) ?_
    refine lv_dup hx hb dX11_takes_11 rfl ?_
    refine j_geti hx hb hts hown hK hG (k := a0) (fun w h => List.mem_cons_of_mem _ (u_X11 w h)) (ci := 10) rfl ka0 9 (by decide) (jz := 9) rfl w_fl_RX11_286 dX11_takes_12 ?_
    refine lv_iconst (v := J 1) hx hb dX11_takes_15 (by decide) ?_
    refine j_iadd hx hb dX11_takes_16 ?_
    refine j_puti hx hb hts hown hK hG (k := a0) (fun w h => List.mem_cons_of_mem _ (u_X11 w h)) tyX11 tyX11_ok nmX11 (ci := 10) rfl ka0 9 (by decide) (jz := 9) rfl w_fl_RX11_286 (hd := rfl) (hn := rfl) (hfit := rfl) (hdg := dX11_takes_17) (fun M7 eM7 H locs hG => ?_)
    have h := h M7 eM7
    refine lv_iconst (v := J 1) hx hb dX11_takes_20 (by decide) ?_
    rw [hQf]
    exact j_iretn hx hb hr hlocks (nar_b (by decide)) hG h (by decide) dX11_takes_21
  · have h := h.2 c4
    refine lv_iconst (v := J 0) hx hb dX11_takes_8 (by decide) ?_
    rw [hQf]
    exact j_iretn hx hb hr hlocks (nar_b (by decide)) hG h (by decide) dX11_takes_9

abbrev rm_X11_isDigit : Room := { frames := 1, cells := 0, slots := 0, locals := 22 }
set_option maxRecDepth 100000 in
set_option maxHeartbeats 4000000 in
theorem A_X11_isDigit (l : Launch) {D : va_G} {cy : Nat → ClassId} {o : Nat} {sK sV : Nat → Nat} {M : jT} {a0 : Int} {a1 : Int} {a2 : Int} (ka0 : kd a0 = 11) (h : pg_X11_isDigit M a0 a1 a2) : CoI l yX11_isDigit (wj yX11_isDigit cX11_isDigit 3 (some .boolean)) rm_X11_isDigit D cy o sK sV M [.ref (rA o a0), .int (J a1), .int (J a2)] (fun z M9 => z = b2i (pb_X11_isDigit M a0 a1 a2) ∧ M9 = M) := by
  refine j_ofW (cc := cX11_isDigit) (maxL := 3) (ret := (some .boolean)) (by decide) rfl (Nat.le_of_ble_eq_true rfl) ?_
  intro p e s m args below meth c hx hb hr hlocks hml hown hts hK hSX H locs hG ls hl Qf hQf
  have hown : s.vm.findClass RX11 = some m.cls := hown
  have hl : lv_has ls 3 [(0, .ref (rA o a0)), (1, .int (J a1)), (2, .int (J a2))] := hl
  unfold pg_X11_isDigit at h
  refine lv_aload_n hx hb dX11_isDigit_0 rfl (lv_at hl 0 rfl) ?_
  obtain ⟨g1, h⟩ := h
  refine j_conti (va_runV (As := []) (rest := []) ⟨hx, hb, hml, hown, hts⟩ (A_X11_here l ka0 g1) (cwV 0 hts (gj_V ml_RX11_289 i_X11_here s_X11_here n_RX11 k_X11_here) rfl rfl rfl (by decide +kernel) ⟨by exact Nat.le_of_ble_eq_true rfl, by exact Nat.le_of_ble_eq_true rfl⟩) (j_preV hK hSX hG (ci := 10) rfl ka0 (by decide)) rfl rfl hl.1 rfl (lv_room (Nat.le_of_ble_eq_true rfl)) dX11_isDigit_1 ⟨by exact Nat.le_of_ble_eq_true rfl, by exact Nat.le_of_ble_eq_true rfl⟩) hG (c2 := 0) (s2 := 0) ⟨by exact Nat.le_of_ble_eq_true rfl, by exact Nat.le_of_ble_eq_true rfl⟩ (fun z2 M3 ez2 H locs hG => ?_)
  obtain ⟨ez2, eM3⟩ := ez2
  subst ez2
  rw [eM3] at hG
  refine lv_bipush (v := J 48) hx hb dX11_isDigit_4 (by decide) ?_
  refine lv_iload_n hx hb dX11_isDigit_6 rfl (lv_at hl 1 rfl) ?_
  refine j_iadd hx hb dX11_isDigit_7 ?_
  refine lv_bipush (v := J 48) hx hb dX11_isDigit_8 (by decide) ?_
  refine lv_iload_n hx hb dX11_isDigit_10 rfl (lv_at hl 2 rfl) ?_
  refine j_iadd hx hb dX11_isDigit_11 ?_
  obtain ⟨g4, h⟩ := h
  refine j_conti (va_runS (As := [.int (J (pf_X11_here M a0)), .int (J (48 + a1)), .int (J (48 + a2))]) (rest := []) ⟨hx, hb, hml, hown, hts⟩ (A_X11_in l g4) (va_cwS 3 hts (gj_S ml_RX11_106 i_X11_in n_RX11 k_X11_in) rfl rfl rfl (by decide +kernel) ⟨by exact Nat.le_of_ble_eq_true rfl, by exact Nat.le_of_ble_eq_true rfl⟩) (j_preS hK hSX hG) rfl rfl hl.1 rfl (lv_room (Nat.le_of_ble_eq_true rfl)) dX11_isDigit_12 ⟨by exact Nat.le_of_ble_eq_true rfl, by exact Nat.le_of_ble_eq_true rfl⟩) hG (c2 := 0) (s2 := 0) ⟨by exact Nat.le_of_ble_eq_true rfl, by exact Nat.le_of_ble_eq_true rfl⟩ (fun z5 M6 ez5 H locs hG => ?_)
  obtain ⟨ez5, eM6⟩ := ez5
  subst ez5
  rw [eM6] at hG
  rw [hQf]
  exact j_iretn hx hb hr hlocks (nar_b (b2i_rng _)) hG ⟨(b2i_iff Iff.rfl), rfl⟩ (by decide) dX11_isDigit_15

abbrev rm_X11_number : Room := { frames := 2, cells := 0, slots := 0, locals := 44 }
set_option maxRecDepth 100000 in
set_option maxHeartbeats 4000000 in
theorem A_X11_number (l : Launch) {D : va_G} {cy : Nat → ClassId} {o : Nat} {sK sV : Nat → Nat} {M : jT} {a0 : Int} {a1 : Int} (ka0 : kd a0 = 11) {Q : Int → jT → Prop} (h : wp_X11_number M a0 a1 Q) : CoI l yX11_number (wj yX11_number cX11_number 4 (some .int)) rm_X11_number D cy o sK sV M [.ref (rA o a0), .int (J a1)] Q := by
  refine j_ofW (cc := cX11_number) (maxL := 4) (ret := (some .int)) (by decide) rfl (Nat.le_of_ble_eq_true rfl) ?_
  intro p e s m args below meth c hx hb hr hlocks hml hown hts hK hSX H locs hG ls hl Qf hQf
  have hown : s.vm.findClass RX11 = some m.cls := hown
  have hl : lv_has ls 4 [(0, .ref (rA o a0)), (1, .int (J a1))] := hl
  have w_fl_RX11_22 := hts _ (List.mem_cons_of_mem _ fl_RX11_22)
  have w_fl_RX11_286 := hts _ (List.mem_cons_of_mem _ fl_RX11_286)
  unfold wp_X11_number at h
  refine lv_aload_n hx hb dX11_number_0 rfl (lv_at hl 0 rfl) ?_
  refine lv_iconst (v := J 0) hx hb dX11_number_1 (by decide) ?_
  refine lv_bipush (v := J 9) hx hb dX11_number_2 (by decide) ?_
  obtain ⟨g1, h⟩ := h
  refine j_conti (va_runV (As := [.int (J 0), .int (J 9)]) (rest := []) ⟨hx, hb, hml, hown, hts⟩ (A_X11_isDigit l ka0 g1) (cwV 2 hts (gj_V ml_RX11_293 i_X11_isDigit s_X11_isDigit n_RX11 k_X11_isDigit) rfl rfl rfl (by decide +kernel) ⟨by exact Nat.le_of_ble_eq_true rfl, by exact Nat.le_of_ble_eq_true rfl⟩) (j_preV hK hSX hG (ci := 10) rfl ka0 (by decide)) rfl rfl hl.1 rfl (lv_room (Nat.le_of_ble_eq_true rfl)) dX11_number_4 ⟨by exact Nat.le_of_ble_eq_true rfl, by exact Nat.le_of_ble_eq_true rfl⟩) hG (c2 := 0) (s2 := 0) ⟨by exact Nat.le_of_ble_eq_true rfl, by exact Nat.le_of_ble_eq_true rfl⟩ (fun z2 M3 ez2 H locs hG => ?_)
  obtain ⟨ez2, eM3⟩ := ez2
  subst ez2
  rw [eM3] at hG
  refine j_if_ne_b (tgt := 12) hx hb dX11_number_7 (by decide) (fun c4 => ?_) (fun c4 => ?_)
  · have h := h.1 c4
    refine lv_aload_n hx hb dX11_number_12 rfl (lv_at hl 0 rfl) ?_
    refine j_getr hx hb hts hown hK hG (k := a0) (fun w h => List.mem_cons_of_mem _ (u_X11 w h)) (ci := 10) rfl ka0 7 (k2 := a0 + 5) (by decide) (by show a0 + (5 : Int) = a0 + 5; omega) w_fl_RX11_22 dX11_number_13 ?_
    refine lv_aload_n hx hb dX11_number_16 rfl (lv_at hl 0 rfl) ?_
    refine lv_dup hx hb dX11_number_17 rfl ?_
    refine j_geti hx hb hts hown hK hG (k := a0) (fun w h => List.mem_cons_of_mem _ (u_X11 w h)) (ci := 10) rfl ka0 9 (by decide) (jz := 9) rfl w_fl_RX11_286 dX11_number_18 ?_
    refine lv_dup_x1 hx hb dX11_number_21 rfl rfl ?_
    refine lv_iconst (v := J 1) hx hb dX11_number_22 (by decide) ?_
    refine j_iadd hx hb dX11_number_23 ?_
    refine j_puti hx hb hts hown hK hG (k := a0) (fun w h => List.mem_cons_of_mem _ (u_X11 w h)) tyX11 tyX11_ok nmX11 (ci := 10) rfl ka0 9 (by decide) (jz := 9) rfl w_fl_RX11_286 (hd := rfl) (hn := rfl) (hfit := rfl) (hdg := dX11_number_24) (fun M5 eM5 H locs hG => ?_)
    have h := h M5 eM5
    obtain ⟨g6, h⟩ := h
    refine j_iald hx hb hK hG (n := 60) (kf_11_7 ka0) (by decide) g6 dX11_number_27 ?_
    refine lv_bipush (v := J 48) hx hb dX11_number_28 (by decide) ?_
    refine j_isub hx hb dX11_number_30 ?_
    refine j_topi (fun x7 ex7 => ?_)
    have h := h x7 ex7
    refine lv_istore_n (lv' := [(2, .int (J x7)), (0, .ref (rA o a0)), (1, .int (J a1))]) hx hb dX11_number_31 rfl hl (by decide) rfl (fun ls hl => ?_)
    refine lv_iconst (v := J 1) hx hb dX11_number_32 (by decide) ?_
    refine lv_istore_n (lv' := [(3, .int (J 1)), (2, .int (J x7)), (0, .ref (rA o a0)), (1, .int (J a1))]) hx hb dX11_number_33 rfl hl (by decide) rfl (fun ls hl => ?_)
    obtain ⟨I11, ⟨n12s, iI11⟩, qI11⟩ := h
    have lI11 : ∀ (n12 : Nat) (x8 : Int) (x9 : Int) (M10 : jT), I11 n12 x8 x9 M10 → ∀ (H : Heap) (locs : List Loc), GM D cy o M10 s.heap H locs → ∀ ls : Array Slot, lv_has ls 4 [(0, .ref (rA o a0)), (1, .int (J a1)), (2, .int (J x8)), (3, .int (J x9))] → W p l e rm_X11_number s m args below meth c H locs 0 0 Qf (F0 m 34 ls []) := by
      intro n12
      induction n12 using Nat.strongRecOn with
      | ind n12 rI11 =>
        intro x8 x9 M10 iI11 H locs hG ls hl
        have h := qI11 n12 x8 x9 M10 iI11
        refine lv_iload_n hx hb dX11_number_34 rfl (lv_at hl 3 rfl) ?_
        refine lv_iload_n hx hb dX11_number_35 rfl (lv_at hl 1 rfl) ?_
        obtain ⟨K27, hK27, h⟩ := h
        have jK27 : K27 → ∀ (H : Heap) (locs : List Loc), GM D cy o M10 s.heap H locs → ∀ ls : Array Slot, lv_has ls 4 [(2, .int (J x8))] → W p l e rm_X11_number s m args below meth c H locs 0 0 Qf (F0 m 84 ls []) := by
          intro hcK27 H locs hG ls hl
          have h := hK27 hcK27
          refine lv_iload_n hx hb dX11_number_84 rfl (lv_at hl 0 rfl) ?_
          rw [hQf]
          exact j_ireti hx hb hr hlocks hG h (by decide) dX11_number_85
        obtain ⟨g29, h⟩ := h
        obtain ⟨g30, h⟩ := h
        refine j_icmp_ge (tgt := 84) hx hb dX11_number_36 (by decide) g29 g30 (fun c28 => ?_) (fun c28 => ?_)
        · have h := h.1 c28
          exact jK27 h H locs hG ls (lv_sub hl [2] rfl)
        · have h := h.2 c28
          refine lv_iload_n hx hb dX11_number_39 rfl (lv_at hl 2 rfl) ?_
          obtain ⟨g32, h⟩ := h
          refine j_if_le (tgt := 84) hx hb dX11_number_40 (by decide) g32 (fun c31 => ?_) (fun c31 => ?_)
          · have h := h.1 c31
            exact jK27 h H locs hG ls (lv_sub hl [2] rfl)
          · have h := h.2 c31
            refine lv_aload_n hx hb dX11_number_43 rfl (lv_at hl 0 rfl) ?_
            refine lv_iconst (v := J 0) hx hb dX11_number_44 (by decide) ?_
            refine lv_bipush (v := J 9) hx hb dX11_number_45 (by decide) ?_
            obtain ⟨g33, h⟩ := h
            refine j_conti (va_runV (As := [.int (J 0), .int (J 9)]) (rest := []) ⟨hx, hb, hml, hown, hts⟩ (A_X11_isDigit l ka0 g33) (cwV 2 hts (gj_V ml_RX11_293 i_X11_isDigit s_X11_isDigit n_RX11 k_X11_isDigit) rfl rfl rfl (by decide +kernel) ⟨by exact Nat.le_of_ble_eq_true rfl, by exact Nat.le_of_ble_eq_true rfl⟩) (j_preV hK hSX hG (ci := 10) rfl ka0 (by decide)) rfl rfl hl.1 rfl (lv_room (Nat.le_of_ble_eq_true rfl)) dX11_number_47 ⟨by exact Nat.le_of_ble_eq_true rfl, by exact Nat.le_of_ble_eq_true rfl⟩) hG (c2 := 0) (s2 := 0) ⟨by exact Nat.le_of_ble_eq_true rfl, by exact Nat.le_of_ble_eq_true rfl⟩ (fun z34 M35 ez34 H locs hG => ?_)
            obtain ⟨ez34, eM35⟩ := ez34
            subst ez34
            rw [eM35] at hG
            refine j_if_eq_b (tgt := 84) hx hb dX11_number_50 (by decide) (fun c36 => ?_) (fun c36 => ?_)
            · have h := h.1 c36
              exact jK27 h H locs hG ls (lv_sub hl [2] rfl)
            · have h := h.2 c36
              refine lv_bipush (v := J 10) hx hb dX11_number_53 (by decide) ?_
              refine lv_iload_n hx hb dX11_number_55 rfl (lv_at hl 2 rfl) ?_
              refine j_imul hx hb dX11_number_56 ?_
              refine lv_aload_n hx hb dX11_number_57 rfl (lv_at hl 0 rfl) ?_
              refine j_getr hx hb hts hown hK hG (k := a0) (fun w h => List.mem_cons_of_mem _ (u_X11 w h)) (ci := 10) rfl ka0 7 (k2 := a0 + 5) (by decide) (by show a0 + (5 : Int) = a0 + 5; omega) w_fl_RX11_22 dX11_number_58 ?_
              refine lv_aload_n hx hb dX11_number_61 rfl (lv_at hl 0 rfl) ?_
              refine lv_dup hx hb dX11_number_62 rfl ?_
              refine j_geti hx hb hts hown hK hG (k := a0) (fun w h => List.mem_cons_of_mem _ (u_X11 w h)) (ci := 10) rfl ka0 9 (by decide) (jz := 9) rfl w_fl_RX11_286 dX11_number_63 ?_
              refine lv_dup_x1 hx hb dX11_number_66 rfl rfl ?_
              refine lv_iconst (v := J 1) hx hb dX11_number_67 (by decide) ?_
              refine j_iadd hx hb dX11_number_68 ?_
              refine j_puti hx hb hts hown hK hG (k := a0) (fun w h => List.mem_cons_of_mem _ (u_X11 w h)) tyX11 tyX11_ok nmX11 (ci := 10) rfl ka0 9 (by decide) (jz := 9) rfl w_fl_RX11_286 (hd := rfl) (hn := rfl) (hfit := rfl) (hdg := dX11_number_69) (fun M37 eM37 H locs hG => ?_)
              have h := h M37 eM37
              obtain ⟨g38, h⟩ := h
              refine j_iald hx hb hK hG (n := 60) (kf_11_7 ka0) (by decide) g38 dX11_number_72 ?_
              refine j_iadd hx hb dX11_number_73 ?_
              refine lv_bipush (v := J 48) hx hb dX11_number_74 (by decide) ?_
              refine j_isub hx hb dX11_number_76 ?_
              refine j_topi (fun x39 ex39 => ?_)
              have h := h x39 ex39
              refine lv_istore_n (lv' := [(2, .int (J x39)), (0, .ref (rA o a0)), (1, .int (J a1)), (3, .int (J x9))]) hx hb dX11_number_77 rfl hl (by decide) rfl (fun ls hl => ?_)
              refine j_iinc hx hb dX11_number_78 hl (k := 3) rfl (by decide) (fun x40 ex40 ls hl => ?_)
              have h := h x40 ex40
              have hl : lv_has ls 4 [(3, .int (J x40)), (2, .int (J x39)), (0, .ref (rA o a0)), (1, .int (J a1))] := hl
              refine lv_goto (tgt := 34) hx hb dX11_number_81 (by decide) ?_
              obtain ⟨n41, ln41, iI11⟩ := h
              exact rI11 n41 ln41 x39 x40 M37 iI11 H locs hG ls (lv_sub hl [2, 3, 1, 0] rfl)
    exact lI11 n12s x7 1 M5 iI11 H locs hG ls (lv_sub hl [2, 3, 1, 0] rfl)
  · have h := h.2 c4
    refine lv_iconst (v := J (-1)) hx hb dX11_number_10 (by decide) ?_
    rw [hQf]
    exact j_ireti hx hb hr hlocks hG h (by decide) dX11_number_11

abbrev rm_X11_date_ : Room := { frames := 3, cells := 0, slots := 0, locals := 67 }
set_option maxRecDepth 100000 in
set_option maxHeartbeats 4000000 in
theorem A_X11_date_ (l : Launch) {D : va_G} {cy : Nat → ClassId} {o : Nat} {sK sV : Nat → Nat} {M : jT} {a0 : Int} {a1 : Int} (ka0 : kd a0 = 11) {Q : Int → jT → Prop} (h : wp_X11_date_ M a0 a1 Q) : CoI l yX11_date_ (wj yX11_date_ cX11_date_ 5 (some .boolean)) rm_X11_date_ D cy o sK sV M [.ref (rA o a0), .int (J a1)] Q := by
  refine j_ofW (cc := cX11_date_) (maxL := 5) (ret := (some .boolean)) (by decide) rfl (Nat.le_of_ble_eq_true rfl) ?_
  intro p e s m args below meth c hx hb hr hlocks hml hown hts hK hSX H locs hG ls hl Qf hQf
  have hown : s.vm.findClass RX11 = some m.cls := hown
  have hl : lv_has ls 5 [(0, .ref (rA o a0)), (1, .int (J a1))] := hl
  have w_fl_RX11_286 := hts _ (List.mem_cons_of_mem _ fl_RX11_286)
  have w_fl_RX11_283 := hts _ (List.mem_cons_of_mem _ fl_RX11_283)
  have w_fl_RX11_22 := hts _ (List.mem_cons_of_mem _ fl_RX11_22)
  have w_fl_RX11_32 := hts _ (List.mem_cons_of_mem _ fl_RX11_32)
  unfold wp_X11_date_ at h
  refine lv_aload_n hx hb dX11_date__0 rfl (lv_at hl 0 rfl) ?_
  refine lv_bipush (v := J 108) hx hb dX11_date__1 (by decide) ?_
  refine j_conti (va_runV (As := [.int (J 108)]) (rest := []) ⟨hx, hb, hml, hown, hts⟩ (A_X11_takes l ka0 h) (cwV 1 hts (gj_V ml_RX11_304 i_X11_takes s_X11_takes n_RX11 k_X11_takes) rfl rfl rfl (by decide +kernel) ⟨by exact Nat.le_of_ble_eq_true rfl, by exact Nat.le_of_ble_eq_true rfl⟩) (j_preV hK hSX hG (ci := 10) rfl ka0 (by decide)) rfl rfl hl.1 rfl (lv_room (Nat.le_of_ble_eq_true rfl)) dX11_date__3 ⟨by exact Nat.le_of_ble_eq_true rfl, by exact Nat.le_of_ble_eq_true rfl⟩) hG (c2 := 0) (s2 := 0) ⟨by exact Nat.le_of_ble_eq_true rfl, by exact Nat.le_of_ble_eq_true rfl⟩ (fun z1 M2 h H locs hG => ?_)
  obtain ⟨g4, h⟩ := h
  refine j_if_eq (tgt := 52) hx hb dX11_date__6 (by decide) g4 (fun c3 => ?_) (fun c3 => ?_)
  · have h := h.1 c3
    refine lv_aload_n hx hb dX11_date__52 rfl (lv_at hl 0 rfl) ?_
    refine lv_iconst (v := J 0) hx hb dX11_date__53 (by decide) ?_
    refine lv_bipush (v := J 9) hx hb dX11_date__54 (by decide) ?_
    obtain ⟨g5, h⟩ := h
    refine j_conti (va_runV (As := [.int (J 0), .int (J 9)]) (rest := []) ⟨hx, hb, hml, hown, hts⟩ (A_X11_isDigit l ka0 g5) (cwV 2 hts (gj_V ml_RX11_293 i_X11_isDigit s_X11_isDigit n_RX11 k_X11_isDigit) rfl rfl rfl (by decide +kernel) ⟨by exact Nat.le_of_ble_eq_true rfl, by exact Nat.le_of_ble_eq_true rfl⟩) (j_preV hK hSX hG (ci := 10) rfl ka0 (by decide)) rfl rfl hl.1 rfl (lv_room (Nat.le_of_ble_eq_true rfl)) dX11_date__56 ⟨by exact Nat.le_of_ble_eq_true rfl, by exact Nat.le_of_ble_eq_true rfl⟩) hG (c2 := 0) (s2 := 0) ⟨by exact Nat.le_of_ble_eq_true rfl, by exact Nat.le_of_ble_eq_true rfl⟩ (fun z6 M7 ez6 H locs hG => ?_)
    obtain ⟨ez6, eM7⟩ := ez6
    subst ez6
    rw [eM7] at hG
    refine j_if_ne_b (tgt := 64) hx hb dX11_date__59 (by decide) (fun c8 => ?_) (fun c8 => ?_)
    · have h := h.1 c8
      refine lv_aload_n hx hb dX11_date__64 rfl (lv_at hl 0 rfl) ?_
      obtain ⟨g9, h⟩ := h
      refine j_conti (va_runV (As := []) (rest := []) ⟨hx, hb, hml, hown, hts⟩ (A_X11_here l ka0 g9) (cwV 0 hts (gj_V ml_RX11_289 i_X11_here s_X11_here n_RX11 k_X11_here) rfl rfl rfl (by decide +kernel) ⟨by exact Nat.le_of_ble_eq_true rfl, by exact Nat.le_of_ble_eq_true rfl⟩) (j_preV hK hSX hG (ci := 10) rfl ka0 (by decide)) rfl rfl hl.1 rfl (lv_room (Nat.le_of_ble_eq_true rfl)) dX11_date__65 ⟨by exact Nat.le_of_ble_eq_true rfl, by exact Nat.le_of_ble_eq_true rfl⟩) hG (c2 := 0) (s2 := 0) ⟨by exact Nat.le_of_ble_eq_true rfl, by exact Nat.le_of_ble_eq_true rfl⟩ (fun z10 M11 ez10 H locs hG => ?_)
      obtain ⟨ez10, eM11⟩ := ez10
      subst ez10
      rw [eM11] at hG
      refine lv_bipush (v := J 48) hx hb dX11_date__68 (by decide) ?_
      refine j_isub hx hb dX11_date__70 ?_
      refine j_topi (fun x12 ex12 => ?_)
      have h := h x12 ex12
      refine lv_istore_n (lv' := [(2, .int (J x12)), (0, .ref (rA o a0)), (1, .int (J a1))]) hx hb dX11_date__71 rfl hl (by decide) rfl (fun ls hl => ?_)
      refine lv_aload_n hx hb dX11_date__72 rfl (lv_at hl 1 rfl) ?_
      refine j_geti hx hb hts hown hK hG (k := a0) (fun w h => List.mem_cons_of_mem _ (u_X11 w h)) (ci := 10) rfl ka0 9 (by decide) (jz := 9) rfl w_fl_RX11_286 dX11_date__73 ?_
      refine lv_iconst (v := J 1) hx hb dX11_date__76 (by decide) ?_
      refine j_iadd hx hb dX11_date__77 ?_
      refine lv_aload_n hx hb dX11_date__78 rfl (lv_at hl 1 rfl) ?_
      refine j_geti hx hb hts hown hK hG (k := a0) (fun w h => List.mem_cons_of_mem _ (u_X11 w h)) (ci := 10) rfl ka0 8 (by decide) (jz := 8) rfl w_fl_RX11_283 dX11_date__79 ?_
      obtain ⟨hg, h⟩ := h
      have jK18 : ∀ x17 : Int, (M2 a0 8 ≤ (M2 a0 9) + 1 → x17 = 0) → ((M2 a0 9) + 1 < M2 a0 8 → x17 = M2 (a0 + 5) ((M2 a0 9) + 1)) → ∀ (H : Heap) (locs : List Loc), GM D cy o M2 s.heap H locs → ∀ ls : Array Slot, lv_has ls 5 [(0, .ref (rA o a0)), (1, .int (J a1)), (2, .int (J x12))] → W p l e rm_X11_date_ s m args below meth c H locs 0 0 Qf (F0 m 100 ls [.int (J x17)]) := by
        intro x17 qx17_0 qx17_1 H locs hG ls hl
        have h := h x17 qx17_0 qx17_1
        refine lv_istore_n (lv' := [(3, .int (J x17)), (0, .ref (rA o a0)), (1, .int (J a1)), (2, .int (J x12))]) hx hb dX11_date__100 rfl hl (by decide) rfl (fun ls hl => ?_)
        refine lv_iload_n hx hb dX11_date__101 rfl (lv_at hl 0 rfl) ?_
        refine lv_bipush (v := J 120) hx hb dX11_date__102 (by decide) ?_
        obtain ⟨K38, hK38, h⟩ := h
        have jK38 : K38 → ∀ (H : Heap) (locs : List Loc), GM D cy o M2 s.heap H locs → ∀ ls : Array Slot, lv_has ls 5 [(0, .ref (rA o a0)), (1, .int (J a1)), (2, .int (J x12)), (3, .int (J x17))] → W p l e rm_X11_date_ s m args below meth c H locs 0 0 Qf (F0 m 170 ls []) := by
          intro hcK38 H locs hG ls hl
          have h := hK38 hcK38
          refine lv_iload_n hx hb dX11_date__170 rfl (lv_at hl 3 rfl) ?_
          refine lv_bipush (v := J 62) hx hb dX11_date__171 (by decide) ?_
          obtain ⟨K62, hK62, h⟩ := h
          have jK62 : K62 → ∀ (H : Heap) (locs : List Loc), GM D cy o M2 s.heap H locs → ∀ ls : Array Slot, lv_has ls 5 [(0, .ref (rA o a0)), (1, .int (J a1))] → W p l e rm_X11_date_ s m args below meth c H locs 0 0 Qf (F0 m 241 ls []) := by
            intro hcK62 H locs hG ls hl
            have h := hK62 hcK62
            refine lv_aload_n hx hb dX11_date__241 rfl (lv_at hl 0 rfl) ?_
            refine lv_iconst (v := J 5) hx hb dX11_date__242 (by decide) ?_
            refine j_conti (va_runV (As := [.int (J 5)]) (rest := []) ⟨hx, hb, hml, hown, hts⟩ (A_X11_number l ka0 h) (cwV 1 hts (gj_V ml_RX11_307 i_X11_number s_X11_number n_RX11 k_X11_number) rfl rfl rfl (by decide +kernel) ⟨by exact Nat.le_of_ble_eq_true rfl, by exact Nat.le_of_ble_eq_true rfl⟩) (j_preV hK hSX hG (ci := 10) rfl ka0 (by decide)) rfl rfl hl.1 rfl (lv_room (Nat.le_of_ble_eq_true rfl)) dX11_date__243 ⟨by exact Nat.le_of_ble_eq_true rfl, by exact Nat.le_of_ble_eq_true rfl⟩) hG (c2 := 0) (s2 := 0) ⟨by exact Nat.le_of_ble_eq_true rfl, by exact Nat.le_of_ble_eq_true rfl⟩ (fun z63 M64 h H locs hG => ?_)
            refine lv_istore (lv' := [(4, .int (J z63)), (0, .ref (rA o a0)), (1, .int (J a1))]) hx hb dX11_date__246 hl (by decide) rfl (fun ls hl => ?_)
            refine lv_aload_n hx hb dX11_date__248 rfl (lv_at hl 1 rfl) ?_
            refine j_getr hx hb hts hown hK hG (k := a0) (fun w h => List.mem_cons_of_mem _ (u_X11 w h)) (ci := 10) rfl ka0 13 (k2 := a0 + 7) (by decide) (by show a0 + (7 : Int) = a0 + 7; omega) w_fl_RX11_32 dX11_date__249 ?_
            refine lv_iload_n hx hb dX11_date__252 rfl (lv_at hl 2 rfl) ?_
            refine lv_iload hx hb dX11_date__253 (lv_at hl 0 rfl) ?_
            refine lv_bipush (v := J 31) hx hb dX11_date__255 (by decide) ?_
            obtain ⟨hg, h⟩ := h
            have jK68 : ∀ x67 : Int, (z63 ≤ 31 → x67 = z63) → (31 < z63 → x67 = 0) → ∀ (H : Heap) (locs : List Loc), GM D cy o M64 s.heap H locs → ∀ ls : Array Slot, lv_has ls 5 [] → W p l e rm_X11_date_ s m args below meth c H locs 0 0 Qf (F0 m 266 ls [.int (J x67), .int (J a1), .ref (rA o (a0 + 7))]) := by
              intro x67 qx67_0 qx67_1 H locs hG ls hl
              have h := h x67 qx67_0 qx67_1
              obtain ⟨g71, h⟩ := h
              refine j_iast hx hb hK hG (n := 8) (kf_11_13 ka0) (by decide) g71 dX11_date__266 (fun M72 eM72 H locs hG => ?_)
              have h := h M72 eM72
              refine lv_iconst (v := J 1) hx hb dX11_date__267 (by decide) ?_
              rw [hQf]
              exact j_iretn hx hb hr hlocks (nar_b (by decide)) hG h (by decide) dX11_date__268
            have h := hg
            obtain ⟨g70, h⟩ := h
            refine j_icmp_le (tgt := 264) hx hb dX11_date__257 (by decide) g70 (by decide) (fun c69 => ?_) (fun c69 => ?_)
            · have h := h.1 c69
              refine lv_iload hx hb dX11_date__264 (lv_at hl 0 rfl) ?_
              exact jK68 z63 (fun _ => rfl) (fun q => absurd q (by omega)) H locs hG ls (lv_sub hl [] rfl)
            · have h := h.2 c69
              refine lv_iconst (v := J 0) hx hb dX11_date__260 (by decide) ?_
              refine lv_goto (tgt := 266) hx hb dX11_date__261 (by decide) ?_
              exact jK68 0 (fun q => absurd q (by omega)) (fun _ => rfl) H locs hG ls (lv_sub hl [] rfl)
          obtain ⟨g74, h⟩ := h
          refine j_icmp_ne (tgt := 241) hx hb dX11_date__173 (by decide) g74 (by decide) (fun c73 => ?_) (fun c73 => ?_)
          · have h := h.1 c73
            exact jK62 h H locs hG ls (lv_sub hl [0, 1] rfl)
          · have h := h.2 c73
            refine lv_iload_n hx hb dX11_date__176 rfl (lv_at hl 2 rfl) ?_
            refine lv_bipush (v := J 6) hx hb dX11_date__177 (by decide) ?_
            obtain ⟨g76, h⟩ := h
            refine j_icmp_gt (tgt := 241) hx hb dX11_date__179 (by decide) g76 (by decide) (fun c75 => ?_) (fun c75 => ?_)
            · have h := h.1 c75
              exact jK62 h H locs hG ls (lv_sub hl [0, 1] rfl)
            · have h := h.2 c75
              refine lv_aload_n hx hb dX11_date__182 rfl (lv_at hl 0 rfl) ?_
              refine lv_dup hx hb dX11_date__183 rfl ?_
              refine j_geti hx hb hts hown hK hG (k := a0) (fun w h => List.mem_cons_of_mem _ (u_X11 w h)) (ci := 10) rfl ka0 9 (by decide) (jz := 9) rfl w_fl_RX11_286 dX11_date__184 ?_
              refine lv_iconst (v := J 2) hx hb dX11_date__187 (by decide) ?_
              refine j_iadd hx hb dX11_date__188 ?_
              refine j_puti hx hb hts hown hK hG (k := a0) (fun w h => List.mem_cons_of_mem _ (u_X11 w h)) tyX11 tyX11_ok nmX11 (ci := 10) rfl ka0 9 (by decide) (jz := 9) rfl w_fl_RX11_286 (hd := rfl) (hn := rfl) (hfit := rfl) (hdg := dX11_date__189) (fun M77 eM77 H locs hG => ?_)
              have h := h M77 eM77
              refine lv_aload_n hx hb dX11_date__192 rfl (lv_at hl 0 rfl) ?_
              refine lv_iconst (v := J 2) hx hb dX11_date__193 (by decide) ?_
              refine j_conti (va_runV (As := [.int (J 2)]) (rest := []) ⟨hx, hb, hml, hown, hts⟩ (A_X11_number l ka0 h) (cwV 1 hts (gj_V ml_RX11_307 i_X11_number s_X11_number n_RX11 k_X11_number) rfl rfl rfl (by decide +kernel) ⟨by exact Nat.le_of_ble_eq_true rfl, by exact Nat.le_of_ble_eq_true rfl⟩) (j_preV hK hSX hG (ci := 10) rfl ka0 (by decide)) rfl rfl hl.1 rfl (lv_room (Nat.le_of_ble_eq_true rfl)) dX11_date__194 ⟨by exact Nat.le_of_ble_eq_true rfl, by exact Nat.le_of_ble_eq_true rfl⟩) hG (c2 := 0) (s2 := 0) ⟨by exact Nat.le_of_ble_eq_true rfl, by exact Nat.le_of_ble_eq_true rfl⟩ (fun z78 M79 h H locs hG => ?_)
              refine lv_istore (lv' := [(4, .int (J z78)), (0, .ref (rA o a0)), (1, .int (J a1)), (2, .int (J x12)), (3, .int (J x17))]) hx hb dX11_date__197 hl (by decide) rfl (fun ls hl => ?_)
              refine lv_iload hx hb dX11_date__199 (lv_at hl 0 rfl) ?_
              obtain ⟨g81, h⟩ := h
              refine j_if_ge (tgt := 206) hx hb dX11_date__201 (by decide) g81 (fun c80 => ?_) (fun c80 => ?_)
              · have h := h.1 c80
                refine lv_aload_n hx hb dX11_date__206 rfl (lv_at hl 1 rfl) ?_
                refine j_getr hx hb hts hown hK hG (k := a0) (fun w h => List.mem_cons_of_mem _ (u_X11 w h)) (ci := 10) rfl ka0 13 (k2 := a0 + 7) (by decide) (by show a0 + (7 : Int) = a0 + 7; omega) w_fl_RX11_32 dX11_date__207 ?_
                refine lv_iload_n hx hb dX11_date__210 rfl (lv_at hl 2 rfl) ?_
                refine lv_iload hx hb dX11_date__211 (lv_at hl 0 rfl) ?_
                obtain ⟨K88, hK88, h⟩ := h
                have jK88 : ∀ (x87 : Int), K88 x87 → ∀ (H : Heap) (locs : List Loc), GM D cy o M79 s.heap H locs → ∀ ls : Array Slot, lv_has ls 5 [] → W p l e rm_X11_date_ s m args below meth c H locs 0 0 Qf (F0 m 238 ls [.int (J x87), .int (J a1), .ref (rA o (a0 + 7))]) := by
                  intro x87 hcK88 H locs hG ls hl
                  have h := hK88 x87 hcK88
                  obtain ⟨g89, h⟩ := h
                  refine j_iast hx hb hK hG (n := 8) (kf_11_13 ka0) (by decide) g89 dX11_date__238 (fun M90 eM90 H locs hG => ?_)
                  have h := h M90 eM90
                  refine lv_iconst (v := J 1) hx hb dX11_date__239 (by decide) ?_
                  rw [hQf]
                  exact j_iretn hx hb hr hlocks (nar_b (by decide)) hG h (by decide) dX11_date__240
                obtain ⟨K93, hK93, h⟩ := h
                have jK93 : K93 → ∀ (H : Heap) (locs : List Loc), GM D cy o M79 s.heap H locs → ∀ ls : Array Slot, lv_has ls 5 [] → W p l e rm_X11_date_ s m args below meth c H locs 0 0 Qf (F0 m 223 ls [.int (J a1), .ref (rA o (a0 + 7))]) := by
                  intro hcK93 H locs hG ls hl
                  have h := hK93 hcK93
                  refine lv_iconst (v := J 0) hx hb dX11_date__223 (by decide) ?_
                  refine lv_goto (tgt := 238) hx hb dX11_date__224 (by decide) ?_
                  exact jK88 0 h H locs hG ls (lv_sub hl [] rfl)
                refine j_if_eq (tgt := 223) hx hb dX11_date__213 (by decide) g81 (fun c94 => ?_) (fun c94 => ?_)
                · have h := h.1 c94
                  exact jK93 h H locs hG ls (lv_sub hl [] rfl)
                · have h := h.2 c94
                  refine lv_iload hx hb dX11_date__216 (lv_at hl 0 rfl) ?_
                  refine lv_bipush (v := J 31) hx hb dX11_date__218 (by decide) ?_
                  refine j_icmp_le (tgt := 227) hx hb dX11_date__220 (by decide) g81 (by decide) (fun c95 => ?_) (fun c95 => ?_)
                  · have h := h.1 c95
                    refine lv_sipush (v := J 1000) hx hb dX11_date__227 (by decide) ?_
                    refine lv_bipush (v := J 10) hx hb dX11_date__230 (by decide) ?_
                    refine lv_iload hx hb dX11_date__232 (lv_at hl 0 rfl) ?_
                    refine j_imul hx hb dX11_date__234 ?_
                    refine j_iadd hx hb dX11_date__235 ?_
                    refine lv_iload_n hx hb dX11_date__236 rfl (lv_at hl 3 rfl) ?_
                    refine j_iadd hx hb dX11_date__237 ?_
                    exact jK88 ((1000 + (10 * z78)) + x12) h H locs hG ls (lv_sub hl [] rfl)
                  · have h := h.2 c95
                    exact jK93 h H locs hG ls (lv_sub hl [] rfl)
              · have h := h.2 c80
                refine lv_iconst (v := J 0) hx hb dX11_date__204 (by decide) ?_
                rw [hQf]
                exact j_iretn hx hb hr hlocks (nar_b (by decide)) hG h (by decide) dX11_date__205
        obtain ⟨g97, h⟩ := h
        refine j_icmp_ne (tgt := 170) hx hb dX11_date__104 (by decide) g97 (by decide) (fun c96 => ?_) (fun c96 => ?_)
        · have h := h.1 c96
          exact jK38 h H locs hG ls (lv_sub hl [1, 2, 3, 0] rfl)
        · have h := h.2 c96
          refine lv_iload_n hx hb dX11_date__107 rfl (lv_at hl 3 rfl) ?_
          refine lv_iconst (v := J 1) hx hb dX11_date__108 (by decide) ?_
          refine lv_iconst (v := J 4) hx hb dX11_date__109 (by decide) ?_
          obtain ⟨g98, h⟩ := h
          refine j_conti (va_runS (As := [.int (J x12), .int (J 1), .int (J 4)]) (rest := []) ⟨hx, hb, hml, hown, hts⟩ (A_X11_in l g98) (va_cwS 3 hts (gj_S ml_RX11_106 i_X11_in n_RX11 k_X11_in) rfl rfl rfl (by decide +kernel) ⟨by exact Nat.le_of_ble_eq_true rfl, by exact Nat.le_of_ble_eq_true rfl⟩) (j_preS hK hSX hG) rfl rfl hl.1 rfl (lv_room (Nat.le_of_ble_eq_true rfl)) dX11_date__110 ⟨by exact Nat.le_of_ble_eq_true rfl, by exact Nat.le_of_ble_eq_true rfl⟩) hG (c2 := 0) (s2 := 0) ⟨by exact Nat.le_of_ble_eq_true rfl, by exact Nat.le_of_ble_eq_true rfl⟩ (fun z99 M100 ez99 H locs hG => ?_)
          obtain ⟨ez99, eM100⟩ := ez99
          subst ez99
          rw [eM100] at hG
          refine j_if_eq_b (tgt := 170) hx hb dX11_date__113 (by decide) (fun c101 => ?_) (fun c101 => ?_)
          · have h := h.1 c101
            exact jK38 h H locs hG ls (lv_sub hl [1, 2, 3, 0] rfl)
          · have h := h.2 c101
            refine lv_aload_n hx hb dX11_date__116 rfl (lv_at hl 1 rfl) ?_
            refine lv_dup hx hb dX11_date__117 rfl ?_
            refine j_geti hx hb hts hown hK hG (k := a0) (fun w h => List.mem_cons_of_mem _ (u_X11 w h)) (ci := 10) rfl ka0 9 (by decide) (jz := 9) rfl w_fl_RX11_286 dX11_date__118 ?_
            refine lv_iconst (v := J 2) hx hb dX11_date__121 (by decide) ?_
            refine j_iadd hx hb dX11_date__122 ?_
            refine j_puti hx hb hts hown hK hG (k := a0) (fun w h => List.mem_cons_of_mem _ (u_X11 w h)) tyX11 tyX11_ok nmX11 (ci := 10) rfl ka0 9 (by decide) (jz := 9) rfl w_fl_RX11_286 (hd := rfl) (hn := rfl) (hfit := rfl) (hdg := dX11_date__123) (fun M102 eM102 H locs hG => ?_)
            have h := h M102 eM102
            refine lv_aload_n hx hb dX11_date__126 rfl (lv_at hl 1 rfl) ?_
            refine lv_iconst (v := J 0) hx hb dX11_date__127 (by decide) ?_
            refine lv_bipush (v := J 6) hx hb dX11_date__128 (by decide) ?_
            obtain ⟨g103, h⟩ := h
            refine j_conti (va_runV (As := [.int (J 0), .int (J 6)]) (rest := []) ⟨hx, hb, hml, hown, hts⟩ (A_X11_isDigit l ka0 g103) (cwV 2 hts (gj_V ml_RX11_293 i_X11_isDigit s_X11_isDigit n_RX11 k_X11_isDigit) rfl rfl rfl (by decide +kernel) ⟨by exact Nat.le_of_ble_eq_true rfl, by exact Nat.le_of_ble_eq_true rfl⟩) (j_preV hK hSX hG (ci := 10) rfl ka0 (by decide)) rfl rfl hl.1 rfl (lv_room (Nat.le_of_ble_eq_true rfl)) dX11_date__130 ⟨by exact Nat.le_of_ble_eq_true rfl, by exact Nat.le_of_ble_eq_true rfl⟩) hG (c2 := 0) (s2 := 0) ⟨by exact Nat.le_of_ble_eq_true rfl, by exact Nat.le_of_ble_eq_true rfl⟩ (fun z104 M105 ez104 H locs hG => ?_)
            obtain ⟨ez104, eM105⟩ := ez104
            subst ez104
            rw [eM105] at hG
            refine j_if_ne_b (tgt := 138) hx hb dX11_date__133 (by decide) (fun c106 => ?_) (fun c106 => ?_)
            · have h := h.1 c106
              refine lv_aload_n hx hb dX11_date__138 rfl (lv_at hl 1 rfl) ?_
              refine j_getr hx hb hts hown hK hG (k := a0) (fun w h => List.mem_cons_of_mem _ (u_X11 w h)) (ci := 10) rfl ka0 13 (k2 := a0 + 7) (by decide) (by show a0 + (7 : Int) = a0 + 7; omega) w_fl_RX11_32 dX11_date__139 ?_
              refine lv_iload_n hx hb dX11_date__142 rfl (lv_at hl 2 rfl) ?_
              refine lv_bipush (v := J 100) hx hb dX11_date__143 (by decide) ?_
              refine lv_iload_n hx hb dX11_date__145 rfl (lv_at hl 3 rfl) ?_
              refine j_imul hx hb dX11_date__146 ?_
              refine lv_aload_n hx hb dX11_date__147 rfl (lv_at hl 1 rfl) ?_
              refine j_getr hx hb hts hown hK hG (k := a0) (fun w h => List.mem_cons_of_mem _ (u_X11 w h)) (ci := 10) rfl ka0 7 (k2 := a0 + 5) (by decide) (by show a0 + (5 : Int) = a0 + 5; omega) w_fl_RX11_22 dX11_date__148 ?_
              refine lv_aload_n hx hb dX11_date__151 rfl (lv_at hl 1 rfl) ?_
              refine lv_dup hx hb dX11_date__152 rfl ?_
              refine j_geti hx hb hts hown hK hG (k := a0) (fun w h => List.mem_cons_of_mem _ (u_X11 w h)) (ci := 10) rfl ka0 9 (by decide) (jz := 9) rfl w_fl_RX11_286 dX11_date__153 ?_
              refine lv_dup_x1 hx hb dX11_date__156 rfl rfl ?_
              refine lv_iconst (v := J 1) hx hb dX11_date__157 (by decide) ?_
              refine j_iadd hx hb dX11_date__158 ?_
              refine j_puti hx hb hts hown hK hG (k := a0) (fun w h => List.mem_cons_of_mem _ (u_X11 w h)) tyX11 tyX11_ok nmX11 (ci := 10) rfl ka0 9 (by decide) (jz := 9) rfl w_fl_RX11_286 (hd := rfl) (hn := rfl) (hfit := rfl) (hdg := dX11_date__159) (fun M107 eM107 H locs hG => ?_)
              have h := h M107 eM107
              obtain ⟨g108, h⟩ := h
              refine j_iald hx hb hK hG (n := 60) (kf_11_7 ka0) (by decide) g108 dX11_date__162 ?_
              refine j_iadd hx hb dX11_date__163 ?_
              refine lv_bipush (v := J 48) hx hb dX11_date__164 (by decide) ?_
              refine j_isub hx hb dX11_date__166 ?_
              obtain ⟨g109, h⟩ := h
              refine j_iast hx hb hK hG (n := 8) (kf_11_13 ka0) (by decide) g109 dX11_date__167 (fun M110 eM110 H locs hG => ?_)
              have h := h M110 eM110
              refine lv_iconst (v := J 1) hx hb dX11_date__168 (by decide) ?_
              rw [hQf]
              exact j_iretn hx hb hr hlocks (nar_b (by decide)) hG h (by decide) dX11_date__169
            · have h := h.2 c106
              refine lv_iconst (v := J 0) hx hb dX11_date__136 (by decide) ?_
              rw [hQf]
              exact j_iretn hx hb hr hlocks (nar_b (by decide)) hG h (by decide) dX11_date__137
      have h := hg
      obtain ⟨g20, h⟩ := h
      obtain ⟨g21, h⟩ := h
      refine j_icmp_ge (tgt := 99) hx hb dX11_date__82 (by decide) g20 g21 (fun c19 => ?_) (fun c19 => ?_)
      · have h := h.1 c19
        refine lv_iconst (v := J 0) hx hb dX11_date__99 (by decide) ?_
        exact jK18 0 (fun _ => rfl) (fun q => absurd q (by omega)) H locs hG ls (lv_sub hl [1, 2, 0] rfl)
      · have h := h.2 c19
        refine lv_aload_n hx hb dX11_date__85 rfl (lv_at hl 1 rfl) ?_
        refine j_getr hx hb hts hown hK hG (k := a0) (fun w h => List.mem_cons_of_mem _ (u_X11 w h)) (ci := 10) rfl ka0 7 (k2 := a0 + 5) (by decide) (by show a0 + (5 : Int) = a0 + 5; omega) w_fl_RX11_22 dX11_date__86 ?_
        refine lv_aload_n hx hb dX11_date__89 rfl (lv_at hl 1 rfl) ?_
        refine j_geti hx hb hts hown hK hG (k := a0) (fun w h => List.mem_cons_of_mem _ (u_X11 w h)) (ci := 10) rfl ka0 9 (by decide) (jz := 9) rfl w_fl_RX11_286 dX11_date__90 ?_
        refine lv_iconst (v := J 1) hx hb dX11_date__93 (by decide) ?_
        refine j_iadd hx hb dX11_date__94 ?_
        obtain ⟨g22, h⟩ := h
        refine j_iald hx hb hK hG (n := 60) (kf_11_7 ka0) (by decide) g22 dX11_date__95 ?_
        refine lv_goto (tgt := 100) hx hb dX11_date__96 (by decide) ?_
        exact jK18 (M2 (a0 + 5) ((M2 a0 9) + 1)) (fun q => absurd q (by omega)) (fun _ => rfl) H locs hG ls (lv_sub hl [1, 2, 0] rfl)
    · have h := h.2 c8
      refine lv_iconst (v := J 0) hx hb dX11_date__62 (by decide) ?_
      rw [hQf]
      exact j_iretn hx hb hr hlocks (nar_b (by decide)) hG h (by decide) dX11_date__63
  · have h := h.2 c3
    refine lv_aload_n hx hb dX11_date__9 rfl (lv_at hl 0 rfl) ?_
    refine lv_iconst (v := J 0) hx hb dX11_date__10 (by decide) ?_
    refine lv_bipush (v := J 6) hx hb dX11_date__11 (by decide) ?_
    obtain ⟨g111, h⟩ := h
    refine j_conti (va_runV (As := [.int (J 0), .int (J 6)]) (rest := []) ⟨hx, hb, hml, hown, hts⟩ (A_X11_isDigit l ka0 g111) (cwV 2 hts (gj_V ml_RX11_293 i_X11_isDigit s_X11_isDigit n_RX11 k_X11_isDigit) rfl rfl rfl (by decide +kernel) ⟨by exact Nat.le_of_ble_eq_true rfl, by exact Nat.le_of_ble_eq_true rfl⟩) (j_preV hK hSX hG (ci := 10) rfl ka0 (by decide)) rfl rfl hl.1 rfl (lv_room (Nat.le_of_ble_eq_true rfl)) dX11_date__13 ⟨by exact Nat.le_of_ble_eq_true rfl, by exact Nat.le_of_ble_eq_true rfl⟩) hG (c2 := 0) (s2 := 0) ⟨by exact Nat.le_of_ble_eq_true rfl, by exact Nat.le_of_ble_eq_true rfl⟩ (fun z112 M113 ez112 H locs hG => ?_)
    obtain ⟨ez112, eM113⟩ := ez112
    subst ez112
    rw [eM113] at hG
    refine j_if_ne_b (tgt := 21) hx hb dX11_date__16 (by decide) (fun c114 => ?_) (fun c114 => ?_)
    · have h := h.1 c114
      refine lv_aload_n hx hb dX11_date__21 rfl (lv_at hl 0 rfl) ?_
      refine j_getr hx hb hts hown hK hG (k := a0) (fun w h => List.mem_cons_of_mem _ (u_X11 w h)) (ci := 10) rfl ka0 13 (k2 := a0 + 7) (by decide) (by show a0 + (7 : Int) = a0 + 7; omega) w_fl_RX11_32 dX11_date__22 ?_
      refine lv_iload_n hx hb dX11_date__25 rfl (lv_at hl 1 rfl) ?_
      refine lv_sipush (v := J 500) hx hb dX11_date__26 (by decide) ?_
      refine lv_aload_n hx hb dX11_date__29 rfl (lv_at hl 0 rfl) ?_
      refine j_getr hx hb hts hown hK hG (k := a0) (fun w h => List.mem_cons_of_mem _ (u_X11 w h)) (ci := 10) rfl ka0 7 (k2 := a0 + 5) (by decide) (by show a0 + (5 : Int) = a0 + 5; omega) w_fl_RX11_22 dX11_date__30 ?_
      refine lv_aload_n hx hb dX11_date__33 rfl (lv_at hl 0 rfl) ?_
      refine lv_dup hx hb dX11_date__34 rfl ?_
      refine j_geti hx hb hts hown hK hG (k := a0) (fun w h => List.mem_cons_of_mem _ (u_X11 w h)) (ci := 10) rfl ka0 9 (by decide) (jz := 9) rfl w_fl_RX11_286 dX11_date__35 ?_
      refine lv_dup_x1 hx hb dX11_date__38 rfl rfl ?_
      refine lv_iconst (v := J 1) hx hb dX11_date__39 (by decide) ?_
      refine j_iadd hx hb dX11_date__40 ?_
      refine j_puti hx hb hts hown hK hG (k := a0) (fun w h => List.mem_cons_of_mem _ (u_X11 w h)) tyX11 tyX11_ok nmX11 (ci := 10) rfl ka0 9 (by decide) (jz := 9) rfl w_fl_RX11_286 (hd := rfl) (hn := rfl) (hfit := rfl) (hdg := dX11_date__41) (fun M115 eM115 H locs hG => ?_)
      have h := h M115 eM115
      obtain ⟨g116, h⟩ := h
      refine j_iald hx hb hK hG (n := 60) (kf_11_7 ka0) (by decide) g116 dX11_date__44 ?_
      refine j_iadd hx hb dX11_date__45 ?_
      refine lv_bipush (v := J 48) hx hb dX11_date__46 (by decide) ?_
      refine j_isub hx hb dX11_date__48 ?_
      obtain ⟨g117, h⟩ := h
      refine j_iast hx hb hK hG (n := 8) (kf_11_13 ka0) (by decide) g117 dX11_date__49 (fun M118 eM118 H locs hG => ?_)
      have h := h M118 eM118
      refine lv_iconst (v := J 1) hx hb dX11_date__50 (by decide) ?_
      rw [hQf]
      exact j_iretn hx hb hr hlocks (nar_b (by decide)) hG h (by decide) dX11_date__51
    · have h := h.2 c114
      refine lv_iconst (v := J 0) hx hb dX11_date__19 (by decide) ?_
      rw [hQf]
      exact j_iretn hx hb hr hlocks (nar_b (by decide)) hG h (by decide) dX11_date__20

abbrev rm_X11_clock : Room := { frames := 1, cells := 0, slots := 0, locals := 20 }
set_option maxRecDepth 100000 in
set_option maxHeartbeats 4000000 in
theorem A_X11_clock (l : Launch) {D : va_G} {cy : Nat → ClassId} {o : Nat} {sK sV : Nat → Nat} {M : jT} {a0 : Int} {a1 : Int} (ka0 : kd a0 = 11) {Q : Int → jT → Prop} (h : wp_X11_clock M a0 a1 Q) : CoI l yX11_clock (wj yX11_clock cX11_clock 2 (some .boolean)) rm_X11_clock D cy o sK sV M [.ref (rA o a0), .int (J a1)] Q := by
  refine j_ofW (cc := cX11_clock) (maxL := 2) (ret := (some .boolean)) (by decide) rfl (Nat.le_of_ble_eq_true rfl) ?_
  intro p e s m args below meth c hx hb hr hlocks hml hown hts hK hSX H locs hG ls hl Qf hQf
  have hown : s.vm.findClass RX11 = some m.cls := hown
  have hl : lv_has ls 2 [(0, .ref (rA o a0)), (1, .int (J a1))] := hl
  have w_fl_RX11_32 := hts _ (List.mem_cons_of_mem _ fl_RX11_32)
  have w_fl_RX11_286 := hts _ (List.mem_cons_of_mem _ fl_RX11_286)
  unfold wp_X11_clock at h
  refine lv_aload_n hx hb dX11_clock_0 rfl (lv_at hl 0 rfl) ?_
  refine j_getr hx hb hts hown hK hG (k := a0) (fun w h => List.mem_cons_of_mem _ (u_X11 w h)) (ci := 10) rfl ka0 13 (k2 := a0 + 7) (by decide) (by show a0 + (7 : Int) = a0 + 7; omega) w_fl_RX11_32 dX11_clock_1 ?_
  refine lv_iload_n hx hb dX11_clock_4 rfl (lv_at hl 1 rfl) ?_
  refine lv_aload_n hx hb dX11_clock_5 rfl (lv_at hl 0 rfl) ?_
  obtain ⟨g1, h⟩ := h
  refine j_conti (va_runV (As := []) (rest := [.int (J a1), .ref (rA o (a0 + 7))]) ⟨hx, hb, hml, hown, hts⟩ (A_X11_here l ka0 g1) (cwV 0 hts (gj_V ml_RX11_289 i_X11_here s_X11_here n_RX11 k_X11_here) rfl rfl rfl (by decide +kernel) ⟨by exact Nat.le_of_ble_eq_true rfl, by exact Nat.le_of_ble_eq_true rfl⟩) (j_preV hK hSX hG (ci := 10) rfl ka0 (by decide)) rfl rfl hl.1 rfl (lv_room (Nat.le_of_ble_eq_true rfl)) dX11_clock_6 ⟨by exact Nat.le_of_ble_eq_true rfl, by exact Nat.le_of_ble_eq_true rfl⟩) hG (c2 := 0) (s2 := 0) ⟨by exact Nat.le_of_ble_eq_true rfl, by exact Nat.le_of_ble_eq_true rfl⟩ (fun z2 M3 ez2 H locs hG => ?_)
  obtain ⟨ez2, eM3⟩ := ez2
  subst ez2
  rw [eM3] at hG
  refine lv_bipush (v := J 119) hx hb dX11_clock_9 (by decide) ?_
  obtain ⟨hg, h⟩ := h
  have jK13 : ∀ x12 : Int, (pf_X11_here M a0 ≠ 119 ∧ pf_X11_here M a0 ≠ 98 ∧ pf_X11_here M a0 ≠ 105 → x12 = (-1)) → (pf_X11_here M a0 ≠ 119 ∧ pf_X11_here M a0 ≠ 98 ∧ pf_X11_here M a0 = 105 → x12 = 2) → (pf_X11_here M a0 ≠ 119 ∧ pf_X11_here M a0 = 98 → x12 = 1) → (pf_X11_here M a0 = 119 → x12 = 0) → ∀ (H : Heap) (locs : List Loc), GM D cy o M s.heap H locs → ∀ ls : Array Slot, lv_has ls 2 [(0, .ref (rA o a0)), (1, .int (J a1))] → W p l e rm_X11_clock s m args below meth c H locs 0 0 Qf (F0 m 45 ls [.int (J x12), .int (J a1), .ref (rA o (a0 + 7))]) := by
    intro x12 qx12_0 qx12_1 qx12_2 qx12_3 H locs hG ls hl
    have h := h x12 qx12_0 qx12_1 qx12_2 qx12_3
    obtain ⟨g22, h⟩ := h
    refine j_iast hx hb hK hG (n := 8) (kf_11_13 ka0) (by decide) g22 dX11_clock_45 (fun M23 eM23 H locs hG => ?_)
    have h := h M23 eM23
    refine lv_aload_n hx hb dX11_clock_46 rfl (lv_at hl 0 rfl) ?_
    refine j_getr hx hb hts hown hK hG (k := a0) (fun w h => List.mem_cons_of_mem _ (u_X11 w h)) (ci := 10) rfl ka0 13 (k2 := a0 + 7) (by decide) (by show a0 + (7 : Int) = a0 + 7; omega) w_fl_RX11_32 dX11_clock_47 ?_
    refine lv_iload_n hx hb dX11_clock_50 rfl (lv_at hl 1 rfl) ?_
    refine j_iald hx hb hK hG (n := 8) (kf_11_13 ka0) (by decide) g22 dX11_clock_51 ?_
    obtain ⟨K28, hK28, h⟩ := h
    have jK28 : ∀ (M27 : jT), K28 M27 → ∀ (H : Heap) (locs : List Loc), GM D cy o M27 s.heap H locs → ∀ ls : Array Slot, lv_has ls 2 [(0, .ref (rA o a0)), (1, .int (J a1))] → W p l e rm_X11_clock s m args below meth c H locs 0 0 Qf (F0 m 65 ls []) := by
      intro M27 hcK28 H locs hG ls hl
      have h := hK28 M27 hcK28
      refine lv_aload_n hx hb dX11_clock_65 rfl (lv_at hl 0 rfl) ?_
      refine j_getr hx hb hts hown hK hG (k := a0) (fun w h => List.mem_cons_of_mem _ (u_X11 w h)) (ci := 10) rfl ka0 13 (k2 := a0 + 7) (by decide) (by show a0 + (7 : Int) = a0 + 7; omega) w_fl_RX11_32 dX11_clock_66 ?_
      refine lv_iload_n hx hb dX11_clock_69 rfl (lv_at hl 1 rfl) ?_
      refine j_iald hx hb hK hG (n := 8) (kf_11_13 ka0) (by decide) g22 dX11_clock_70 ?_
      obtain ⟨hg, h⟩ := h
      have jK32 : ∀ x31 : Int, x31 = b2i (0 ≤ M27 (a0 + 7) a1) → ∀ (H : Heap) (locs : List Loc), GM D cy o M27 s.heap H locs → ∀ ls : Array Slot, lv_has ls 2 [] → W p l e rm_X11_clock s m args below meth c H locs 0 0 Qf (F0 m 79 ls [.int (J x31)]) := by
        intro x31 ex31 H locs hG ls hl
        subst ex31
        rw [hQf]
        exact j_iretn hx hb hr hlocks (nar_b (b2i_rng _)) hG h (by decide) dX11_clock_79
      have h := hg
      obtain ⟨g34, h⟩ := h
      refine j_if_lt (tgt := 78) hx hb dX11_clock_71 (by decide) g34 (fun c33 => ?_) (fun c33 => ?_)
      · have h := h.1 c33
        refine lv_iconst (v := J 0) hx hb dX11_clock_78 (by decide) ?_
        exact jK32 0 (b2i_iff0 (iff_of_false (show ¬ (0 ≤ M27 (a0 + 7) a1) from by omega) id)) H locs hG ls (lv_sub hl [] rfl)
      · have h := h.2 c33
        refine lv_iconst (v := J 1) hx hb dX11_clock_74 (by decide) ?_
        refine lv_goto (tgt := 79) hx hb dX11_clock_75 (by decide) ?_
        exact jK32 1 (b2i_iff1 (iff_of_true c33 trivial)) H locs hG ls (lv_sub hl [] rfl)
    obtain ⟨g36, h⟩ := h
    refine j_if_lt (tgt := 65) hx hb dX11_clock_52 (by decide) g36 (fun c35 => ?_) (fun c35 => ?_)
    · have h := h.1 c35
      exact jK28 M23 h H locs hG ls (lv_sub hl [0, 1] rfl)
    · have h := h.2 c35
      refine lv_aload_n hx hb dX11_clock_55 rfl (lv_at hl 0 rfl) ?_
      refine lv_dup hx hb dX11_clock_56 rfl ?_
      refine j_geti hx hb hts hown hK hG (k := a0) (fun w h => List.mem_cons_of_mem _ (u_X11 w h)) (ci := 10) rfl ka0 9 (by decide) (jz := 9) rfl w_fl_RX11_286 dX11_clock_57 ?_
      refine lv_iconst (v := J 1) hx hb dX11_clock_60 (by decide) ?_
      refine j_iadd hx hb dX11_clock_61 ?_
      refine j_puti hx hb hts hown hK hG (k := a0) (fun w h => List.mem_cons_of_mem _ (u_X11 w h)) tyX11 tyX11_ok nmX11 (ci := 10) rfl ka0 9 (by decide) (jz := 9) rfl w_fl_RX11_286 (hd := rfl) (hn := rfl) (hfit := rfl) (hdg := dX11_clock_62) (fun M37 eM37 H locs hG => ?_)
      have h := h M37 eM37
      exact jK28 M37 h H locs hG ls (lv_sub hl [0, 1] rfl)
  have h := hg
  obtain ⟨g15, h⟩ := h
  refine j_icmp_ne (tgt := 18) hx hb dX11_clock_11 (by decide) g15 (by decide) (fun c14 => ?_) (fun c14 => ?_)
  · have h := h.1 c14
    refine lv_aload_n hx hb dX11_clock_18 rfl (lv_at hl 0 rfl) ?_
    refine j_conti (va_runV (As := []) (rest := [.int (J a1), .ref (rA o (a0 + 7))]) ⟨hx, hb, hml, hown, hts⟩ (A_X11_here l ka0 g1) (cwV 0 hts (gj_V ml_RX11_289 i_X11_here s_X11_here n_RX11 k_X11_here) rfl rfl rfl (by decide +kernel) ⟨by exact Nat.le_of_ble_eq_true rfl, by exact Nat.le_of_ble_eq_true rfl⟩) (j_preV hK hSX hG (ci := 10) rfl ka0 (by decide)) rfl rfl hl.1 rfl (lv_room (Nat.le_of_ble_eq_true rfl)) dX11_clock_19 ⟨by exact Nat.le_of_ble_eq_true rfl, by exact Nat.le_of_ble_eq_true rfl⟩) hG (c2 := 0) (s2 := 0) ⟨by exact Nat.le_of_ble_eq_true rfl, by exact Nat.le_of_ble_eq_true rfl⟩ (fun z16 M17 ez16 H locs hG => ?_)
    obtain ⟨ez16, eM17⟩ := ez16
    subst ez16
    rw [eM17] at hG
    refine lv_bipush (v := J 98) hx hb dX11_clock_22 (by decide) ?_
    refine j_icmp_ne (tgt := 31) hx hb dX11_clock_24 (by decide) g15 (by decide) (fun c18 => ?_) (fun c18 => ?_)
    · have h := h.1 c18
      refine lv_aload_n hx hb dX11_clock_31 rfl (lv_at hl 0 rfl) ?_
      refine j_conti (va_runV (As := []) (rest := [.int (J a1), .ref (rA o (a0 + 7))]) ⟨hx, hb, hml, hown, hts⟩ (A_X11_here l ka0 g1) (cwV 0 hts (gj_V ml_RX11_289 i_X11_here s_X11_here n_RX11 k_X11_here) rfl rfl rfl (by decide +kernel) ⟨by exact Nat.le_of_ble_eq_true rfl, by exact Nat.le_of_ble_eq_true rfl⟩) (j_preV hK hSX hG (ci := 10) rfl ka0 (by decide)) rfl rfl hl.1 rfl (lv_room (Nat.le_of_ble_eq_true rfl)) dX11_clock_32 ⟨by exact Nat.le_of_ble_eq_true rfl, by exact Nat.le_of_ble_eq_true rfl⟩) hG (c2 := 0) (s2 := 0) ⟨by exact Nat.le_of_ble_eq_true rfl, by exact Nat.le_of_ble_eq_true rfl⟩ (fun z19 M20 ez19 H locs hG => ?_)
      obtain ⟨ez19, eM20⟩ := ez19
      subst ez19
      rw [eM20] at hG
      refine lv_bipush (v := J 105) hx hb dX11_clock_35 (by decide) ?_
      refine j_icmp_ne (tgt := 44) hx hb dX11_clock_37 (by decide) g15 (by decide) (fun c21 => ?_) (fun c21 => ?_)
      · have h := h.1 c21
        refine lv_iconst (v := J (-1)) hx hb dX11_clock_44 (by decide) ?_
        exact jK13 ((-1)) (fun _ => rfl) (fun q => absurd q.2.2 (by omega)) (fun q => absurd q.2 (by omega)) (fun q => absurd q (by omega)) H locs hG ls (lv_sub hl [0, 1] rfl)
      · have h := h.2 c21
        refine lv_iconst (v := J 2) hx hb dX11_clock_40 (by decide) ?_
        refine lv_goto (tgt := 45) hx hb dX11_clock_41 (by decide) ?_
        exact jK13 2 (fun q => absurd q.2.2 (by omega)) (fun _ => rfl) (fun q => absurd q.2 (by omega)) (fun q => absurd q (by omega)) H locs hG ls (lv_sub hl [0, 1] rfl)
    · have h := h.2 c18
      refine lv_iconst (v := J 1) hx hb dX11_clock_27 (by decide) ?_
      refine lv_goto (tgt := 45) hx hb dX11_clock_28 (by decide) ?_
      exact jK13 1 (fun q => absurd q.2.1 (by omega)) (fun q => absurd q.2.1 (by omega)) (fun _ => rfl) (fun q => absurd q (by omega)) H locs hG ls (lv_sub hl [0, 1] rfl)
  · have h := h.2 c14
    refine lv_iconst (v := J 0) hx hb dX11_clock_14 (by decide) ?_
    refine lv_goto (tgt := 45) hx hb dX11_clock_15 (by decide) ?_
    exact jK13 0 (fun q => absurd q.1 (by omega)) (fun q => absurd q.1 (by omega)) (fun q => absurd q.1 (by omega)) (fun _ => rfl) H locs hG ls (lv_sub hl [0, 1] rfl)

abbrev rm_X11_plain : Room := { frames := 3, cells := 0, slots := 0, locals := 67 }
set_option maxRecDepth 100000 in
set_option maxHeartbeats 4000000 in
theorem A_X11_plain (l : Launch) {D : va_G} {cy : Nat → ClassId} {o : Nat} {sK sV : Nat → Nat} {M : jT} {a0 : Int} {a1 : Int} {a2 : Int} (ka0 : kd a0 = 11) {Q : Int → jT → Prop} (h : wp_X11_plain M a0 a1 a2 Q) : CoI l yX11_plain (wj yX11_plain cX11_plain 4 (some .boolean)) rm_X11_plain D cy o sK sV M [.ref (rA o a0), .int (J a1), .int (J a2)] Q := by
  refine j_ofW (cc := cX11_plain) (maxL := 4) (ret := (some .boolean)) (by decide) rfl (Nat.le_of_ble_eq_true rfl) ?_
  intro p e s m args below meth c hx hb hr hlocks hml hown hts hK hSX H locs hG ls hl Qf hQf
  have hown : s.vm.findClass RX11 = some m.cls := hown
  have hl : lv_has ls 4 [(0, .ref (rA o a0)), (1, .int (J a1)), (2, .int (J a2))] := hl
  have w_fl_RX11_32 := hts _ (List.mem_cons_of_mem _ fl_RX11_32)
  unfold wp_X11_plain at h
  refine lv_iload_n hx hb dX11_plain_0 rfl (lv_at hl 2 rfl) ?_
  obtain ⟨K17, hK17, h⟩ := h
  have jK17 : ∀ (x15 : Int) (M16 : jT), K17 x15 M16 → ∀ (H : Heap) (locs : List Loc), GM D cy o M16 s.heap H locs → ∀ ls : Array Slot, lv_has ls 4 [(0, .ref (rA o a0)), (1, .int (J a1))] → W p l e rm_X11_plain s m args below meth c H locs 0 0 Qf (F0 m 18 ls [.int (J x15)]) := by
    intro x15 M16 hcK17 H locs hG ls hl
    have h := hK17 x15 M16 hcK17
    refine lv_istore_n (lv' := [(3, .int (J x15)), (0, .ref (rA o a0)), (1, .int (J a1))]) hx hb dX11_plain_18 rfl hl (by decide) rfl (fun ls hl => ?_)
    refine lv_aload_n hx hb dX11_plain_19 rfl (lv_at hl 1 rfl) ?_
    refine j_getr hx hb hts hown hK hG (k := a0) (fun w h => List.mem_cons_of_mem _ (u_X11 w h)) (ci := 10) rfl ka0 13 (k2 := a0 + 7) (by decide) (by show a0 + (7 : Int) = a0 + 7; omega) w_fl_RX11_32 dX11_plain_20 ?_
    refine lv_iload_n hx hb dX11_plain_23 rfl (lv_at hl 2 rfl) ?_
    refine lv_aload_n hx hb dX11_plain_24 rfl (lv_at hl 1 rfl) ?_
    refine lv_iconst (v := J 5) hx hb dX11_plain_25 (by decide) ?_
    refine j_conti (va_runV (As := [.int (J 5)]) (rest := [.int (J a1), .ref (rA o (a0 + 7))]) ⟨hx, hb, hml, hown, hts⟩ (A_X11_number l ka0 h) (cwV 1 hts (gj_V ml_RX11_307 i_X11_number s_X11_number n_RX11 k_X11_number) rfl rfl rfl (by decide +kernel) ⟨by exact Nat.le_of_ble_eq_true rfl, by exact Nat.le_of_ble_eq_true rfl⟩) (j_preV hK hSX hG (ci := 10) rfl ka0 (by decide)) rfl rfl hl.1 rfl (lv_room (Nat.le_of_ble_eq_true rfl)) dX11_plain_26 ⟨by exact Nat.le_of_ble_eq_true rfl, by exact Nat.le_of_ble_eq_true rfl⟩) hG (c2 := 0) (s2 := 0) ⟨by exact Nat.le_of_ble_eq_true rfl, by exact Nat.le_of_ble_eq_true rfl⟩ (fun z18 M19 h H locs hG => ?_)
    obtain ⟨g20, h⟩ := h
    refine j_iast hx hb hK hG (n := 8) (kf_11_13 ka0) (by decide) g20 dX11_plain_29 (fun M21 eM21 H locs hG => ?_)
    have h := h M21 eM21
    refine lv_aload_n hx hb dX11_plain_30 rfl (lv_at hl 1 rfl) ?_
    refine j_getr hx hb hts hown hK hG (k := a0) (fun w h => List.mem_cons_of_mem _ (u_X11 w h)) (ci := 10) rfl ka0 13 (k2 := a0 + 7) (by decide) (by show a0 + (7 : Int) = a0 + 7; omega) w_fl_RX11_32 dX11_plain_31 ?_
    refine lv_iload_n hx hb dX11_plain_34 rfl (lv_at hl 2 rfl) ?_
    refine j_iald hx hb hK hG (n := 8) (kf_11_13 ka0) (by decide) g20 dX11_plain_35 ?_
    obtain ⟨g23, h⟩ := h
    refine j_if_ge (tgt := 41) hx hb dX11_plain_36 (by decide) g23 (fun c22 => ?_) (fun c22 => ?_)
    · have h := h.1 c22
      refine lv_iload_n hx hb dX11_plain_41 rfl (lv_at hl 0 rfl) ?_
      obtain ⟨K28, hK28, h⟩ := h
      have jK28 : ∀ (M27 : jT), K28 M27 → ∀ (H : Heap) (locs : List Loc), GM D cy o M27 s.heap H locs → ∀ ls : Array Slot, lv_has ls 4 [] → W p l e rm_X11_plain s m args below meth c H locs 0 0 Qf (F0 m 58 ls []) := by
        intro M27 hcK28 H locs hG ls hl
        have h := hK28 M27 hcK28
        refine lv_iconst (v := J 1) hx hb dX11_plain_58 (by decide) ?_
        rw [hQf]
        exact j_iretn hx hb hr hlocks (nar_b (by decide)) hG h (by decide) dX11_plain_59
      obtain ⟨g30, h⟩ := h
      refine j_if_eq (tgt := 58) hx hb dX11_plain_42 (by decide) g30 (fun c29 => ?_) (fun c29 => ?_)
      · have h := h.1 c29
        exact jK28 M21 h H locs hG ls (lv_sub hl [] rfl)
      · have h := h.2 c29
        refine lv_aload_n hx hb dX11_plain_45 rfl (lv_at hl 1 rfl) ?_
        refine j_getr hx hb hts hown hK hG (k := a0) (fun w h => List.mem_cons_of_mem _ (u_X11 w h)) (ci := 10) rfl ka0 13 (k2 := a0 + 7) (by decide) (by show a0 + (7 : Int) = a0 + 7; omega) w_fl_RX11_32 dX11_plain_46 ?_
        refine lv_iload_n hx hb dX11_plain_49 rfl (lv_at hl 2 rfl) ?_
        refine lv_aload_n hx hb dX11_plain_50 rfl (lv_at hl 1 rfl) ?_
        refine j_getr hx hb hts hown hK hG (k := a0) (fun w h => List.mem_cons_of_mem _ (u_X11 w h)) (ci := 10) rfl ka0 13 (k2 := a0 + 7) (by decide) (by show a0 + (7 : Int) = a0 + 7; omega) w_fl_RX11_32 dX11_plain_51 ?_
        refine lv_iload_n hx hb dX11_plain_54 rfl (lv_at hl 2 rfl) ?_
        refine j_iald hx hb hK hG (n := 8) (kf_11_13 ka0) (by decide) g20 dX11_plain_55 ?_
        refine j_ineg hx hb dX11_plain_56 ?_
        refine j_iast hx hb hK hG (n := 8) (kf_11_13 ka0) (by decide) g20 dX11_plain_57 (fun M31 eM31 H locs hG => ?_)
        have h := h M31 eM31
        exact jK28 M31 h H locs hG ls (lv_sub hl [] rfl)
    · have h := h.2 c22
      refine lv_iconst (v := J 0) hx hb dX11_plain_39 (by decide) ?_
      rw [hQf]
      exact j_iretn hx hb hr hlocks (nar_b (by decide)) hG h (by decide) dX11_plain_40
  obtain ⟨K39, hK39, h⟩ := h
  have jK39 : ∀ (M38 : jT), K39 M38 → ∀ (H : Heap) (locs : List Loc), GM D cy o M38 s.heap H locs → ∀ ls : Array Slot, lv_has ls 4 [(0, .ref (rA o a0)), (1, .int (J a1))] → W p l e rm_X11_plain s m args below meth c H locs 0 0 Qf (F0 m 17 ls []) := by
    intro M38 hcK39 H locs hG ls hl
    have h := hK39 M38 hcK39
    refine lv_iconst (v := J 0) hx hb dX11_plain_17 (by decide) ?_
    exact jK17 0 M38 h H locs hG ls (lv_sub hl [0, 1] rfl)
  obtain ⟨g41, h⟩ := h
  refine j_if_eq (tgt := 17) hx hb dX11_plain_1 (by decide) g41 (fun c40 => ?_) (fun c40 => ?_)
  · have h := h.1 c40
    exact jK39 M h H locs hG ls (lv_sub hl [0, 1] rfl)
  · have h := h.2 c40
    refine lv_aload_n hx hb dX11_plain_4 rfl (lv_at hl 0 rfl) ?_
    refine lv_bipush (v := J 45) hx hb dX11_plain_5 (by decide) ?_
    refine j_conti (va_runV (As := [.int (J 45)]) (rest := []) ⟨hx, hb, hml, hown, hts⟩ (A_X11_takes l ka0 h) (cwV 1 hts (gj_V ml_RX11_304 i_X11_takes s_X11_takes n_RX11 k_X11_takes) rfl rfl rfl (by decide +kernel) ⟨by exact Nat.le_of_ble_eq_true rfl, by exact Nat.le_of_ble_eq_true rfl⟩) (j_preV hK hSX hG (ci := 10) rfl ka0 (by decide)) rfl rfl hl.1 rfl (lv_room (Nat.le_of_ble_eq_true rfl)) dX11_plain_7 ⟨by exact Nat.le_of_ble_eq_true rfl, by exact Nat.le_of_ble_eq_true rfl⟩) hG (c2 := 0) (s2 := 0) ⟨by exact Nat.le_of_ble_eq_true rfl, by exact Nat.le_of_ble_eq_true rfl⟩ (fun z42 M43 h H locs hG => ?_)
    obtain ⟨g45, h⟩ := h
    refine j_if_eq (tgt := 17) hx hb dX11_plain_10 (by decide) g45 (fun c44 => ?_) (fun c44 => ?_)
    · have h := h.1 c44
      exact jK39 M43 h H locs hG ls (lv_sub hl [0, 1] rfl)
    · have h := h.2 c44
      refine lv_iconst (v := J 1) hx hb dX11_plain_13 (by decide) ?_
      refine lv_goto (tgt := 18) hx hb dX11_plain_14 (by decide) ?_
      exact jK17 1 M43 h H locs hG ls (lv_sub hl [0, 1] rfl)

abbrev rm_X11_items : Room := { frames := 4, cells := 0, slots := 0, locals := 91 }
set_option maxRecDepth 100000 in
set_option maxHeartbeats 4000000 in
theorem A_X11_items (l : Launch) {D : va_G} {cy : Nat → ClassId} {o : Nat} {sK sV : Nat → Nat} {M : jT} {a0 : Int} {a1 : Int} (ka0 : kd a0 = 11) {Q : Int → jT → Prop} (h : wp_X11_items M a0 a1 Q) : CoI l yX11_items (wj yX11_items cX11_items 5 (some .boolean)) rm_X11_items D cy o sK sV M [.ref (rA o a0), .int (J a1)] Q := by
  refine j_ofW (cc := cX11_items) (maxL := 5) (ret := (some .boolean)) (by decide) rfl (Nat.le_of_ble_eq_true rfl) ?_
  intro p e s m args below meth c hx hb hr hlocks hml hown hts hK hSX H locs hG ls hl Qf hQf
  have hown : s.vm.findClass RX11 = some m.cls := hown
  have hl : lv_has ls 5 [(0, .ref (rA o a0)), (1, .int (J a1))] := hl
  unfold wp_X11_items at h
  refine lv_iload_n hx hb dX11_items_0 rfl (lv_at hl 1 rfl) ?_
  obtain ⟨hg, h⟩ := h
  have jK6 : ∀ x5 : Int, (a1 ≠ 0 ∧ a1 ≠ 1 ∧ a1 ≠ 2 → x5 = 2) → (a1 ≠ 0 ∧ a1 ≠ 1 ∧ a1 = 2 → x5 = 8) → (a1 ≠ 0 ∧ a1 = 1 → x5 = 3) → (a1 = 0 → x5 = 1) → ∀ (H : Heap) (locs : List Loc), GM D cy o M s.heap H locs → ∀ ls : Array Slot, lv_has ls 5 [(0, .ref (rA o a0)), (1, .int (J a1))] → W p l e rm_X11_items s m args below meth c H locs 0 0 Qf (F0 m 28 ls [.int (J x5)]) := by
    intro x5 qx5_0 qx5_1 qx5_2 qx5_3 H locs hG ls hl
    have h := h x5 qx5_0 qx5_1 qx5_2 qx5_3
    refine lv_istore_n (lv' := [(2, .int (J x5)), (0, .ref (rA o a0)), (1, .int (J a1))]) hx hb dX11_items_28 rfl hl (by decide) rfl (fun ls hl => ?_)
    refine lv_iconst (v := J 0) hx hb dX11_items_29 (by decide) ?_
    refine lv_istore_n (lv' := [(3, .int (J 0)), (2, .int (J x5)), (0, .ref (rA o a0)), (1, .int (J a1))]) hx hb dX11_items_30 rfl hl (by decide) rfl (fun ls hl => ?_)
    obtain ⟨I13, ⟨n14s, iI13⟩, qI13⟩ := h
    have lI13 : ∀ (n14 : Nat) (x11 : Int) (M12 : jT), I13 n14 x11 M12 → ∀ (H : Heap) (locs : List Loc), GM D cy o M12 s.heap H locs → ∀ ls : Array Slot, lv_has ls 5 [(0, .ref (rA o a0)), (1, .int (J a1)), (2, .int (J x5)), (3, .int (J x11))] → W p l e rm_X11_items s m args below meth c H locs 0 0 Qf (F0 m 31 ls []) := by
      intro n14
      induction n14 using Nat.strongRecOn with
      | ind n14 rI13 =>
        intro x11 M12 iI13 H locs hG ls hl
        have h := qI13 n14 x11 M12 iI13
        refine lv_iload_n hx hb dX11_items_31 rfl (lv_at hl 3 rfl) ?_
        refine lv_iload_n hx hb dX11_items_32 rfl (lv_at hl 2 rfl) ?_
        obtain ⟨g16, h⟩ := h
        obtain ⟨g17, h⟩ := h
        refine j_icmp_ge (tgt := 127) hx hb dX11_items_33 (by decide) g16 g17 (fun c15 => ?_) (fun c15 => ?_)
        · have h := h.1 c15
          refine lv_aload_n hx hb dX11_items_127 rfl (lv_at hl 0 rfl) ?_
          refine lv_bipush (v := J 59) hx hb dX11_items_128 (by decide) ?_
          refine j_conti (va_runV (As := [.int (J 59)]) (rest := []) ⟨hx, hb, hml, hown, hts⟩ (A_X11_takes l ka0 h) (cwV 1 hts (gj_V ml_RX11_304 i_X11_takes s_X11_takes n_RX11 k_X11_takes) rfl rfl rfl (by decide +kernel) ⟨by exact Nat.le_of_ble_eq_true rfl, by exact Nat.le_of_ble_eq_true rfl⟩) (j_preV hK hSX hG (ci := 10) rfl ka0 (by decide)) rfl rfl hl.1 rfl (lv_room (Nat.le_of_ble_eq_true rfl)) dX11_items_130 ⟨by exact Nat.le_of_ble_eq_true rfl, by exact Nat.le_of_ble_eq_true rfl⟩) hG (c2 := 0) (s2 := 0) ⟨by exact Nat.le_of_ble_eq_true rfl, by exact Nat.le_of_ble_eq_true rfl⟩ (fun z18 M19 h H locs hG => ?_)
          obtain ⟨g20, h⟩ := h
          rw [hQf]
          exact j_iretn hx hb hr hlocks (nar_b g20) hG h (by decide) dX11_items_133
        · have h := h.2 c15
          refine lv_iload_n hx hb dX11_items_36 rfl (lv_at hl 3 rfl) ?_
          obtain ⟨K27, hK27, h⟩ := h
          have jK27 : ∀ (M26 : jT), K27 M26 → ∀ (H : Heap) (locs : List Loc), GM D cy o M26 s.heap H locs → ∀ ls : Array Slot, lv_has ls 5 [(0, .ref (rA o a0)), (1, .int (J a1)), (2, .int (J x5)), (3, .int (J x11))] → W p l e rm_X11_items s m args below meth c H locs 0 0 Qf (F0 m 51 ls []) := by
            intro M26 hcK27 H locs hG ls hl
            have h := hK27 M26 hcK27
            refine lv_iload_n hx hb dX11_items_51 rfl (lv_at hl 1 rfl) ?_
            refine lv_iconst (v := J 2) hx hb dX11_items_52 (by decide) ?_
            obtain ⟨K86, hK86, h⟩ := h
            have jK86 : ∀ (x84 : Int) (M85 : jT), K86 x84 M85 → ∀ (H : Heap) (locs : List Loc), GM D cy o M85 s.heap H locs → ∀ ls : Array Slot, lv_has ls 5 [(0, .ref (rA o a0)), (1, .int (J a1)), (2, .int (J x5)), (3, .int (J x11))] → W p l e rm_X11_items s m args below meth c H locs 0 0 Qf (F0 m 112 ls [.int (J x84)]) := by
              intro x84 M85 hcK86 H locs hG ls hl
              have h := hK86 x84 M85 hcK86
              refine lv_istore (lv' := [(4, .int (J x84)), (0, .ref (rA o a0)), (1, .int (J a1)), (2, .int (J x5)), (3, .int (J x11))]) hx hb dX11_items_112 hl (by decide) rfl (fun ls hl => ?_)
              refine lv_iload hx hb dX11_items_114 (lv_at hl 0 rfl) ?_
              obtain ⟨g88, h⟩ := h
              refine j_if_ne (tgt := 121) hx hb dX11_items_116 (by decide) g88 (fun c87 => ?_) (fun c87 => ?_)
              · have h := h.1 c87
                refine j_iinc hx hb dX11_items_121 hl (k := 4) rfl (by decide) (fun x89 ex89 ls hl => ?_)
                have h := h x89 ex89
                have hl : lv_has ls 5 [(3, .int (J x89)), (4, .int (J x84)), (0, .ref (rA o a0)), (1, .int (J a1)), (2, .int (J x5))] := hl
                refine lv_goto (tgt := 31) hx hb dX11_items_124 (by decide) ?_
                obtain ⟨n90, ln90, iI13⟩ := h
                exact rI13 n90 ln90 x89 M85 iI13 H locs hG ls (lv_sub hl [2, 3, 4, 0] rfl)
              · have h := h.2 c87
                refine lv_iconst (v := J 0) hx hb dX11_items_119 (by decide) ?_
                rw [hQf]
                exact j_iretn hx hb hr hlocks (nar_b (by decide)) hG h (by decide) dX11_items_120
            obtain ⟨K96, hK96, h⟩ := h
            have jK96 : K96 → ∀ (H : Heap) (locs : List Loc), GM D cy o M26 s.heap H locs → ∀ ls : Array Slot, lv_has ls 5 [(0, .ref (rA o a0)), (1, .int (J a1)), (2, .int (J x5)), (3, .int (J x11))] → W p l e rm_X11_items s m args below meth c H locs 0 0 Qf (F0 m 69 ls []) := by
              intro hcK96 H locs hG ls hl
              have h := hK96 hcK96
              refine lv_iload_n hx hb dX11_items_69 rfl (lv_at hl 1 rfl) ?_
              refine lv_iconst (v := J 2) hx hb dX11_items_70 (by decide) ?_
              obtain ⟨K102, hK102, h⟩ := h
              have jK102 : K102 → ∀ (H : Heap) (locs : List Loc), GM D cy o M26 s.heap H locs → ∀ ls : Array Slot, lv_has ls 5 [(0, .ref (rA o a0)), (1, .int (J a1)), (2, .int (J x5)), (3, .int (J x11))] → W p l e rm_X11_items s m args below meth c H locs 0 0 Qf (F0 m 88 ls []) := by
                intro hcK102 H locs hG ls hl
                have h := hK102 hcK102
                refine lv_aload_n hx hb dX11_items_88 rfl (lv_at hl 0 rfl) ?_
                refine lv_iload_n hx hb dX11_items_89 rfl (lv_at hl 3 rfl) ?_
                refine lv_iload_n hx hb dX11_items_90 rfl (lv_at hl 1 rfl) ?_
                obtain ⟨K119, hK119, h⟩ := h
                have jK119 : ∀ (x118 : Int), K119 x118 → ∀ (H : Heap) (locs : List Loc), GM D cy o M26 s.heap H locs → ∀ ls : Array Slot, lv_has ls 5 [(0, .ref (rA o a0)), (1, .int (J a1)), (2, .int (J x5)), (3, .int (J x11))] → W p l e rm_X11_items s m args below meth c H locs 0 0 Qf (F0 m 109 ls [.int (J x118), .int (J x11), .ref (rA o a0)]) := by
                  intro x118 hcK119 H locs hG ls hl
                  have h := hK119 x118 hcK119
                  refine j_conti (va_runV (As := [.int (J x11), .int (J x118)]) (rest := []) ⟨hx, hb, hml, hown, hts⟩ (A_X11_plain l ka0 h) (cwV 2 hts (gj_V ml_RX11_316 i_X11_plain s_X11_plain n_RX11 k_X11_plain) rfl rfl rfl (by decide +kernel) ⟨by exact Nat.le_of_ble_eq_true rfl, by exact Nat.le_of_ble_eq_true rfl⟩) (j_preV hK hSX hG (ci := 10) rfl ka0 (by decide)) rfl rfl hl.1 rfl (lv_room (Nat.le_of_ble_eq_true rfl)) dX11_items_109 ⟨by exact Nat.le_of_ble_eq_true rfl, by exact Nat.le_of_ble_eq_true rfl⟩) hG (c2 := 0) (s2 := 0) ⟨by exact Nat.le_of_ble_eq_true rfl, by exact Nat.le_of_ble_eq_true rfl⟩ (fun z120 M121 h H locs hG => ?_)
                  exact jK86 z120 M121 h H locs hG ls (lv_sub hl [0, 1, 2, 3] rfl)
                obtain ⟨K129, hK129, h⟩ := h
                have jK129 : K129 → ∀ (H : Heap) (locs : List Loc), GM D cy o M26 s.heap H locs → ∀ ls : Array Slot, lv_has ls 5 [(0, .ref (rA o a0)), (1, .int (J a1)), (2, .int (J x5)), (3, .int (J x11))] → W p l e rm_X11_items s m args below meth c H locs 0 0 Qf (F0 m 104 ls [.int (J x11), .ref (rA o a0)]) := by
                  intro hcK129 H locs hG ls hl
                  have h := hK129 hcK129
                  refine lv_iconst (v := J 1) hx hb dX11_items_104 (by decide) ?_
                  refine lv_goto (tgt := 109) hx hb dX11_items_105 (by decide) ?_
                  exact jK119 1 h H locs hG ls (lv_sub hl [0, 1, 2, 3] rfl)
                obtain ⟨g131, h⟩ := h
                refine j_if_eq (tgt := 104) hx hb dX11_items_91 (by decide) g131 (fun c130 => ?_) (fun c130 => ?_)
                · have h := h.1 c130
                  exact jK129 h H locs hG ls (lv_sub hl [0, 1, 2, 3] rfl)
                · have h := h.2 c130
                  refine lv_iload_n hx hb dX11_items_94 rfl (lv_at hl 1 rfl) ?_
                  refine lv_iconst (v := J 1) hx hb dX11_items_95 (by decide) ?_
                  obtain ⟨K134, hK134, h⟩ := h
                  have jK134 : K134 → ∀ (H : Heap) (locs : List Loc), GM D cy o M26 s.heap H locs → ∀ ls : Array Slot, lv_has ls 5 [(0, .ref (rA o a0)), (1, .int (J a1)), (2, .int (J x5)), (3, .int (J x11))] → W p l e rm_X11_items s m args below meth c H locs 0 0 Qf (F0 m 108 ls [.int (J x11), .ref (rA o a0)]) := by
                    intro hcK134 H locs hG ls hl
                    have h := hK134 hcK134
                    refine lv_iconst (v := J 0) hx hb dX11_items_108 (by decide) ?_
                    exact jK119 0 h H locs hG ls (lv_sub hl [0, 1, 2, 3] rfl)
                  refine j_icmp_ne (tgt := 108) hx hb dX11_items_96 (by decide) g131 (by decide) (fun c135 => ?_) (fun c135 => ?_)
                  · have h := h.1 c135
                    exact jK134 h H locs hG ls (lv_sub hl [0, 1, 2, 3] rfl)
                  · have h := h.2 c135
                    refine lv_iload_n hx hb dX11_items_99 rfl (lv_at hl 3 rfl) ?_
                    refine lv_iconst (v := J 2) hx hb dX11_items_100 (by decide) ?_
                    refine j_icmp_ne (tgt := 108) hx hb dX11_items_101 (by decide) g16 (by decide) (fun c136 => ?_) (fun c136 => ?_)
                    · have h := h.1 c136
                      exact jK134 h H locs hG ls (lv_sub hl [0, 1, 2, 3] rfl)
                    · have h := h.2 c136
                      exact jK129 h H locs hG ls (lv_sub hl [0, 1, 2, 3] rfl)
              obtain ⟨g138, h⟩ := h
              refine j_icmp_ne (tgt := 88) hx hb dX11_items_71 (by decide) g138 (by decide) (fun c137 => ?_) (fun c137 => ?_)
              · have h := h.1 c137
                exact jK102 h H locs hG ls (lv_sub hl [0, 1, 2, 3] rfl)
              · have h := h.2 c137
                refine lv_iload_n hx hb dX11_items_74 rfl (lv_at hl 3 rfl) ?_
                refine lv_bipush (v := J 6) hx hb dX11_items_75 (by decide) ?_
                refine j_icmp_ne (tgt := 88) hx hb dX11_items_77 (by decide) g16 (by decide) (fun c139 => ?_) (fun c139 => ?_)
                · have h := h.1 c139
                  exact jK102 h H locs hG ls (lv_sub hl [0, 1, 2, 3] rfl)
                · have h := h.2 c139
                  refine lv_aload_n hx hb dX11_items_80 rfl (lv_at hl 0 rfl) ?_
                  refine lv_iload_n hx hb dX11_items_81 rfl (lv_at hl 3 rfl) ?_
                  refine j_conti (va_runV (As := [.int (J x11)]) (rest := []) ⟨hx, hb, hml, hown, hts⟩ (A_X11_clock l ka0 h) (cwV 1 hts (gj_V ml_RX11_313 i_X11_clock s_X11_clock n_RX11 k_X11_clock) rfl rfl rfl (by decide +kernel) ⟨by exact Nat.le_of_ble_eq_true rfl, by exact Nat.le_of_ble_eq_true rfl⟩) (j_preV hK hSX hG (ci := 10) rfl ka0 (by decide)) rfl rfl hl.1 rfl (lv_room (Nat.le_of_ble_eq_true rfl)) dX11_items_82 ⟨by exact Nat.le_of_ble_eq_true rfl, by exact Nat.le_of_ble_eq_true rfl⟩) hG (c2 := 0) (s2 := 0) ⟨by exact Nat.le_of_ble_eq_true rfl, by exact Nat.le_of_ble_eq_true rfl⟩ (fun z140 M141 h H locs hG => ?_)
                  refine lv_goto (tgt := 112) hx hb dX11_items_85 (by decide) ?_
                  exact jK86 z140 M141 h H locs hG ls (lv_sub hl [0, 1, 2, 3] rfl)
            obtain ⟨g143, h⟩ := h
            refine j_icmp_ne (tgt := 69) hx hb dX11_items_53 (by decide) g143 (by decide) (fun c142 => ?_) (fun c142 => ?_)
            · have h := h.1 c142
              exact jK96 h H locs hG ls (lv_sub hl [0, 1, 2, 3] rfl)
            · have h := h.2 c142
              refine lv_iload_n hx hb dX11_items_56 rfl (lv_at hl 3 rfl) ?_
              refine lv_iconst (v := J 4) hx hb dX11_items_57 (by decide) ?_
              refine j_icmp_ne (tgt := 69) hx hb dX11_items_58 (by decide) g16 (by decide) (fun c144 => ?_) (fun c144 => ?_)
              · have h := h.1 c144
                exact jK96 h H locs hG ls (lv_sub hl [0, 1, 2, 3] rfl)
              · have h := h.2 c144
                refine lv_aload_n hx hb dX11_items_61 rfl (lv_at hl 0 rfl) ?_
                refine lv_iload_n hx hb dX11_items_62 rfl (lv_at hl 3 rfl) ?_
                refine j_conti (va_runV (As := [.int (J x11)]) (rest := []) ⟨hx, hb, hml, hown, hts⟩ (A_X11_date_ l ka0 h) (cwV 1 hts (gj_V ml_RX11_310 i_X11_date_ s_X11_date_ n_RX11 k_X11_date_) rfl rfl rfl (by decide +kernel) ⟨by exact Nat.le_of_ble_eq_true rfl, by exact Nat.le_of_ble_eq_true rfl⟩) (j_preV hK hSX hG (ci := 10) rfl ka0 (by decide)) rfl rfl hl.1 rfl (lv_room (Nat.le_of_ble_eq_true rfl)) dX11_items_63 ⟨by exact Nat.le_of_ble_eq_true rfl, by exact Nat.le_of_ble_eq_true rfl⟩) hG (c2 := 0) (s2 := 0) ⟨by exact Nat.le_of_ble_eq_true rfl, by exact Nat.le_of_ble_eq_true rfl⟩ (fun z145 M146 h H locs hG => ?_)
                refine lv_goto (tgt := 112) hx hb dX11_items_66 (by decide) ?_
                exact jK86 z145 M146 h H locs hG ls (lv_sub hl [0, 1, 2, 3] rfl)
          refine j_if_le (tgt := 51) hx hb dX11_items_37 (by decide) g16 (fun c147 => ?_) (fun c147 => ?_)
          · have h := h.1 c147
            exact jK27 M12 h H locs hG ls (lv_sub hl [0, 1, 2, 3] rfl)
          · have h := h.2 c147
            refine lv_aload_n hx hb dX11_items_40 rfl (lv_at hl 0 rfl) ?_
            refine lv_bipush (v := J 44) hx hb dX11_items_41 (by decide) ?_
            refine j_conti (va_runV (As := [.int (J 44)]) (rest := []) ⟨hx, hb, hml, hown, hts⟩ (A_X11_takes l ka0 h) (cwV 1 hts (gj_V ml_RX11_304 i_X11_takes s_X11_takes n_RX11 k_X11_takes) rfl rfl rfl (by decide +kernel) ⟨by exact Nat.le_of_ble_eq_true rfl, by exact Nat.le_of_ble_eq_true rfl⟩) (j_preV hK hSX hG (ci := 10) rfl ka0 (by decide)) rfl rfl hl.1 rfl (lv_room (Nat.le_of_ble_eq_true rfl)) dX11_items_43 ⟨by exact Nat.le_of_ble_eq_true rfl, by exact Nat.le_of_ble_eq_true rfl⟩) hG (c2 := 0) (s2 := 0) ⟨by exact Nat.le_of_ble_eq_true rfl, by exact Nat.le_of_ble_eq_true rfl⟩ (fun z148 M149 h H locs hG => ?_)
            obtain ⟨g151, h⟩ := h
            refine j_if_ne (tgt := 51) hx hb dX11_items_46 (by decide) g151 (fun c150 => ?_) (fun c150 => ?_)
            · have h := h.1 c150
              exact jK27 M149 h H locs hG ls (lv_sub hl [0, 1, 2, 3] rfl)
            · have h := h.2 c150
              refine lv_iconst (v := J 0) hx hb dX11_items_49 (by decide) ?_
              rw [hQf]
              exact j_iretn hx hb hr hlocks (nar_b (by decide)) hG h (by decide) dX11_items_50
    exact lI13 n14s 0 M iI13 H locs hG ls (lv_sub hl [2, 3, 1, 0] rfl)
  have h := hg
  obtain ⟨g8, h⟩ := h
  refine j_if_ne (tgt := 8) hx hb dX11_items_1 (by decide) g8 (fun c7 => ?_) (fun c7 => ?_)
  · have h := h.1 c7
    refine lv_iload_n hx hb dX11_items_8 rfl (lv_at hl 1 rfl) ?_
    refine lv_iconst (v := J 1) hx hb dX11_items_9 (by decide) ?_
    refine j_icmp_ne (tgt := 17) hx hb dX11_items_10 (by decide) g8 (by decide) (fun c9 => ?_) (fun c9 => ?_)
    · have h := h.1 c9
      refine lv_iload_n hx hb dX11_items_17 rfl (lv_at hl 1 rfl) ?_
      refine lv_iconst (v := J 2) hx hb dX11_items_18 (by decide) ?_
      refine j_icmp_ne (tgt := 27) hx hb dX11_items_19 (by decide) g8 (by decide) (fun c10 => ?_) (fun c10 => ?_)
      · have h := h.1 c10
        refine lv_iconst (v := J 2) hx hb dX11_items_27 (by decide) ?_
        exact jK6 2 (fun _ => rfl) (fun q => absurd q.2.2 (by omega)) (fun q => absurd q.2 (by omega)) (fun q => absurd q (by omega)) H locs hG ls (lv_sub hl [0, 1] rfl)
      · have h := h.2 c10
        refine lv_bipush (v := J 8) hx hb dX11_items_22 (by decide) ?_
        refine lv_goto (tgt := 28) hx hb dX11_items_24 (by decide) ?_
        exact jK6 8 (fun q => absurd q.2.2 (by omega)) (fun _ => rfl) (fun q => absurd q.2 (by omega)) (fun q => absurd q (by omega)) H locs hG ls (lv_sub hl [0, 1] rfl)
    · have h := h.2 c9
      refine lv_iconst (v := J 3) hx hb dX11_items_13 (by decide) ?_
      refine lv_goto (tgt := 28) hx hb dX11_items_14 (by decide) ?_
      exact jK6 3 (fun q => absurd q.2.1 (by omega)) (fun q => absurd q.2.1 (by omega)) (fun _ => rfl) (fun q => absurd q (by omega)) H locs hG ls (lv_sub hl [0, 1] rfl)
  · have h := h.2 c7
    refine lv_iconst (v := J 1) hx hb dX11_items_4 (by decide) ?_
    refine lv_goto (tgt := 28) hx hb dX11_items_5 (by decide) ?_
    exact jK6 1 (fun q => absurd q.1 (by omega)) (fun q => absurd q.1 (by omega)) (fun q => absurd q.1 (by omega)) (fun _ => rfl) H locs hG ls (lv_sub hl [0, 1] rfl)

abbrev rm_X11_does : Room := { frames := 7, cells := 0, slots := 0, locals := 166 }
set_option maxRecDepth 100000 in
set_option maxHeartbeats 4000000 in
theorem A_X11_does (l : Launch) {D : va_G} {cy : Nat → ClassId} {o : Nat} {sK sV : Nat → Nat} {M : jT} {a0 : Int} {a1 : Int} (ka0 : kd a0 = 11) {Q : Int → jT → Prop} (h : wp_X11_does M a0 a1 Q) : CoI l yX11_does (wj yX11_does cX11_does 2 (some .int)) rm_X11_does D cy o sK sV M [.ref (rA o a0), .int (J a1)] Q := by
  refine j_ofW (cc := cX11_does) (maxL := 2) (ret := (some .int)) (by decide) rfl (Nat.le_of_ble_eq_true rfl) ?_
  intro p e s m args below meth c hx hb hr hlocks hml hown hts hK hSX H locs hG ls hl Qf hQf
  have hown : s.vm.findClass RX11 = some m.cls := hown
  have hl : lv_has ls 2 [(0, .ref (rA o a0)), (1, .int (J a1))] := hl
  have w_fl_RX11_32 := hts _ (List.mem_cons_of_mem _ fl_RX11_32)
  unfold wp_X11_does at h
  refine lv_iload_n hx hb dX11_does_0 rfl (lv_at hl 1 rfl) ?_
  obtain ⟨g1, h⟩ := h
  rcases em_eqI (a1) 0 with c2 | c2_0
  · refine j_tsw hx hb dX11_does_1 g1 (k := 0) (tgt := 32) c2 ⟨by decide, by decide, rfl⟩ (by decide) ?_
    have h := h.1 c2
    refine lv_aload_n hx hb dX11_does_32 rfl (lv_at hl 0 rfl) ?_
    refine lv_aload_n hx hb dX11_does_33 rfl (lv_at hl 0 rfl) ?_
    refine j_getr hx hb hts hown hK hG (k := a0) (fun w h => List.mem_cons_of_mem _ (u_X11 w h)) (ci := 10) rfl ka0 13 (k2 := a0 + 7) (by decide) (by show a0 + (7 : Int) = a0 + 7; omega) w_fl_RX11_32 dX11_does_34 ?_
    refine lv_iconst (v := J 0) hx hb dX11_does_37 (by decide) ?_
    refine j_iald hx hb hK hG (n := 8) (kf_11_13 ka0) (by decide) (by decide) dX11_does_38 ?_
    refine j_conti (va_runV (As := [.int (J (M (a0 + 7) 0))]) (rest := []) ⟨hx, hb, hml, hown, hts⟩ (A_X11_zoneBy l ka0 h) (cwV 1 hts (gj_V ml_RX11_151 i_X11_zoneBy s_X11_zoneBy n_RX11 k_X11_zoneBy) rfl rfl rfl (by decide +kernel) ⟨by exact Nat.le_of_ble_eq_true rfl, by exact Nat.le_of_ble_eq_true rfl⟩) (j_preV hK hSX hG (ci := 10) rfl ka0 (by decide)) rfl rfl hl.1 rfl (lv_room (Nat.le_of_ble_eq_true rfl)) dX11_does_39 ⟨by exact Nat.le_of_ble_eq_true rfl, by exact Nat.le_of_ble_eq_true rfl⟩) hG (c2 := 0) (s2 := 0) ⟨by exact Nat.le_of_ble_eq_true rfl, by exact Nat.le_of_ble_eq_true rfl⟩ (fun z3 M4 h H locs hG => ?_)
    rw [hQf]
    exact j_ireti hx hb hr hlocks hG h (by decide) dX11_does_42
  · rcases em_eqI (a1) 1 with c2 | c2_1
    · refine j_tsw hx hb dX11_does_1 g1 (k := 1) (tgt := 43) c2 ⟨by decide, by decide, rfl⟩ (by decide) ?_
      have h := h.2.1 c2
      refine lv_aload_n hx hb dX11_does_43 rfl (lv_at hl 0 rfl) ?_
      refine lv_aload_n hx hb dX11_does_44 rfl (lv_at hl 0 rfl) ?_
      refine j_getr hx hb hts hown hK hG (k := a0) (fun w h => List.mem_cons_of_mem _ (u_X11 w h)) (ci := 10) rfl ka0 13 (k2 := a0 + 7) (by decide) (by show a0 + (7 : Int) = a0 + 7; omega) w_fl_RX11_32 dX11_does_45 ?_
      refine lv_iconst (v := J 0) hx hb dX11_does_48 (by decide) ?_
      refine j_iald hx hb hK hG (n := 8) (kf_11_13 ka0) (by decide) (by decide) dX11_does_49 ?_
      refine lv_aload_n hx hb dX11_does_50 rfl (lv_at hl 0 rfl) ?_
      refine j_getr hx hb hts hown hK hG (k := a0) (fun w h => List.mem_cons_of_mem _ (u_X11 w h)) (ci := 10) rfl ka0 13 (k2 := a0 + 7) (by decide) (by show a0 + (7 : Int) = a0 + 7; omega) w_fl_RX11_32 dX11_does_51 ?_
      refine lv_iconst (v := J 1) hx hb dX11_does_54 (by decide) ?_
      refine j_iald hx hb hK hG (n := 8) (kf_11_13 ka0) (by decide) (by decide) dX11_does_55 ?_
      refine lv_aload_n hx hb dX11_does_56 rfl (lv_at hl 0 rfl) ?_
      refine j_getr hx hb hts hown hK hG (k := a0) (fun w h => List.mem_cons_of_mem _ (u_X11 w h)) (ci := 10) rfl ka0 13 (k2 := a0 + 7) (by decide) (by show a0 + (7 : Int) = a0 + 7; omega) w_fl_RX11_32 dX11_does_57 ?_
      refine lv_iconst (v := J 2) hx hb dX11_does_60 (by decide) ?_
      refine j_iald hx hb hK hG (n := 8) (kf_11_13 ka0) (by decide) (by decide) dX11_does_61 ?_
      refine j_conti (va_runV (As := [.int (J (M (a0 + 7) 0)), .int (J (M (a0 + 7) 1)), .int (J (M (a0 + 7) 2))]) (rest := []) ⟨hx, hb, hml, hown, hts⟩ (A_X11_baseBy l ka0 h) (cwV 3 hts (gj_V ml_RX11_157 i_X11_baseBy s_X11_baseBy n_RX11 k_X11_baseBy) rfl rfl rfl (by decide +kernel) ⟨by exact Nat.le_of_ble_eq_true rfl, by exact Nat.le_of_ble_eq_true rfl⟩) (j_preV hK hSX hG (ci := 10) rfl ka0 (by decide)) rfl rfl hl.1 rfl (lv_room (Nat.le_of_ble_eq_true rfl)) dX11_does_62 ⟨by exact Nat.le_of_ble_eq_true rfl, by exact Nat.le_of_ble_eq_true rfl⟩) hG (c2 := 0) (s2 := 0) ⟨by exact Nat.le_of_ble_eq_true rfl, by exact Nat.le_of_ble_eq_true rfl⟩ (fun z5 M6 h H locs hG => ?_)
      rw [hQf]
      exact j_ireti hx hb hr hlocks hG h (by decide) dX11_does_65
    · rcases em_eqI (a1) 2 with c2 | c2_2
      · refine j_tsw hx hb dX11_does_1 g1 (k := 2) (tgt := 66) c2 ⟨by decide, by decide, rfl⟩ (by decide) ?_
        have h := h.2.2.1 c2
        refine lv_aload_n hx hb dX11_does_66 rfl (lv_at hl 0 rfl) ?_
        refine j_getr hx hb hts hown hK hG (k := a0) (fun w h => List.mem_cons_of_mem _ (u_X11 w h)) (ci := 10) rfl ka0 13 (k2 := a0 + 7) (by decide) (by show a0 + (7 : Int) = a0 + 7; omega) w_fl_RX11_32 dX11_does_67 ?_
        refine lv_iconst (v := J 1) hx hb dX11_does_70 (by decide) ?_
        refine j_iald hx hb hK hG (n := 8) (kf_11_13 ka0) (by decide) (by decide) dX11_does_71 ?_
        refine lv_sipush (v := J 2000) hx hb dX11_does_72 (by decide) ?_
        refine lv_sipush (v := J 2031) hx hb dX11_does_75 (by decide) ?_
        obtain ⟨g7, h⟩ := h
        refine j_conti (va_runS (As := [.int (J (M (a0 + 7) 1)), .int (J 2000), .int (J 2031)]) (rest := []) ⟨hx, hb, hml, hown, hts⟩ (A_X11_in l g7) (va_cwS 3 hts (gj_S ml_RX11_106 i_X11_in n_RX11 k_X11_in) rfl rfl rfl (by decide +kernel) ⟨by exact Nat.le_of_ble_eq_true rfl, by exact Nat.le_of_ble_eq_true rfl⟩) (j_preS hK hSX hG) rfl rfl hl.1 rfl (lv_room (Nat.le_of_ble_eq_true rfl)) dX11_does_78 ⟨by exact Nat.le_of_ble_eq_true rfl, by exact Nat.le_of_ble_eq_true rfl⟩) hG (c2 := 0) (s2 := 0) ⟨by exact Nat.le_of_ble_eq_true rfl, by exact Nat.le_of_ble_eq_true rfl⟩ (fun z8 M9 ez8 H locs hG => ?_)
        obtain ⟨ez8, eM9⟩ := ez8
        subst ez8
        rw [eM9] at hG
        obtain ⟨K17, hK17, h⟩ := h
        have jK17 : K17 → ∀ (H : Heap) (locs : List Loc), GM D cy o M s.heap H locs → ∀ ls : Array Slot, lv_has ls 2 [] → W p l e rm_X11_does s m args below meth c H locs 0 0 Qf (F0 m 102 ls []) := by
          intro hcK17 H locs hG ls hl
          have h := hK17 hcK17
          refine lv_bipush (v := J (-2)) hx hb dX11_does_102 (by decide) ?_
          rw [hQf]
          exact j_ireti hx hb hr hlocks hG h (by decide) dX11_does_104
        refine j_if_eq_b (tgt := 102) hx hb dX11_does_81 (by decide) (fun c18 => ?_) (fun c18 => ?_)
        · have h := h.1 c18
          exact jK17 h H locs hG ls (lv_sub hl [] rfl)
        · have h := h.2 c18
          refine lv_aload_n hx hb dX11_does_84 rfl (lv_at hl 0 rfl) ?_
          refine j_getr hx hb hts hown hK hG (k := a0) (fun w h => List.mem_cons_of_mem _ (u_X11 w h)) (ci := 10) rfl ka0 13 (k2 := a0 + 7) (by decide) (by show a0 + (7 : Int) = a0 + 7; omega) w_fl_RX11_32 dX11_does_85 ?_
          refine lv_iconst (v := J 2) hx hb dX11_does_88 (by decide) ?_
          refine j_iald hx hb hK hG (n := 8) (kf_11_13 ka0) (by decide) (by decide) dX11_does_89 ?_
          refine lv_sipush (v := J 2000) hx hb dX11_does_90 (by decide) ?_
          refine lv_sipush (v := J 2031) hx hb dX11_does_93 (by decide) ?_
          obtain ⟨g19, h⟩ := h
          refine j_conti (va_runS (As := [.int (J (M (a0 + 7) 2)), .int (J 2000), .int (J 2031)]) (rest := []) ⟨hx, hb, hml, hown, hts⟩ (A_X11_in l g19) (va_cwS 3 hts (gj_S ml_RX11_106 i_X11_in n_RX11 k_X11_in) rfl rfl rfl (by decide +kernel) ⟨by exact Nat.le_of_ble_eq_true rfl, by exact Nat.le_of_ble_eq_true rfl⟩) (j_preS hK hSX hG) rfl rfl hl.1 rfl (lv_room (Nat.le_of_ble_eq_true rfl)) dX11_does_96 ⟨by exact Nat.le_of_ble_eq_true rfl, by exact Nat.le_of_ble_eq_true rfl⟩) hG (c2 := 0) (s2 := 0) ⟨by exact Nat.le_of_ble_eq_true rfl, by exact Nat.le_of_ble_eq_true rfl⟩ (fun z20 M21 ez20 H locs hG => ?_)
          obtain ⟨ez20, eM21⟩ := ez20
          subst ez20
          rw [eM21] at hG
          refine j_if_ne_b (tgt := 105) hx hb dX11_does_99 (by decide) (fun c22 => ?_) (fun c22 => ?_)
          · have h := h.1 c22
            refine lv_aload_n hx hb dX11_does_105 rfl (lv_at hl 0 rfl) ?_
            refine lv_aload_n hx hb dX11_does_106 rfl (lv_at hl 0 rfl) ?_
            refine j_getr hx hb hts hown hK hG (k := a0) (fun w h => List.mem_cons_of_mem _ (u_X11 w h)) (ci := 10) rfl ka0 13 (k2 := a0 + 7) (by decide) (by show a0 + (7 : Int) = a0 + 7; omega) w_fl_RX11_32 dX11_does_107 ?_
            refine lv_iconst (v := J 0) hx hb dX11_does_110 (by decide) ?_
            refine j_iald hx hb hK hG (n := 8) (kf_11_13 ka0) (by decide) (by decide) dX11_does_111 ?_
            refine lv_bipush (v := J 100) hx hb dX11_does_112 (by decide) ?_
            refine lv_aload_n hx hb dX11_does_114 rfl (lv_at hl 0 rfl) ?_
            refine j_getr hx hb hts hown hK hG (k := a0) (fun w h => List.mem_cons_of_mem _ (u_X11 w h)) (ci := 10) rfl ka0 13 (k2 := a0 + 7) (by decide) (by show a0 + (7 : Int) = a0 + 7; omega) w_fl_RX11_32 dX11_does_115 ?_
            refine lv_iconst (v := J 1) hx hb dX11_does_118 (by decide) ?_
            refine j_iald hx hb hK hG (n := 8) (kf_11_13 ka0) (by decide) (by decide) dX11_does_119 ?_
            refine lv_sipush (v := J 2000) hx hb dX11_does_120 (by decide) ?_
            refine j_isub hx hb dX11_does_123 ?_
            refine j_imul hx hb dX11_does_124 ?_
            refine lv_aload_n hx hb dX11_does_125 rfl (lv_at hl 0 rfl) ?_
            refine j_getr hx hb hts hown hK hG (k := a0) (fun w h => List.mem_cons_of_mem _ (u_X11 w h)) (ci := 10) rfl ka0 13 (k2 := a0 + 7) (by decide) (by show a0 + (7 : Int) = a0 + 7; omega) w_fl_RX11_32 dX11_does_126 ?_
            refine lv_iconst (v := J 2) hx hb dX11_does_129 (by decide) ?_
            refine j_iald hx hb hK hG (n := 8) (kf_11_13 ka0) (by decide) (by decide) dX11_does_130 ?_
            refine j_iadd hx hb dX11_does_131 ?_
            refine lv_sipush (v := J 2000) hx hb dX11_does_132 (by decide) ?_
            refine j_isub hx hb dX11_does_135 ?_
            refine lv_aload_n hx hb dX11_does_136 rfl (lv_at hl 0 rfl) ?_
            refine j_getr hx hb hts hown hK hG (k := a0) (fun w h => List.mem_cons_of_mem _ (u_X11 w h)) (ci := 10) rfl ka0 13 (k2 := a0 + 7) (by decide) (by show a0 + (7 : Int) = a0 + 7; omega) w_fl_RX11_32 dX11_does_137 ?_
            refine lv_iconst (v := J 3) hx hb dX11_does_140 (by decide) ?_
            refine j_iald hx hb hK hG (n := 8) (kf_11_13 ka0) (by decide) (by decide) dX11_does_141 ?_
            refine lv_aload_n hx hb dX11_does_142 rfl (lv_at hl 0 rfl) ?_
            refine j_getr hx hb hts hown hK hG (k := a0) (fun w h => List.mem_cons_of_mem _ (u_X11 w h)) (ci := 10) rfl ka0 13 (k2 := a0 + 7) (by decide) (by show a0 + (7 : Int) = a0 + 7; omega) w_fl_RX11_32 dX11_does_143 ?_
            refine lv_iconst (v := J 4) hx hb dX11_does_146 (by decide) ?_
            refine j_iald hx hb hK hG (n := 8) (kf_11_13 ka0) (by decide) (by decide) dX11_does_147 ?_
            refine lv_bipush (v := J 10) hx hb dX11_does_148 (by decide) ?_
            refine lv_aload_n hx hb dX11_does_150 rfl (lv_at hl 0 rfl) ?_
            refine j_getr hx hb hts hown hK hG (k := a0) (fun w h => List.mem_cons_of_mem _ (u_X11 w h)) (ci := 10) rfl ka0 13 (k2 := a0 + 7) (by decide) (by show a0 + (7 : Int) = a0 + 7; omega) w_fl_RX11_32 dX11_does_151 ?_
            refine lv_iconst (v := J 5) hx hb dX11_does_154 (by decide) ?_
            refine j_iald hx hb hK hG (n := 8) (kf_11_13 ka0) (by decide) (by decide) dX11_does_155 ?_
            refine j_imul hx hb dX11_does_156 ?_
            refine lv_aload_n hx hb dX11_does_157 rfl (lv_at hl 0 rfl) ?_
            refine j_getr hx hb hts hown hK hG (k := a0) (fun w h => List.mem_cons_of_mem _ (u_X11 w h)) (ci := 10) rfl ka0 13 (k2 := a0 + 7) (by decide) (by show a0 + (7 : Int) = a0 + 7; omega) w_fl_RX11_32 dX11_does_158 ?_
            refine lv_bipush (v := J 6) hx hb dX11_does_161 (by decide) ?_
            refine j_iald hx hb hK hG (n := 8) (kf_11_13 ka0) (by decide) (by decide) dX11_does_163 ?_
            refine j_iadd hx hb dX11_does_164 ?_
            refine lv_aload_n hx hb dX11_does_165 rfl (lv_at hl 0 rfl) ?_
            refine j_getr hx hb hts hown hK hG (k := a0) (fun w h => List.mem_cons_of_mem _ (u_X11 w h)) (ci := 10) rfl ka0 13 (k2 := a0 + 7) (by decide) (by show a0 + (7 : Int) = a0 + 7; omega) w_fl_RX11_32 dX11_does_166 ?_
            refine lv_bipush (v := J 7) hx hb dX11_does_169 (by decide) ?_
            refine j_iald hx hb hK hG (n := 8) (kf_11_13 ka0) (by decide) (by decide) dX11_does_171 ?_
            refine j_conti (va_runV (As := [.int (J (M (a0 + 7) 0)), .int (J (((100 * ((M (a0 + 7) 1) - 2000)) + (M (a0 + 7) 2)) - 2000)), .int (J (M (a0 + 7) 3)), .int (J (M (a0 + 7) 4)), .int (J ((10 * (M (a0 + 7) 5)) + (M (a0 + 7) 6))), .int (J (M (a0 + 7) 7))]) (rest := []) ⟨hx, hb, hml, hown, hts⟩ (A_X11_ruleBy l ka0 h) (cwV 6 hts (gj_V ml_RX11_161 i_X11_ruleBy s_X11_ruleBy n_RX11 k_X11_ruleBy) rfl rfl rfl (by decide +kernel) ⟨by exact Nat.le_of_ble_eq_true rfl, by exact Nat.le_of_ble_eq_true rfl⟩) (j_preV hK hSX hG (ci := 10) rfl ka0 (by decide)) rfl rfl hl.1 rfl (lv_room (Nat.le_of_ble_eq_true rfl)) dX11_does_172 ⟨by exact Nat.le_of_ble_eq_true rfl, by exact Nat.le_of_ble_eq_true rfl⟩) hG (c2 := 0) (s2 := 0) ⟨by exact Nat.le_of_ble_eq_true rfl, by exact Nat.le_of_ble_eq_true rfl⟩ (fun z23 M24 h H locs hG => ?_)
            rw [hQf]
            exact j_ireti hx hb hr hlocks hG h (by decide) dX11_does_175
          · have h := h.2 c22
            exact jK17 h H locs hG ls (lv_sub hl [] rfl)
      · rcases em_eqI (a1) 3 with c2 | c2_3
        · refine j_tsw hx hb dX11_does_1 g1 (k := 3) (tgt := 176) c2 ⟨by decide, by decide, rfl⟩ (by decide) ?_
          have h := h.2.2.2.1 c2
          refine lv_aload_n hx hb dX11_does_176 rfl (lv_at hl 0 rfl) ?_
          refine lv_aload_n hx hb dX11_does_177 rfl (lv_at hl 0 rfl) ?_
          refine j_getr hx hb hts hown hK hG (k := a0) (fun w h => List.mem_cons_of_mem _ (u_X11 w h)) (ci := 10) rfl ka0 13 (k2 := a0 + 7) (by decide) (by show a0 + (7 : Int) = a0 + 7; omega) w_fl_RX11_32 dX11_does_178 ?_
          refine lv_iconst (v := J 0) hx hb dX11_does_181 (by decide) ?_
          refine j_iald hx hb hK hG (n := 8) (kf_11_13 ka0) (by decide) (by decide) dX11_does_182 ?_
          refine lv_aload_n hx hb dX11_does_183 rfl (lv_at hl 0 rfl) ?_
          refine j_getr hx hb hts hown hK hG (k := a0) (fun w h => List.mem_cons_of_mem _ (u_X11 w h)) (ci := 10) rfl ka0 13 (k2 := a0 + 7) (by decide) (by show a0 + (7 : Int) = a0 + 7; omega) w_fl_RX11_32 dX11_does_184 ?_
          refine lv_iconst (v := J 1) hx hb dX11_does_187 (by decide) ?_
          refine j_iald hx hb hK hG (n := 8) (kf_11_13 ka0) (by decide) (by decide) dX11_does_188 ?_
          refine j_conti (va_runV (As := [.int (J (M (a0 + 7) 0)), .int (J (M (a0 + 7) 1))]) (rest := []) ⟨hx, hb, hml, hown, hts⟩ (A_X11_dropBy l ka0 h) (cwV 2 hts (gj_V ml_RX11_165 i_X11_dropBy s_X11_dropBy n_RX11 k_X11_dropBy) rfl rfl rfl (by decide +kernel) ⟨by exact Nat.le_of_ble_eq_true rfl, by exact Nat.le_of_ble_eq_true rfl⟩) (j_preV hK hSX hG (ci := 10) rfl ka0 (by decide)) rfl rfl hl.1 rfl (lv_room (Nat.le_of_ble_eq_true rfl)) dX11_does_189 ⟨by exact Nat.le_of_ble_eq_true rfl, by exact Nat.le_of_ble_eq_true rfl⟩) hG (c2 := 0) (s2 := 0) ⟨by exact Nat.le_of_ble_eq_true rfl, by exact Nat.le_of_ble_eq_true rfl⟩ (fun z25 M26 h H locs hG => ?_)
          rw [hQf]
          exact j_ireti hx hb hr hlocks hG h (by decide) dX11_does_192
        · have c2 : a1 ≠ 0 ∧ a1 ≠ 1 ∧ a1 ≠ 2 ∧ a1 ≠ 3 := ⟨c2_0, c2_1, c2_2, c2_3⟩
          have h := h.2.2.2.2 c2
          refine j_tswd hx hb dX11_does_1 g1 (tgt := 193) (by omega) (by decide) ?_
          refine lv_aload_n hx hb dX11_does_193 rfl (lv_at hl 0 rfl) ?_
          refine lv_aload_n hx hb dX11_does_194 rfl (lv_at hl 0 rfl) ?_
          refine j_getr hx hb hts hown hK hG (k := a0) (fun w h => List.mem_cons_of_mem _ (u_X11 w h)) (ci := 10) rfl ka0 13 (k2 := a0 + 7) (by decide) (by show a0 + (7 : Int) = a0 + 7; omega) w_fl_RX11_32 dX11_does_195 ?_
          refine lv_iconst (v := J 0) hx hb dX11_does_198 (by decide) ?_
          refine j_iald hx hb hK hG (n := 8) (kf_11_13 ka0) (by decide) (by decide) dX11_does_199 ?_
          refine lv_aload_n hx hb dX11_does_200 rfl (lv_at hl 0 rfl) ?_
          refine j_getr hx hb hts hown hK hG (k := a0) (fun w h => List.mem_cons_of_mem _ (u_X11 w h)) (ci := 10) rfl ka0 13 (k2 := a0 + 7) (by decide) (by show a0 + (7 : Int) = a0 + 7; omega) w_fl_RX11_32 dX11_does_201 ?_
          refine lv_iconst (v := J 1) hx hb dX11_does_204 (by decide) ?_
          refine j_iald hx hb hK hG (n := 8) (kf_11_13 ka0) (by decide) (by decide) dX11_does_205 ?_
          refine j_conti (va_runV (As := [.int (J (M (a0 + 7) 0)), .int (J (M (a0 + 7) 1))]) (rest := []) ⟨hx, hb, hml, hown, hts⟩ (A_X11_cancelBy l ka0 h) (cwV 2 hts (gj_V ml_RX11_262 i_X11_cancelBy s_X11_cancelBy n_RX11 k_X11_cancelBy) rfl rfl rfl (by decide +kernel) ⟨by exact Nat.le_of_ble_eq_true rfl, by exact Nat.le_of_ble_eq_true rfl⟩) (j_preV hK hSX hG (ci := 10) rfl ka0 (by decide)) rfl rfl hl.1 rfl (lv_room (Nat.le_of_ble_eq_true rfl)) dX11_does_206 ⟨by exact Nat.le_of_ble_eq_true rfl, by exact Nat.le_of_ble_eq_true rfl⟩) hG (c2 := 0) (s2 := 0) ⟨by exact Nat.le_of_ble_eq_true rfl, by exact Nat.le_of_ble_eq_true rfl⟩ (fun z27 M28 h H locs hG => ?_)
          rw [hQf]
          exact j_ireti hx hb hr hlocks hG h (by decide) dX11_does_209

abbrev rm_X11_errorPosition : Room := { frames := 0, cells := 0, slots := 0, locals := 0 }
set_option maxRecDepth 100000 in
set_option maxHeartbeats 4000000 in
theorem A_X11_errorPosition (l : Launch) {D : va_G} {cy : Nat → ClassId} {o : Nat} {sK sV : Nat → Nat} {M : jT} {a0 : Int} (ka0 : kd a0 = 11) {Q : Int → jT → Prop} (h : wp_X11_errorPosition M a0 Q) : CoI l yX11_errorPosition (wj yX11_errorPosition cX11_errorPosition 1 (some .int)) rm_X11_errorPosition D cy o sK sV M [.ref (rA o a0)] Q := by
  refine j_ofW (cc := cX11_errorPosition) (maxL := 1) (ret := (some .int)) (by decide) rfl (Nat.le_of_ble_eq_true rfl) ?_
  intro p e s m args below meth c hx hb hr hlocks hml hown hts hK hSX H locs hG ls hl Qf hQf
  have hown : s.vm.findClass RX11 = some m.cls := hown
  have hl : lv_has ls 1 [(0, .ref (rA o a0))] := hl
  have w_fl_RX11_80 := hts _ (List.mem_cons_of_mem _ fl_RX11_80)
  have w_fl_RX11_25 := hts _ (List.mem_cons_of_mem _ fl_RX11_25)
  unfold wp_X11_errorPosition at h
  refine lv_aload_n hx hb dX11_errorPosition_0 rfl (lv_at hl 0 rfl) ?_
  refine lv_iconst (v := J 0) hx hb dX11_errorPosition_1 (by decide) ?_
  refine j_puti hx hb hts hown hK hG (k := a0) (fun w h => List.mem_cons_of_mem _ (u_X11 w h)) tyX11 tyX11_ok nmX11 (ci := 10) rfl ka0 0 (by decide) (jz := 0) rfl w_fl_RX11_80 (hd := rfl) (hn := rfl) (hfit := rfl) (hdg := dX11_errorPosition_2) (fun M1 eM1 H locs hG => ?_)
  have h := h M1 eM1
  refine lv_aload_n hx hb dX11_errorPosition_5 rfl (lv_at hl 0 rfl) ?_
  refine j_geti hx hb hts hown hK hG (k := a0) (fun w h => List.mem_cons_of_mem _ (u_X11 w h)) (ci := 10) rfl ka0 10 (by decide) (jz := 10) rfl w_fl_RX11_25 dX11_errorPosition_6 ?_
  rw [hQf]
  exact j_ireti hx hb hr hlocks hG h (by decide) dX11_errorPosition_9

abbrev rm_X11_character : Room := { frames := 1, cells := 0, slots := 0, locals := 22 }
set_option maxRecDepth 100000 in
set_option maxHeartbeats 4000000 in
theorem A_X11_character (l : Launch) {D : va_G} {cy : Nat → ClassId} {o : Nat} {sK sV : Nat → Nat} {M : jT} {a0 : Int} {a1 : Int} (ka0 : kd a0 = 11) {Q : Int → jT → Prop} (h : wp_X11_character M a0 a1 Q) : CoI l yX11_character (wj yX11_character cX11_character 2 (some .char)) rm_X11_character D cy o sK sV M [.ref (rA o a0), .int (J a1)] Q := by
  refine j_ofW (cc := cX11_character) (maxL := 2) (ret := (some .char)) (by decide) rfl (Nat.le_of_ble_eq_true rfl) ?_
  intro p e s m args below meth c hx hb hr hlocks hml hown hts hK hSX H locs hG ls hl Qf hQf
  have hown : s.vm.findClass RX11 = some m.cls := hown
  have hl : lv_has ls 2 [(0, .ref (rA o a0)), (1, .int (J a1))] := hl
  have w_fl_RX11_332 := hts _ (List.mem_cons_of_mem _ fl_RX11_332)
  have w_fl_RX11_80 := hts _ (List.mem_cons_of_mem _ fl_RX11_80)
  have w_fl_RX11_29 := hts _ (List.mem_cons_of_mem _ fl_RX11_29)
  unfold wp_X11_character at h
  refine lv_aload_n hx hb dX11_character_0 rfl (lv_at hl 0 rfl) ?_
  refine lv_iload_n hx hb dX11_character_1 rfl (lv_at hl 1 rfl) ?_
  refine lv_iconst (v := J 0) hx hb dX11_character_2 (by decide) ?_
  refine lv_aload_n hx hb dX11_character_3 rfl (lv_at hl 0 rfl) ?_
  refine j_geti hx hb hts hown hK hG (k := a0) (fun w h => List.mem_cons_of_mem _ (u_X11 w h)) (ci := 10) rfl ka0 12 (by decide) (jz := 12) rfl w_fl_RX11_332 dX11_character_4 ?_
  refine lv_iconst (v := J 1) hx hb dX11_character_7 (by decide) ?_
  refine j_isub hx hb dX11_character_8 ?_
  obtain ⟨g1, h⟩ := h
  refine j_conti (va_runS (As := [.int (J a1), .int (J 0), .int (J ((M a0 12) - 1))]) (rest := [.ref (rA o a0)]) ⟨hx, hb, hml, hown, hts⟩ (A_X11_in l g1) (va_cwS 3 hts (gj_S ml_RX11_106 i_X11_in n_RX11 k_X11_in) rfl rfl rfl (by decide +kernel) ⟨by exact Nat.le_of_ble_eq_true rfl, by exact Nat.le_of_ble_eq_true rfl⟩) (j_preS hK hSX hG) rfl rfl hl.1 rfl (lv_room (Nat.le_of_ble_eq_true rfl)) dX11_character_9 ⟨by exact Nat.le_of_ble_eq_true rfl, by exact Nat.le_of_ble_eq_true rfl⟩) hG (c2 := 0) (s2 := 0) ⟨by exact Nat.le_of_ble_eq_true rfl, by exact Nat.le_of_ble_eq_true rfl⟩ (fun z2 M3 ez2 H locs hG => ?_)
  obtain ⟨ez2, eM3⟩ := ez2
  subst ez2
  rw [eM3] at hG
  obtain ⟨hg, h⟩ := h
  have jK6 : ∀ x5 : Int, x5 = b2i (¬ (pb_X11_in a1 0 ((M a0 12) - 1))) → ∀ (H : Heap) (locs : List Loc), GM D cy o M s.heap H locs → ∀ ls : Array Slot, lv_has ls 2 [(0, .ref (rA o a0)), (1, .int (J a1))] → W p l e rm_X11_character s m args below meth c H locs 0 0 Qf (F0 m 20 ls [.int (J x5), .ref (rA o a0)]) := by
    intro x5 ex5 H locs hG ls hl
    subst ex5
    refine j_puti hx hb hts hown hK hG (k := a0) (fun w h => List.mem_cons_of_mem _ (u_X11 w h)) tyX11 tyX11_ok nmX11 (ci := 10) rfl ka0 0 (by decide) (jz := 0) rfl w_fl_RX11_80 (hd := rfl) (hn := rfl) (hfit := rfl) (hdg := dX11_character_20) (fun M8 eM8 H locs hG => ?_)
    have h := h M8 eM8
    refine lv_aload_n hx hb dX11_character_23 rfl (lv_at hl 0 rfl) ?_
    refine j_geti hx hb hts hown hK hG (k := a0) (fun w h => List.mem_cons_of_mem _ (u_X11 w h)) (ci := 10) rfl ka0 0 (by decide) (jz := 0) rfl w_fl_RX11_80 dX11_character_24 ?_
    obtain ⟨hg, h⟩ := h
    have jK14 : ∀ x13 : Int, (M8 a0 0 ≤ 0 → x13 = M8 (a0 + 6) a1) → (0 < M8 a0 0 → x13 = 0) → ∀ (H : Heap) (locs : List Loc), GM D cy o M8 s.heap H locs → ∀ ls : Array Slot, lv_has ls 2 [] → W p l e rm_X11_character s m args below meth c H locs 0 0 Qf (F0 m 41 ls [.int (J x13)]) := by
      intro x13 qx13_0 qx13_1 H locs hG ls hl
      have h := h x13 qx13_0 qx13_1
      obtain ⟨g19, h⟩ := h
      rw [hQf]
      exact j_iretn hx hb hr hlocks (nar_c g19) hG h (by decide) dX11_character_41
    have h := hg
    obtain ⟨g16, h⟩ := h
    refine j_if_le (tgt := 34) hx hb dX11_character_27 (by decide) g16 (fun c15 => ?_) (fun c15 => ?_)
    · have h := h.1 c15
      refine lv_aload_n hx hb dX11_character_34 rfl (lv_at hl 0 rfl) ?_
      refine j_getr hx hb hts hown hK hG (k := a0) (fun w h => List.mem_cons_of_mem _ (u_X11 w h)) (ci := 10) rfl ka0 11 (k2 := a0 + 6) (by decide) (by show a0 + (6 : Int) = a0 + 6; omega) w_fl_RX11_29 dX11_character_35 ?_
      refine lv_iload_n hx hb dX11_character_38 rfl (lv_at hl 1 rfl) ?_
      obtain ⟨g17, h⟩ := h
      refine j_iald hx hb hK hG (n := 60) (kf_11_11 ka0) (by decide) g17 dX11_character_39 ?_
      obtain ⟨g18, h⟩ := h
      refine j_i2c hx hb dX11_character_40 g18 ?_
      exact jK14 (M8 (a0 + 6) a1) (fun _ => rfl) (fun q => absurd q (by omega)) H locs hG ls (lv_sub hl [] rfl)
    · have h := h.2 c15
      refine lv_iconst (v := J 0) hx hb dX11_character_30 (by decide) ?_
      refine lv_goto (tgt := 41) hx hb dX11_character_31 (by decide) ?_
      exact jK14 0 (fun q => absurd q (by omega)) (fun _ => rfl) H locs hG ls (lv_sub hl [] rfl)
  have h := hg
  refine j_if_eq_b (tgt := 19) hx hb dX11_character_12 (by decide) (fun c7 => ?_) (fun c7 => ?_)
  · have h := h.1 c7
    refine lv_iconst (v := J 1) hx hb dX11_character_19 (by decide) ?_
    exact jK6 1 (b2i_iff1 (iff_of_true c7 trivial)) H locs hG ls (lv_sub hl [0, 1] rfl)
  · have h := h.2 c7
    refine lv_iconst (v := J 0) hx hb dX11_character_15 (by decide) ?_
    refine lv_goto (tgt := 20) hx hb dX11_character_16 (by decide) ?_
    exact jK6 0 (b2i_iff0 (iff_of_false (fun q9 => q9 c7) id)) H locs hG ls (lv_sub hl [0, 1] rfl)

abbrev rm_X11_undo : Room := { frames := 1, cells := 0, slots := 0, locals := 21 }
set_option maxRecDepth 100000 in
set_option maxHeartbeats 4000000 in
theorem A_X11_undo (l : Launch) {D : va_G} {cy : Nat → ClassId} {o : Nat} {sK sV : Nat → Nat} {M : jT} {a0 : Int} (ka0 : kd a0 = 11) {Q : Int → jT → Prop} (h : wp_X11_undo M a0 Q) : CoI l yX11_undo (wj yX11_undo cX11_undo 2 (some .int)) rm_X11_undo D cy o sK sV M [.ref (rA o a0)] Q := by
  refine j_ofW (cc := cX11_undo) (maxL := 2) (ret := (some .int)) (by decide) rfl (Nat.le_of_ble_eq_true rfl) ?_
  intro p e s m args below meth c hx hb hr hlocks hml hown hts hK hSX H locs hG ls hl Qf hQf
  have hown : s.vm.findClass RX11 = some m.cls := hown
  have hl : lv_has ls 2 [(0, .ref (rA o a0))] := hl
  have w_fl_RX11_80 := hts _ (List.mem_cons_of_mem _ fl_RX11_80)
  have w_fl_RX11_86 := hts _ (List.mem_cons_of_mem _ fl_RX11_86)
  have w_fl_RX11_35 := hts _ (List.mem_cons_of_mem _ fl_RX11_35)
  have w_fl_RX11_9 := hts _ (List.mem_cons_of_mem _ fl_RX11_9)
  have w_fl_RX11_13 := hts _ (List.mem_cons_of_mem _ fl_RX11_13)
  unfold wp_X11_undo at h
  refine lv_aload_n hx hb dX11_undo_0 rfl (lv_at hl 0 rfl) ?_
  refine lv_iconst (v := J 0) hx hb dX11_undo_1 (by decide) ?_
  refine j_puti hx hb hts hown hK hG (k := a0) (fun w h => List.mem_cons_of_mem _ (u_X11 w h)) tyX11 tyX11_ok nmX11 (ci := 10) rfl ka0 0 (by decide) (jz := 0) rfl w_fl_RX11_80 (hd := rfl) (hn := rfl) (hfit := rfl) (hdg := dX11_undo_2) (fun M1 eM1 H locs hG => ?_)
  have h := h M1 eM1
  refine lv_aload_n hx hb dX11_undo_5 rfl (lv_at hl 0 rfl) ?_
  refine j_geti hx hb hts hown hK hG (k := a0) (fun w h => List.mem_cons_of_mem _ (u_X11 w h)) (ci := 10) rfl ka0 3 (by decide) (jz := 3) rfl w_fl_RX11_86 dX11_undo_6 ?_
  obtain ⟨g3, h⟩ := h
  refine j_if_ne (tgt := 18) hx hb dX11_undo_9 (by decide) g3 (fun c2 => ?_) (fun c2 => ?_)
  · have h := h.1 c2
    refine lv_aload_n hx hb dX11_undo_18 rfl (lv_at hl 0 rfl) ?_
    refine lv_dup hx hb dX11_undo_19 rfl ?_
    refine j_geti hx hb hts hown hK hG (k := a0) (fun w h => List.mem_cons_of_mem _ (u_X11 w h)) (ci := 10) rfl ka0 3 (by decide) (jz := 3) rfl w_fl_RX11_86 dX11_undo_20 ?_
    refine lv_iconst (v := J 1) hx hb dX11_undo_23 (by decide) ?_
    refine j_isub hx hb dX11_undo_24 ?_
    refine j_puti hx hb hts hown hK hG (k := a0) (fun w h => List.mem_cons_of_mem _ (u_X11 w h)) tyX11 tyX11_ok nmX11 (ci := 10) rfl ka0 3 (by decide) (jz := 3) rfl w_fl_RX11_86 (hd := rfl) (hn := rfl) (hfit := rfl) (hdg := dX11_undo_25) (fun M4 eM4 H locs hG => ?_)
    have h := h M4 eM4
    refine lv_iconst (v := J 0) hx hb dX11_undo_28 (by decide) ?_
    refine lv_istore_n (lv' := [(1, .int (J 0)), (0, .ref (rA o a0))]) hx hb dX11_undo_29 rfl hl (by decide) rfl (fun ls hl => ?_)
    obtain ⟨I7, ⟨n8s, iI7⟩, qI7⟩ := h
    have lI7 : ∀ (n8 : Nat) (x5 : Int) (M6 : jT), I7 n8 x5 M6 → ∀ (H : Heap) (locs : List Loc), GM D cy o M6 s.heap H locs → ∀ ls : Array Slot, lv_has ls 2 [(0, .ref (rA o a0)), (1, .int (J x5))] → W p l e rm_X11_undo s m args below meth c H locs 0 0 Qf (F0 m 30 ls []) := by
      intro n8
      induction n8 using Nat.strongRecOn with
      | ind n8 rI7 =>
        intro x5 M6 iI7 H locs hG ls hl
        have h := qI7 n8 x5 M6 iI7
        refine lv_iload_n hx hb dX11_undo_30 rfl (lv_at hl 1 rfl) ?_
        refine lv_sipush (v := J 1294) hx hb dX11_undo_31 (by decide) ?_
        obtain ⟨g10, h⟩ := h
        refine j_icmp_ge (tgt := 64) hx hb dX11_undo_34 (by decide) g10 (by decide) (fun c9 => ?_) (fun c9 => ?_)
        · have h := h.1 c9
          refine lv_aload_n hx hb dX11_undo_64 rfl (lv_at hl 0 rfl) ?_
          refine lv_iconst (v := J (-1)) hx hb dX11_undo_65 (by decide) ?_
          refine j_puti hx hb hts hown hK hG (k := a0) (fun w h => List.mem_cons_of_mem _ (u_X11 w h)) tyX11 tyX11_ok nmX11 (ci := 10) rfl ka0 14 (by decide) (jz := 14) rfl w_fl_RX11_35 (hd := rfl) (hn := rfl) (hfit := rfl) (hdg := dX11_undo_66) (fun M11 eM11 H locs hG => ?_)
          have h := h M11 eM11
          refine lv_aload_n hx hb dX11_undo_69 rfl (lv_at hl 0 rfl) ?_
          refine j_geti hx hb hts hown hK hG (k := a0) (fun w h => List.mem_cons_of_mem _ (u_X11 w h)) (ci := 10) rfl ka0 3 (by decide) (jz := 3) rfl w_fl_RX11_86 dX11_undo_70 ?_
          rw [hQf]
          exact j_ireti hx hb hr hlocks hG h (by decide) dX11_undo_73
        · have h := h.2 c9
          refine lv_aload_n hx hb dX11_undo_37 rfl (lv_at hl 0 rfl) ?_
          refine j_getr hx hb hts hown hK hG (k := a0) (fun w h => List.mem_cons_of_mem _ (u_X11 w h)) (ci := 10) rfl ka0 1 (k2 := a0 + 1) (by decide) (by show a0 + (1 : Int) = a0 + 1; omega) w_fl_RX11_9 dX11_undo_38 ?_
          refine lv_iload_n hx hb dX11_undo_41 rfl (lv_at hl 1 rfl) ?_
          refine lv_aload_n hx hb dX11_undo_42 rfl (lv_at hl 0 rfl) ?_
          refine j_getr hx hb hts hown hK hG (k := a0) (fun w h => List.mem_cons_of_mem _ (u_X11 w h)) (ci := 10) rfl ka0 2 (k2 := a0 + 2) (by decide) (by show a0 + (2 : Int) = a0 + 2; omega) w_fl_RX11_13 dX11_undo_43 ?_
          refine lv_sipush (v := J 1294) hx hb dX11_undo_46 (by decide) ?_
          refine lv_aload_n hx hb dX11_undo_49 rfl (lv_at hl 0 rfl) ?_
          refine j_geti hx hb hts hown hK hG (k := a0) (fun w h => List.mem_cons_of_mem _ (u_X11 w h)) (ci := 10) rfl ka0 3 (by decide) (jz := 3) rfl w_fl_RX11_86 dX11_undo_50 ?_
          refine j_imul hx hb dX11_undo_53 ?_
          refine lv_iload_n hx hb dX11_undo_54 rfl (lv_at hl 1 rfl) ?_
          refine j_iadd hx hb dX11_undo_55 ?_
          obtain ⟨g12, h⟩ := h
          refine j_iald hx hb hK hG (n := 10352) (kf_11_2 ka0) (by decide) g12 dX11_undo_56 ?_
          obtain ⟨g13, h⟩ := h
          refine j_iast hx hb hK hG (n := 1294) (kf_11_1 ka0) (by decide) g13 dX11_undo_57 (fun M14 eM14 H locs hG => ?_)
          have h := h M14 eM14
          refine j_iinc hx hb dX11_undo_58 hl (k := 1) rfl (by decide) (fun x15 ex15 ls hl => ?_)
          have h := h x15 ex15
          have hl : lv_has ls 2 [(1, .int (J x15)), (0, .ref (rA o a0))] := hl
          refine lv_goto (tgt := 30) hx hb dX11_undo_61 (by decide) ?_
          obtain ⟨n16, ln16, iI7⟩ := h
          exact rI7 n16 ln16 x15 M14 iI7 H locs hG ls (lv_sub hl [1, 0] rfl)
    exact lI7 n8s 0 M4 iI7 H locs hG ls (lv_sub hl [1, 0] rfl)
  · have h := h.2 c2
    refine lv_aload_n hx hb dX11_undo_12 rfl (lv_at hl 0 rfl) ?_
    refine lv_iconst (v := J 1) hx hb dX11_undo_13 (by decide) ?_
    refine j_conti (va_runV (As := [.int (J 1)]) (rest := []) ⟨hx, hb, hml, hown, hts⟩ (A_X11_raises l ka0 h) (cwV 1 hts (gj_V ml_RX11_110 i_X11_raises s_X11_raises n_RX11 k_X11_raises) rfl rfl rfl (by decide +kernel) ⟨by exact Nat.le_of_ble_eq_true rfl, by exact Nat.le_of_ble_eq_true rfl⟩) (j_preV hK hSX hG (ci := 10) rfl ka0 (by decide)) rfl rfl hl.1 rfl (lv_room (Nat.le_of_ble_eq_true rfl)) dX11_undo_14 ⟨by exact Nat.le_of_ble_eq_true rfl, by exact Nat.le_of_ble_eq_true rfl⟩) hG (c2 := 0) (s2 := 0) ⟨by exact Nat.le_of_ble_eq_true rfl, by exact Nat.le_of_ble_eq_true rfl⟩ (fun z17 M18 h H locs hG => ?_)
    rw [hQf]
    exact j_ireti hx hb hr hlocks hG h (by decide) dX11_undo_17

abbrev rm_X11_save : Room := { frames := 0, cells := 0, slots := 0, locals := 0 }
set_option maxRecDepth 100000 in
set_option maxHeartbeats 4000000 in
theorem A_X11_save (l : Launch) {D : va_G} {cy : Nat → ClassId} {o : Nat} {sK sV : Nat → Nat} {M : jT} {a0 : Int} (ka0 : kd a0 = 11) {Q : Int → jT → Prop} (h : wp_X11_save M a0 Q) : CoI l yX11_save (wj yX11_save cX11_save 2 (some .int)) rm_X11_save D cy o sK sV M [.ref (rA o a0)] Q := by
  refine j_ofW (cc := cX11_save) (maxL := 2) (ret := (some .int)) (by decide) rfl (Nat.le_of_ble_eq_true rfl) ?_
  intro p e s m args below meth c hx hb hr hlocks hml hown hts hK hSX H locs hG ls hl Qf hQf
  have hown : s.vm.findClass RX11 = some m.cls := hown
  have hl : lv_has ls 2 [(0, .ref (rA o a0))] := hl
  have w_fl_RX11_80 := hts _ (List.mem_cons_of_mem _ fl_RX11_80)
  have w_fl_RX11_335 := hts _ (List.mem_cons_of_mem _ fl_RX11_335)
  have w_fl_RX11_9 := hts _ (List.mem_cons_of_mem _ fl_RX11_9)
  have w_fl_RX11_16 := hts _ (List.mem_cons_of_mem _ fl_RX11_16)
  unfold wp_X11_save at h
  refine lv_aload_n hx hb dX11_save_0 rfl (lv_at hl 0 rfl) ?_
  refine lv_iconst (v := J 0) hx hb dX11_save_1 (by decide) ?_
  refine j_puti hx hb hts hown hK hG (k := a0) (fun w h => List.mem_cons_of_mem _ (u_X11 w h)) tyX11 tyX11_ok nmX11 (ci := 10) rfl ka0 0 (by decide) (jz := 0) rfl w_fl_RX11_80 (hd := rfl) (hn := rfl) (hfit := rfl) (hdg := dX11_save_2) (fun M1 eM1 H locs hG => ?_)
  have h := h M1 eM1
  refine lv_aload_n hx hb dX11_save_5 rfl (lv_at hl 0 rfl) ?_
  refine lv_iconst (v := J 1) hx hb dX11_save_6 (by decide) ?_
  refine j_puti hx hb hts hown hK hG (k := a0) (fun w h => List.mem_cons_of_mem _ (u_X11 w h)) tyX11 tyX11_ok nmX11 (ci := 10) rfl ka0 5 (by decide) (jz := 5) rfl w_fl_RX11_335 (hd := rfl) (hn := nar_b (by decide)) (hfit := fit_b (by decide)) (hdg := dX11_save_7) (fun M2 eM2 H locs hG => ?_)
  have h := h M2 eM2
  refine lv_iconst (v := J 0) hx hb dX11_save_10 (by decide) ?_
  refine lv_istore_n (lv' := [(1, .int (J 0)), (0, .ref (rA o a0))]) hx hb dX11_save_11 rfl hl (by decide) rfl (fun ls hl => ?_)
  obtain ⟨I5, ⟨n6s, iI5⟩, qI5⟩ := h
  have lI5 : ∀ (n6 : Nat) (x3 : Int) (M4 : jT), I5 n6 x3 M4 → ∀ (H : Heap) (locs : List Loc), GM D cy o M4 s.heap H locs → ∀ ls : Array Slot, lv_has ls 2 [(0, .ref (rA o a0)), (1, .int (J x3))] → W p l e rm_X11_save s m args below meth c H locs 0 0 Qf (F0 m 12 ls []) := by
    intro n6
    induction n6 using Nat.strongRecOn with
    | ind n6 rI5 =>
      intro x3 M4 iI5 H locs hG ls hl
      have h := qI5 n6 x3 M4 iI5
      refine lv_iload_n hx hb dX11_save_12 rfl (lv_at hl 1 rfl) ?_
      refine lv_sipush (v := J 1294) hx hb dX11_save_13 (by decide) ?_
      obtain ⟨g8, h⟩ := h
      refine j_icmp_ge (tgt := 37) hx hb dX11_save_16 (by decide) g8 (by decide) (fun c7 => ?_) (fun c7 => ?_)
      · have h := h.1 c7
        refine lv_aload_n hx hb dX11_save_37 rfl (lv_at hl 0 rfl) ?_
        refine j_getr hx hb hts hown hK hG (k := a0) (fun w h => List.mem_cons_of_mem _ (u_X11 w h)) (ci := 10) rfl ka0 1 (k2 := a0 + 1) (by decide) (by show a0 + (1 : Int) = a0 + 1; omega) w_fl_RX11_9 dX11_save_38 ?_
        refine lv_iconst (v := J 0) hx hb dX11_save_41 (by decide) ?_
        refine j_iald hx hb hK hG (n := 1294) (kf_11_1 ka0) (by decide) (by decide) dX11_save_42 ?_
        rw [hQf]
        exact j_ireti hx hb hr hlocks hG h (by decide) dX11_save_43
      · have h := h.2 c7
        refine lv_aload_n hx hb dX11_save_19 rfl (lv_at hl 0 rfl) ?_
        refine j_getr hx hb hts hown hK hG (k := a0) (fun w h => List.mem_cons_of_mem _ (u_X11 w h)) (ci := 10) rfl ka0 4 (k2 := a0 + 3) (by decide) (by show a0 + (3 : Int) = a0 + 3; omega) w_fl_RX11_16 dX11_save_20 ?_
        refine lv_iload_n hx hb dX11_save_23 rfl (lv_at hl 1 rfl) ?_
        refine lv_aload_n hx hb dX11_save_24 rfl (lv_at hl 0 rfl) ?_
        refine j_getr hx hb hts hown hK hG (k := a0) (fun w h => List.mem_cons_of_mem _ (u_X11 w h)) (ci := 10) rfl ka0 1 (k2 := a0 + 1) (by decide) (by show a0 + (1 : Int) = a0 + 1; omega) w_fl_RX11_9 dX11_save_25 ?_
        refine lv_iload_n hx hb dX11_save_28 rfl (lv_at hl 1 rfl) ?_
        obtain ⟨g9, h⟩ := h
        refine j_iald hx hb hK hG (n := 1294) (kf_11_1 ka0) (by decide) g9 dX11_save_29 ?_
        refine j_iast hx hb hK hG (n := 1294) (kf_11_4 ka0) (by decide) g9 dX11_save_30 (fun M10 eM10 H locs hG => ?_)
        have h := h M10 eM10
        refine j_iinc hx hb dX11_save_31 hl (k := 1) rfl (by decide) (fun x11 ex11 ls hl => ?_)
        have h := h x11 ex11
        have hl : lv_has ls 2 [(1, .int (J x11)), (0, .ref (rA o a0))] := hl
        refine lv_goto (tgt := 12) hx hb dX11_save_34 (by decide) ?_
        obtain ⟨n12, ln12, iI5⟩ := h
        exact rI5 n12 ln12 x11 M10 iI5 H locs hG ls (lv_sub hl [1, 0] rfl)
  exact lI5 n6s 0 M2 iI5 H locs hG ls (lv_sub hl [1, 0] rfl)

abbrev rm_X11_restore : Room := { frames := 1, cells := 0, slots := 0, locals := 21 }
set_option maxRecDepth 100000 in
set_option maxHeartbeats 4000000 in
theorem A_X11_restore (l : Launch) {D : va_G} {cy : Nat → ClassId} {o : Nat} {sK sV : Nat → Nat} {M : jT} {a0 : Int} (ka0 : kd a0 = 11) {Q : Int → jT → Prop} (h : wp_X11_restore M a0 Q) : CoI l yX11_restore (wj yX11_restore cX11_restore 2 (some .int)) rm_X11_restore D cy o sK sV M [.ref (rA o a0)] Q := by
  refine j_ofW (cc := cX11_restore) (maxL := 2) (ret := (some .int)) (by decide) rfl (Nat.le_of_ble_eq_true rfl) ?_
  intro p e s m args below meth c hx hb hr hlocks hml hown hts hK hSX H locs hG ls hl Qf hQf
  have hown : s.vm.findClass RX11 = some m.cls := hown
  have hl : lv_has ls 2 [(0, .ref (rA o a0))] := hl
  have w_fl_RX11_80 := hts _ (List.mem_cons_of_mem _ fl_RX11_80)
  have w_fl_RX11_335 := hts _ (List.mem_cons_of_mem _ fl_RX11_335)
  have w_fl_RX11_86 := hts _ (List.mem_cons_of_mem _ fl_RX11_86)
  have w_fl_RX11_35 := hts _ (List.mem_cons_of_mem _ fl_RX11_35)
  have w_fl_RX11_9 := hts _ (List.mem_cons_of_mem _ fl_RX11_9)
  have w_fl_RX11_16 := hts _ (List.mem_cons_of_mem _ fl_RX11_16)
  unfold wp_X11_restore at h
  refine lv_aload_n hx hb dX11_restore_0 rfl (lv_at hl 0 rfl) ?_
  refine lv_iconst (v := J 0) hx hb dX11_restore_1 (by decide) ?_
  refine j_puti hx hb hts hown hK hG (k := a0) (fun w h => List.mem_cons_of_mem _ (u_X11 w h)) tyX11 tyX11_ok nmX11 (ci := 10) rfl ka0 0 (by decide) (jz := 0) rfl w_fl_RX11_80 (hd := rfl) (hn := rfl) (hfit := rfl) (hdg := dX11_restore_2) (fun M1 eM1 H locs hG => ?_)
  have h := h M1 eM1
  refine lv_aload_n hx hb dX11_restore_5 rfl (lv_at hl 0 rfl) ?_
  refine j_geti hx hb hts hown hK hG (k := a0) (fun w h => List.mem_cons_of_mem _ (u_X11 w h)) (ci := 10) rfl ka0 5 (by decide) (jz := 5) rfl w_fl_RX11_335 dX11_restore_6 ?_
  obtain ⟨g3, h⟩ := h
  refine j_if_ne (tgt := 18) hx hb dX11_restore_9 (by decide) g3 (fun c2 => ?_) (fun c2 => ?_)
  · have h := h.1 c2
    refine lv_iconst (v := J 0) hx hb dX11_restore_18 (by decide) ?_
    refine lv_istore_n (lv' := [(1, .int (J 0)), (0, .ref (rA o a0))]) hx hb dX11_restore_19 rfl hl (by decide) rfl (fun ls hl => ?_)
    obtain ⟨I6, ⟨n7s, iI6⟩, qI6⟩ := h
    have lI6 : ∀ (n7 : Nat) (x4 : Int) (M5 : jT), I6 n7 x4 M5 → ∀ (H : Heap) (locs : List Loc), GM D cy o M5 s.heap H locs → ∀ ls : Array Slot, lv_has ls 2 [(0, .ref (rA o a0)), (1, .int (J x4))] → W p l e rm_X11_restore s m args below meth c H locs 0 0 Qf (F0 m 20 ls []) := by
      intro n7
      induction n7 using Nat.strongRecOn with
      | ind n7 rI6 =>
        intro x4 M5 iI6 H locs hG ls hl
        have h := qI6 n7 x4 M5 iI6
        refine lv_iload_n hx hb dX11_restore_20 rfl (lv_at hl 1 rfl) ?_
        refine lv_sipush (v := J 1294) hx hb dX11_restore_21 (by decide) ?_
        obtain ⟨g9, h⟩ := h
        refine j_icmp_ge (tgt := 45) hx hb dX11_restore_24 (by decide) g9 (by decide) (fun c8 => ?_) (fun c8 => ?_)
        · have h := h.1 c8
          refine lv_aload_n hx hb dX11_restore_45 rfl (lv_at hl 0 rfl) ?_
          refine lv_iconst (v := J 0) hx hb dX11_restore_46 (by decide) ?_
          refine j_puti hx hb hts hown hK hG (k := a0) (fun w h => List.mem_cons_of_mem _ (u_X11 w h)) tyX11 tyX11_ok nmX11 (ci := 10) rfl ka0 3 (by decide) (jz := 3) rfl w_fl_RX11_86 (hd := rfl) (hn := rfl) (hfit := rfl) (hdg := dX11_restore_47) (fun M10 eM10 H locs hG => ?_)
          have h := h M10 eM10
          refine lv_aload_n hx hb dX11_restore_50 rfl (lv_at hl 0 rfl) ?_
          refine lv_iconst (v := J (-1)) hx hb dX11_restore_51 (by decide) ?_
          refine j_puti hx hb hts hown hK hG (k := a0) (fun w h => List.mem_cons_of_mem _ (u_X11 w h)) tyX11 tyX11_ok nmX11 (ci := 10) rfl ka0 14 (by decide) (jz := 14) rfl w_fl_RX11_35 (hd := rfl) (hn := rfl) (hfit := rfl) (hdg := dX11_restore_52) (fun M11 eM11 H locs hG => ?_)
          have h := h M11 eM11
          refine lv_aload_n hx hb dX11_restore_55 rfl (lv_at hl 0 rfl) ?_
          refine j_getr hx hb hts hown hK hG (k := a0) (fun w h => List.mem_cons_of_mem _ (u_X11 w h)) (ci := 10) rfl ka0 1 (k2 := a0 + 1) (by decide) (by show a0 + (1 : Int) = a0 + 1; omega) w_fl_RX11_9 dX11_restore_56 ?_
          refine lv_iconst (v := J 0) hx hb dX11_restore_59 (by decide) ?_
          refine j_iald hx hb hK hG (n := 1294) (kf_11_1 ka0) (by decide) (by decide) dX11_restore_60 ?_
          rw [hQf]
          exact j_ireti hx hb hr hlocks hG h (by decide) dX11_restore_61
        · have h := h.2 c8
          refine lv_aload_n hx hb dX11_restore_27 rfl (lv_at hl 0 rfl) ?_
          refine j_getr hx hb hts hown hK hG (k := a0) (fun w h => List.mem_cons_of_mem _ (u_X11 w h)) (ci := 10) rfl ka0 1 (k2 := a0 + 1) (by decide) (by show a0 + (1 : Int) = a0 + 1; omega) w_fl_RX11_9 dX11_restore_28 ?_
          refine lv_iload_n hx hb dX11_restore_31 rfl (lv_at hl 1 rfl) ?_
          refine lv_aload_n hx hb dX11_restore_32 rfl (lv_at hl 0 rfl) ?_
          refine j_getr hx hb hts hown hK hG (k := a0) (fun w h => List.mem_cons_of_mem _ (u_X11 w h)) (ci := 10) rfl ka0 4 (k2 := a0 + 3) (by decide) (by show a0 + (3 : Int) = a0 + 3; omega) w_fl_RX11_16 dX11_restore_33 ?_
          refine lv_iload_n hx hb dX11_restore_36 rfl (lv_at hl 1 rfl) ?_
          obtain ⟨g12, h⟩ := h
          refine j_iald hx hb hK hG (n := 1294) (kf_11_4 ka0) (by decide) g12 dX11_restore_37 ?_
          refine j_iast hx hb hK hG (n := 1294) (kf_11_1 ka0) (by decide) g12 dX11_restore_38 (fun M13 eM13 H locs hG => ?_)
          have h := h M13 eM13
          refine j_iinc hx hb dX11_restore_39 hl (k := 1) rfl (by decide) (fun x14 ex14 ls hl => ?_)
          have h := h x14 ex14
          have hl : lv_has ls 2 [(1, .int (J x14)), (0, .ref (rA o a0))] := hl
          refine lv_goto (tgt := 20) hx hb dX11_restore_42 (by decide) ?_
          obtain ⟨n15, ln15, iI6⟩ := h
          exact rI6 n15 ln15 x14 M13 iI6 H locs hG ls (lv_sub hl [1, 0] rfl)
    exact lI6 n7s 0 M1 iI6 H locs hG ls (lv_sub hl [1, 0] rfl)
  · have h := h.2 c2
    refine lv_aload_n hx hb dX11_restore_12 rfl (lv_at hl 0 rfl) ?_
    refine lv_iconst (v := J 1) hx hb dX11_restore_13 (by decide) ?_
    refine j_conti (va_runV (As := [.int (J 1)]) (rest := []) ⟨hx, hb, hml, hown, hts⟩ (A_X11_raises l ka0 h) (cwV 1 hts (gj_V ml_RX11_110 i_X11_raises s_X11_raises n_RX11 k_X11_raises) rfl rfl rfl (by decide +kernel) ⟨by exact Nat.le_of_ble_eq_true rfl, by exact Nat.le_of_ble_eq_true rfl⟩) (j_preV hK hSX hG (ci := 10) rfl ka0 (by decide)) rfl rfl hl.1 rfl (lv_room (Nat.le_of_ble_eq_true rfl)) dX11_restore_14 ⟨by exact Nat.le_of_ble_eq_true rfl, by exact Nat.le_of_ble_eq_true rfl⟩) hG (c2 := 0) (s2 := 0) ⟨by exact Nat.le_of_ble_eq_true rfl, by exact Nat.le_of_ble_eq_true rfl⟩ (fun z16 M17 h H locs hG => ?_)
    rw [hQf]
    exact j_ireti hx hb hr hlocks hG h (by decide) dX11_restore_17

abbrev rm_X11_count : Room := { frames := 10, cells := 0, slots := 0, locals := 240 }
set_option maxRecDepth 100000 in
set_option maxHeartbeats 4000000 in
theorem A_X11_count (l : Launch) {D : va_G} {cy : Nat → ClassId} {o : Nat} {sK sV : Nat → Nat} {M : jT} {a0 : Int} {a1 : Int} (ka0 : kd a0 = 11) {Q : Int → jT → Prop} (h : wp_X11_count M a0 a1 Q) : CoI l yX11_count (wj yX11_count cX11_count 4 (some .int)) rm_X11_count D cy o sK sV M [.ref (rA o a0), .int (J a1)] Q := by
  refine j_ofW (cc := cX11_count) (maxL := 4) (ret := (some .int)) (by decide) rfl (Nat.le_of_ble_eq_true rfl) ?_
  intro p e s m args below meth c hx hb hr hlocks hml hown hts hK hSX H locs hG ls hl Qf hQf
  have hown : s.vm.findClass RX11 = some m.cls := hown
  have hl : lv_has ls 4 [(0, .ref (rA o a0)), (1, .int (J a1))] := hl
  have w_fl_RX11_80 := hts _ (List.mem_cons_of_mem _ fl_RX11_80)
  have w_fl_RX11_9 := hts _ (List.mem_cons_of_mem _ fl_RX11_9)
  have w_fl_RX11_244 := hts _ (List.mem_cons_of_mem _ fl_RX11_244)
  have w_fl_RX11_86 := hts _ (List.mem_cons_of_mem _ fl_RX11_86)
  have w_fl_RX11_283 := hts _ (List.mem_cons_of_mem _ fl_RX11_283)
  unfold wp_X11_count at h
  refine lv_aload_n hx hb dX11_count_0 rfl (lv_at hl 0 rfl) ?_
  refine lv_iconst (v := J 0) hx hb dX11_count_1 (by decide) ?_
  refine j_puti hx hb hts hown hK hG (k := a0) (fun w h => List.mem_cons_of_mem _ (u_X11 w h)) tyX11 tyX11_ok nmX11 (ci := 10) rfl ka0 0 (by decide) (jz := 0) rfl w_fl_RX11_80 (hd := rfl) (hn := rfl) (hfit := rfl) (hdg := dX11_count_2) (fun M1 eM1 H locs hG => ?_)
  have h := h M1 eM1
  refine lv_iconst (v := J 0) hx hb dX11_count_5 (by decide) ?_
  refine lv_istore_n (lv' := [(2, .int (J 0)), (0, .ref (rA o a0)), (1, .int (J a1))]) hx hb dX11_count_6 rfl hl (by decide) rfl (fun ls hl => ?_)
  refine lv_iload_n hx hb dX11_count_7 rfl (lv_at hl 2 rfl) ?_
  obtain ⟨g2, h⟩ := h
  rcases em_eqI (a1) 0 with c3 | c3_0
  · refine j_tsw hx hb dX11_count_8 g2 (k := 0) (tgt := 48) c3 ⟨by decide, by decide, rfl⟩ (by decide) ?_
    have h := h.1 c3
    refine lv_aload_n hx hb dX11_count_48 rfl (lv_at hl 1 rfl) ?_
    refine j_getr hx hb hts hown hK hG (k := a0) (fun w h => List.mem_cons_of_mem _ (u_X11 w h)) (ci := 10) rfl ka0 1 (k2 := a0 + 1) (by decide) (by show a0 + (1 : Int) = a0 + 1; omega) w_fl_RX11_9 dX11_count_49 ?_
    refine lv_iload_n hx hb dX11_count_52 rfl (lv_at hl 2 rfl) ?_
    obtain ⟨g4, h⟩ := h
    refine j_iald hx hb hK hG (n := 1294) (kf_11_1 ka0) (by decide) g4 dX11_count_53 ?_
    rw [hQf]
    exact j_ireti hx hb hr hlocks hG h (by decide) dX11_count_54
  · rcases em_eqI (a1) 1 with c3 | c3_1
    · refine j_tsw hx hb dX11_count_8 g2 (k := 1) (tgt := 48) c3 ⟨by decide, by decide, rfl⟩ (by decide) ?_
      have h := h.2.1 c3
      refine lv_aload_n hx hb dX11_count_48 rfl (lv_at hl 1 rfl) ?_
      refine j_getr hx hb hts hown hK hG (k := a0) (fun w h => List.mem_cons_of_mem _ (u_X11 w h)) (ci := 10) rfl ka0 1 (k2 := a0 + 1) (by decide) (by show a0 + (1 : Int) = a0 + 1; omega) w_fl_RX11_9 dX11_count_49 ?_
      refine lv_iload_n hx hb dX11_count_52 rfl (lv_at hl 2 rfl) ?_
      obtain ⟨g5, h⟩ := h
      refine j_iald hx hb hK hG (n := 1294) (kf_11_1 ka0) (by decide) g5 dX11_count_53 ?_
      rw [hQf]
      exact j_ireti hx hb hr hlocks hG h (by decide) dX11_count_54
    · rcases em_eqI (a1) 2 with c3 | c3_2
      · refine j_tsw hx hb dX11_count_8 g2 (k := 2) (tgt := 55) c3 ⟨by decide, by decide, rfl⟩ (by decide) ?_
        have h := h.2.2.1 c3
        refine lv_iconst (v := J 0) hx hb dX11_count_55 (by decide) ?_
        refine lv_istore_n (lv' := [(3, .int (J 0)), (2, .int (J 0)), (0, .ref (rA o a0)), (1, .int (J a1))]) hx hb dX11_count_56 rfl hl (by decide) rfl (fun ls hl => ?_)
        obtain ⟨I9, ⟨n10s, iI9⟩, qI9⟩ := h
        have lI9 : ∀ (n10 : Nat) (x6 : Int) (x7 : Int) (M8 : jT), I9 n10 x6 x7 M8 → ∀ (H : Heap) (locs : List Loc), GM D cy o M8 s.heap H locs → ∀ ls : Array Slot, lv_has ls 4 [(0, .ref (rA o a0)), (2, .int (J x6)), (3, .int (J x7))] → W p l e rm_X11_count s m args below meth c H locs 0 0 Qf (F0 m 57 ls []) := by
          intro n10
          induction n10 using Nat.strongRecOn with
          | ind n10 rI9 =>
            intro x6 x7 M8 iI9 H locs hG ls hl
            have h := qI9 n10 x6 x7 M8 iI9
            refine lv_iload_n hx hb dX11_count_57 rfl (lv_at hl 2 rfl) ?_
            refine lv_aload_n hx hb dX11_count_58 rfl (lv_at hl 0 rfl) ?_
            refine j_getr hx hb hts hown hK hG (k := a0) (fun w h => List.mem_cons_of_mem _ (u_X11 w h)) (ci := 10) rfl ka0 1 (k2 := a0 + 1) (by decide) (by show a0 + (1 : Int) = a0 + 1; omega) w_fl_RX11_9 dX11_count_59 ?_
            refine lv_iconst (v := J 1) hx hb dX11_count_62 (by decide) ?_
            refine j_iald hx hb hK hG (n := 1294) (kf_11_1 ka0) (by decide) (by decide) dX11_count_63 ?_
            obtain ⟨g12, h⟩ := h
            obtain ⟨g13, h⟩ := h
            refine j_icmp_ge (tgt := 85) hx hb dX11_count_64 (by decide) g12 g13 (fun c11 => ?_) (fun c11 => ?_)
            · have h := h.1 c11
              refine lv_iload_n hx hb dX11_count_85 rfl (lv_at hl 1 rfl) ?_
              rw [hQf]
              exact j_ireti hx hb hr hlocks hG h (by decide) dX11_count_86
            · have h := h.2 c11
              refine lv_aload_n hx hb dX11_count_67 rfl (lv_at hl 0 rfl) ?_
              refine lv_iload_n hx hb dX11_count_68 rfl (lv_at hl 2 rfl) ?_
              refine j_contv (va_runV (As := [.int (J x7)]) (rest := []) ⟨hx, hb, hml, hown, hts⟩ (A_X11_lists l ka0 h) (cwV 1 hts (gj_V ml_RX11_241 i_X11_lists s_X11_lists n_RX11 k_X11_lists) rfl rfl rfl (by decide +kernel) ⟨by exact Nat.le_of_ble_eq_true rfl, by exact Nat.le_of_ble_eq_true rfl⟩) (j_preV hK hSX hG (ci := 10) rfl ka0 (by decide)) rfl rfl hl.1 rfl (lv_room (Nat.le_of_ble_eq_true rfl)) dX11_count_69 ⟨by exact Nat.le_of_ble_eq_true rfl, by exact Nat.le_of_ble_eq_true rfl⟩) hG (c2 := 0) (s2 := 0) ⟨by exact Nat.le_of_ble_eq_true rfl, by exact Nat.le_of_ble_eq_true rfl⟩ (fun M15 h H locs hG => ?_)
              refine lv_iload_n hx hb dX11_count_72 rfl (lv_at hl 1 rfl) ?_
              refine lv_aload_n hx hb dX11_count_73 rfl (lv_at hl 0 rfl) ?_
              refine j_geti hx hb hts hown hK hG (k := a0) (fun w h => List.mem_cons_of_mem _ (u_X11 w h)) (ci := 10) rfl ka0 33 (by decide) (jz := 33) rfl w_fl_RX11_244 dX11_count_74 ?_
              refine j_iadd hx hb dX11_count_77 ?_
              refine j_topi (fun x16 ex16 => ?_)
              have h := h x16 ex16
              refine lv_istore_n (lv' := [(2, .int (J x16)), (0, .ref (rA o a0)), (3, .int (J x7))]) hx hb dX11_count_78 rfl hl (by decide) rfl (fun ls hl => ?_)
              refine j_iinc hx hb dX11_count_79 hl (k := 2) rfl (by decide) (fun x17 ex17 ls hl => ?_)
              have h := h x17 ex17
              have hl : lv_has ls 4 [(3, .int (J x17)), (2, .int (J x16)), (0, .ref (rA o a0))] := hl
              refine lv_goto (tgt := 57) hx hb dX11_count_82 (by decide) ?_
              obtain ⟨n18, ln18, iI9⟩ := h
              exact rI9 n18 ln18 x16 x17 M15 iI9 H locs hG ls (lv_sub hl [2, 1, 0] rfl)
        exact lI9 n10s 0 0 M1 iI9 H locs hG ls (lv_sub hl [2, 1, 0] rfl)
      · rcases em_eqI (a1) 3 with c3 | c3_3
        · refine j_tsw hx hb dX11_count_8 g2 (k := 3) (tgt := 87) c3 ⟨by decide, by decide, rfl⟩ (by decide) ?_
          have h := h.2.2.2.1 c3
          refine lv_iconst (v := J 0) hx hb dX11_count_87 (by decide) ?_
          refine lv_istore_n (lv' := [(3, .int (J 0)), (2, .int (J 0)), (0, .ref (rA o a0)), (1, .int (J a1))]) hx hb dX11_count_88 rfl hl (by decide) rfl (fun ls hl => ?_)
          obtain ⟨I22, ⟨n23s, iI22⟩, qI22⟩ := h
          have lI22 : ∀ (n23 : Nat) (x19 : Int) (x20 : Int) (M21 : jT), I22 n23 x19 x20 M21 → ∀ (H : Heap) (locs : List Loc), GM D cy o M21 s.heap H locs → ∀ ls : Array Slot, lv_has ls 4 [(0, .ref (rA o a0)), (2, .int (J x19)), (3, .int (J x20))] → W p l e rm_X11_count s m args below meth c H locs 0 0 Qf (F0 m 89 ls []) := by
            intro n23
            induction n23 using Nat.strongRecOn with
            | ind n23 rI22 =>
              intro x19 x20 M21 iI22 H locs hG ls hl
              have h := qI22 n23 x19 x20 M21 iI22
              refine lv_iload_n hx hb dX11_count_89 rfl (lv_at hl 2 rfl) ?_
              refine lv_aload_n hx hb dX11_count_90 rfl (lv_at hl 0 rfl) ?_
              refine j_getr hx hb hts hown hK hG (k := a0) (fun w h => List.mem_cons_of_mem _ (u_X11 w h)) (ci := 10) rfl ka0 1 (k2 := a0 + 1) (by decide) (by show a0 + (1 : Int) = a0 + 1; omega) w_fl_RX11_9 dX11_count_91 ?_
              refine lv_iconst (v := J 1) hx hb dX11_count_94 (by decide) ?_
              refine j_iald hx hb hK hG (n := 1294) (kf_11_1 ka0) (by decide) (by decide) dX11_count_95 ?_
              obtain ⟨g25, h⟩ := h
              obtain ⟨g26, h⟩ := h
              refine j_icmp_ge (tgt := 113) hx hb dX11_count_96 (by decide) g25 g26 (fun c24 => ?_) (fun c24 => ?_)
              · have h := h.1 c24
                refine lv_iload_n hx hb dX11_count_113 rfl (lv_at hl 1 rfl) ?_
                rw [hQf]
                exact j_ireti hx hb hr hlocks hG h (by decide) dX11_count_114
              · have h := h.2 c24
                refine lv_iload_n hx hb dX11_count_99 rfl (lv_at hl 1 rfl) ?_
                refine lv_aload_n hx hb dX11_count_100 rfl (lv_at hl 0 rfl) ?_
                refine lv_iload_n hx hb dX11_count_101 rfl (lv_at hl 2 rfl) ?_
                refine j_conti (va_runV (As := [.int (J x20)]) (rest := [.int (J x19)]) ⟨hx, hb, hml, hown, hts⟩ (A_X11_placed l ka0 h) (cwV 1 hts (gj_V ml_RX11_265 i_X11_placed s_X11_placed n_RX11 k_X11_placed) rfl rfl rfl (by decide +kernel) ⟨by exact Nat.le_of_ble_eq_true rfl, by exact Nat.le_of_ble_eq_true rfl⟩) (j_preV hK hSX hG (ci := 10) rfl ka0 (by decide)) rfl rfl hl.1 rfl (lv_room (Nat.le_of_ble_eq_true rfl)) dX11_count_102 ⟨by exact Nat.le_of_ble_eq_true rfl, by exact Nat.le_of_ble_eq_true rfl⟩) hG (c2 := 0) (s2 := 0) ⟨by exact Nat.le_of_ble_eq_true rfl, by exact Nat.le_of_ble_eq_true rfl⟩ (fun z27 M28 h H locs hG => ?_)
                refine j_iadd hx hb dX11_count_105 ?_
                refine j_topi (fun x29 ex29 => ?_)
                have h := h x29 ex29
                refine lv_istore_n (lv' := [(2, .int (J x29)), (0, .ref (rA o a0)), (3, .int (J x20))]) hx hb dX11_count_106 rfl hl (by decide) rfl (fun ls hl => ?_)
                refine j_iinc hx hb dX11_count_107 hl (k := 2) rfl (by decide) (fun x30 ex30 ls hl => ?_)
                have h := h x30 ex30
                have hl : lv_has ls 4 [(3, .int (J x30)), (2, .int (J x29)), (0, .ref (rA o a0))] := hl
                refine lv_goto (tgt := 89) hx hb dX11_count_110 (by decide) ?_
                obtain ⟨n31, ln31, iI22⟩ := h
                exact rI22 n31 ln31 x29 x30 M28 iI22 H locs hG ls (lv_sub hl [2, 1, 0] rfl)
          exact lI22 n23s 0 0 M1 iI22 H locs hG ls (lv_sub hl [2, 1, 0] rfl)
        · rcases em_eqI (a1) 4 with c3 | c3_4
          · refine j_tsw hx hb dX11_count_8 g2 (k := 4) (tgt := 115) c3 ⟨by decide, by decide, rfl⟩ (by decide) ?_
            have h := h.2.2.2.2.1 c3
            refine lv_aload_n hx hb dX11_count_115 rfl (lv_at hl 1 rfl) ?_
            refine j_geti hx hb hts hown hK hG (k := a0) (fun w h => List.mem_cons_of_mem _ (u_X11 w h)) (ci := 10) rfl ka0 3 (by decide) (jz := 3) rfl w_fl_RX11_86 dX11_count_116 ?_
            rw [hQf]
            exact j_ireti hx hb hr hlocks hG h (by decide) dX11_count_119
          · rcases em_eqI (a1) 5 with c3 | c3_5
            · refine j_tsw hx hb dX11_count_8 g2 (k := 5) (tgt := 120) c3 ⟨by decide, by decide, rfl⟩ (by decide) ?_
              have h := h.2.2.2.2.2.1 c3
              refine lv_aload_n hx hb dX11_count_120 rfl (lv_at hl 1 rfl) ?_
              refine j_geti hx hb hts hown hK hG (k := a0) (fun w h => List.mem_cons_of_mem _ (u_X11 w h)) (ci := 10) rfl ka0 8 (by decide) (jz := 8) rfl w_fl_RX11_283 dX11_count_121 ?_
              rw [hQf]
              exact j_ireti hx hb hr hlocks hG h (by decide) dX11_count_124
            · have c3 : a1 ≠ 0 ∧ a1 ≠ 1 ∧ a1 ≠ 2 ∧ a1 ≠ 3 ∧ a1 ≠ 4 ∧ a1 ≠ 5 := ⟨c3_0, c3_1, c3_2, c3_3, c3_4, c3_5⟩
              have h := h.2.2.2.2.2.2 c3
              refine j_tswd hx hb dX11_count_8 g2 (tgt := 125) (by omega) (by decide) ?_
              refine lv_aload_n hx hb dX11_count_125 rfl (lv_at hl 1 rfl) ?_
              refine lv_iconst (v := J 1) hx hb dX11_count_126 (by decide) ?_
              refine j_conti (va_runV (As := [.int (J 1)]) (rest := []) ⟨hx, hb, hml, hown, hts⟩ (A_X11_raises l ka0 h) (cwV 1 hts (gj_V ml_RX11_110 i_X11_raises s_X11_raises n_RX11 k_X11_raises) rfl rfl rfl (by decide +kernel) ⟨by exact Nat.le_of_ble_eq_true rfl, by exact Nat.le_of_ble_eq_true rfl⟩) (j_preV hK hSX hG (ci := 10) rfl ka0 (by decide)) rfl rfl hl.1 rfl (lv_room (Nat.le_of_ble_eq_true rfl)) dX11_count_127 ⟨by exact Nat.le_of_ble_eq_true rfl, by exact Nat.le_of_ble_eq_true rfl⟩) hG (c2 := 0) (s2 := 0) ⟨by exact Nat.le_of_ble_eq_true rfl, by exact Nat.le_of_ble_eq_true rfl⟩ (fun z32 M33 h H locs hG => ?_)
              rw [hQf]
              exact j_ireti hx hb hr hlocks hG h (by decide) dX11_count_130
