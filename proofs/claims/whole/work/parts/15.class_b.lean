abbrev rom_X10_changeBase : Room := { frames := 5, cells := 0, slots := 0, locals := 144 }
set_option maxRecDepth 100000 in
set_option maxHeartbeats 4000000 in
theorem Ao_X10_changeBase (l : Launch) {D : va_G} {cy : Nat → ClassId} {o : Nat} {sK sV : Nat → Nat} {M : jT} {a0 : Int} {a1 : Int} {a2 : Int} {a3 : Int} (ka0 : kd a0 = 10) {Q : Int → jT → Prop} (h : wo_X10_changeBase M a0 a1 a2 a3 Q) : CoI l yX10_changeBase (wj yX10_changeBase cX10_changeBase 4 (some .int)) rom_X10_changeBase D cy o sK sV M [.ref (rA o a0), .int (J a1), .int (J a2), .int (J a3)] Q := by
  refine j_ofW (cc := cX10_changeBase) (maxL := 4) (ret := (some .int)) (by decide) rfl (Nat.le_of_ble_eq_true rfl) ?_
  intro p e s m args below meth c hx hb hr hlocks hml hown hts hK hSX H locs hG ls hl Qf hQf
  have hown : s.vm.findClass RX10 = some m.cls := hown
  have hl : lv_has ls 4 [(0, .ref (rA o a0)), (1, .int (J a1)), (2, .int (J a2)), (3, .int (J a3))] := hl
  unfold wo_X10_changeBase at h
  refine lv_aload_n hx hb dX10_changeBase_0 rfl (lv_at hl 0 rfl) ?_
  refine lv_iload_n hx hb dX10_changeBase_1 rfl (lv_at hl 1 rfl) ?_
  refine lv_iload_n hx hb dX10_changeBase_2 rfl (lv_at hl 2 rfl) ?_
  refine lv_iload_n hx hb dX10_changeBase_3 rfl (lv_at hl 3 rfl) ?_
  obtain ⟨g1, h⟩ := h
  refine j_conti (va_runV (As := [.int (J a1), .int (J a2), .int (J a3)]) (rest := []) ⟨hx, hb, hml, hown, hts⟩ (A_X10_changeFault l ka0 g1) (cwV 3 hts (gj_V ml_RX10_117 i_X10_changeFault s_X10_changeFault n_RX10 k_X10_changeFault) rfl rfl rfl (by decide +kernel) ⟨by exact Nat.le_of_ble_eq_true rfl, by exact Nat.le_of_ble_eq_true rfl⟩) (j_preV hK hSX hG (ci := 9) rfl ka0 (by decide)) rfl rfl hl.1 rfl (lv_room (Nat.le_of_ble_eq_true rfl)) dX10_changeBase_4 ⟨by exact Nat.le_of_ble_eq_true rfl, by exact Nat.le_of_ble_eq_true rfl⟩) hG (c2 := 0) (s2 := 0) ⟨by exact Nat.le_of_ble_eq_true rfl, by exact Nat.le_of_ble_eq_true rfl⟩ (fun z2 M3 ez2 H locs hG => ?_)
  obtain ⟨ez2, eM3⟩ := ez2
  subst ez2
  rw [eM3] at hG
  refine j_contv (va_runS (As := [.int (J (pf_X10_changeFault M a0 a1 a2 a3))]) (rest := []) ⟨hx, hb, hml, hown, hts⟩ (Ao_X10_refuse l h) (va_cwS 1 hts (gj_S ml_RX10_107 i_X10_refuse n_RX10 k_X10_refuse) rfl rfl rfl (by decide +kernel) ⟨by exact Nat.le_of_ble_eq_true rfl, by exact Nat.le_of_ble_eq_true rfl⟩) (j_preS hK hSX hG) rfl rfl hl.1 rfl (lv_room (Nat.le_of_ble_eq_true rfl)) dX10_changeBase_7 ⟨by exact Nat.le_of_ble_eq_true rfl, by exact Nat.le_of_ble_eq_true rfl⟩) hG (c2 := 0) (s2 := 0) ⟨by exact Nat.le_of_ble_eq_true rfl, by exact Nat.le_of_ble_eq_true rfl⟩ (fun M5 h H locs hG => ?_)
  obtain ⟨h, eM5⟩ := h
  rw [eM5] at hG
  refine lv_aload_n hx hb dX10_changeBase_10 rfl (lv_at hl 0 rfl) ?_
  refine j_contv (va_runV (As := []) (rest := []) ⟨hx, hb, hml, hown, hts⟩ (A_X10_remember l ka0 h) (cwV 0 hts (gj_V ml_RX10_111 i_X10_remember s_X10_remember n_RX10 k_X10_remember) rfl rfl rfl (by decide +kernel) ⟨by exact Nat.le_of_ble_eq_true rfl, by exact Nat.le_of_ble_eq_true rfl⟩) (j_preV hK hSX hG (ci := 9) rfl ka0 (by decide)) rfl rfl hl.1 rfl (lv_room (Nat.le_of_ble_eq_true rfl)) dX10_changeBase_11 ⟨by exact Nat.le_of_ble_eq_true rfl, by exact Nat.le_of_ble_eq_true rfl⟩) hG (c2 := 0) (s2 := 0) ⟨by exact Nat.le_of_ble_eq_true rfl, by exact Nat.le_of_ble_eq_true rfl⟩ (fun M7 h H locs hG => ?_)
  refine lv_aload_n hx hb dX10_changeBase_14 rfl (lv_at hl 0 rfl) ?_
  refine lv_iload_n hx hb dX10_changeBase_15 rfl (lv_at hl 1 rfl) ?_
  refine lv_iload_n hx hb dX10_changeBase_16 rfl (lv_at hl 2 rfl) ?_
  refine lv_iload_n hx hb dX10_changeBase_17 rfl (lv_at hl 3 rfl) ?_
  refine j_conti (va_runV (As := [.int (J a1), .int (J a2), .int (J a3)]) (rest := []) ⟨hx, hb, hml, hown, hts⟩ (A_X10_putChange l ka0 h) (cwV 3 hts (gj_V ml_RX10_121 i_X10_putChange s_X10_putChange n_RX10 k_X10_putChange) rfl rfl rfl (by decide +kernel) ⟨by exact Nat.le_of_ble_eq_true rfl, by exact Nat.le_of_ble_eq_true rfl⟩) (j_preV hK hSX hG (ci := 9) rfl ka0 (by decide)) rfl rfl hl.1 rfl (lv_room (Nat.le_of_ble_eq_true rfl)) dX10_changeBase_18 ⟨by exact Nat.le_of_ble_eq_true rfl, by exact Nat.le_of_ble_eq_true rfl⟩) hG (c2 := 0) (s2 := 0) ⟨by exact Nat.le_of_ble_eq_true rfl, by exact Nat.le_of_ble_eq_true rfl⟩ (fun z8 M9 h H locs hG => ?_)
  rw [hQf]
  exact j_ireti hx hb hr hlocks hG h (by decide) dX10_changeBase_21
abbrev rm_X10_changeBase : Room := { frames := 8, cells := 1, slots := 6, locals := 144 }
set_option maxRecDepth 100000 in
set_option maxHeartbeats 4000000 in
theorem A_X10_changeBase (l : Launch) (hst : l.stackTraces = false) {D : va_G} {cy : Nat → ClassId} {o : Nat} {sK sV : Nat → Nat} {M : jT} {a0 : Int} {a1 : Int} {a2 : Int} {a3 : Int} (ka0 : kd a0 = 10) {Q : Int → jT → Prop} {X : Nat → jT → Prop} (h : wp_X10_changeBase M a0 a1 a2 a3 Q X) : CxI l yX10_changeBase (wj yX10_changeBase cX10_changeBase 4 (some .int)) rm_X10_changeBase D cy o sK sV M [.ref (rA o a0), .int (J a1), .int (J a2), .int (J a3)] Q X := by
  refine j_ofWx (cc := cX10_changeBase) (maxL := 4) (ret := (some .int)) (by decide) rfl (Nat.le_of_ble_eq_true rfl) ?_
  intro p e s m args below meth c hx hb hr hlocks hout hml hown hts hK hSX H locs hsz hG ls hl Qf hQf
  have hown : s.vm.findClass RX10 = some m.cls := hown
  have hl : lv_has ls 4 [(0, .ref (rA o a0)), (1, .int (J a1)), (2, .int (J a2)), (3, .int (J a3))] := hl
  unfold wp_X10_changeBase at h
  refine lv_aload_n hx hb dX10_changeBase_0 rfl (lv_at hl 0 rfl) ?_
  refine lv_iload_n hx hb dX10_changeBase_1 rfl (lv_at hl 1 rfl) ?_
  refine lv_iload_n hx hb dX10_changeBase_2 rfl (lv_at hl 2 rfl) ?_
  refine lv_iload_n hx hb dX10_changeBase_3 rfl (lv_at hl 3 rfl) ?_
  obtain ⟨g1, h⟩ := h
  refine j_conti (va_runV (As := [.int (J a1), .int (J a2), .int (J a3)]) (rest := []) ⟨hx, hb, hml, hown, hts⟩ (A_X10_changeFault l ka0 g1) (cwV 3 hts (gj_V ml_RX10_117 i_X10_changeFault s_X10_changeFault n_RX10 k_X10_changeFault) rfl rfl rfl (by decide +kernel) ⟨by exact Nat.le_of_ble_eq_true rfl, by exact Nat.le_of_ble_eq_true rfl⟩) (j_preV hK hSX hG (ci := 9) rfl ka0 (by decide)) rfl rfl hl.1 rfl (lv_room (Nat.le_of_ble_eq_true rfl)) dX10_changeBase_4 ⟨by exact Nat.le_of_ble_eq_true rfl, by exact Nat.le_of_ble_eq_true rfl⟩) hG (c2 := 0) (s2 := 0) ⟨by exact Nat.le_of_ble_eq_true rfl, by exact Nat.le_of_ble_eq_true rfl⟩ (fun z2 M3 ez2 H locs hG => ?_)
  obtain ⟨ez2, eM3⟩ := ez2
  subst ez2
  rw [eM3] at hG
  rcases h with h | h
  · refine j_contv (va_runS (As := [.int (J (pf_X10_changeFault M a0 a1 a2 a3))]) (rest := []) ⟨hx, hb, hml, hown, hts⟩ (Ao_X10_refuse l h) (va_cwS 1 hts (gj_S ml_RX10_107 i_X10_refuse n_RX10 k_X10_refuse) rfl rfl rfl (by decide +kernel) ⟨by exact Nat.le_of_ble_eq_true rfl, by exact Nat.le_of_ble_eq_true rfl⟩) (j_preS hK hSX hG) rfl rfl hl.1 rfl (lv_room (Nat.le_of_ble_eq_true rfl)) dX10_changeBase_7 ⟨by exact Nat.le_of_ble_eq_true rfl, by exact Nat.le_of_ble_eq_true rfl⟩) hG (c2 := 0) (s2 := 0) ⟨by exact Nat.le_of_ble_eq_true rfl, by exact Nat.le_of_ble_eq_true rfl⟩ (fun M5 h H locs hG => ?_)
    obtain ⟨h, eM5⟩ := h
    rw [eM5] at hG
    refine lv_aload_n hx hb dX10_changeBase_10 rfl (lv_at hl 0 rfl) ?_
    refine j_contv (va_runV (As := []) (rest := []) ⟨hx, hb, hml, hown, hts⟩ (A_X10_remember l ka0 h) (cwV 0 hts (gj_V ml_RX10_111 i_X10_remember s_X10_remember n_RX10 k_X10_remember) rfl rfl rfl (by decide +kernel) ⟨by exact Nat.le_of_ble_eq_true rfl, by exact Nat.le_of_ble_eq_true rfl⟩) (j_preV hK hSX hG (ci := 9) rfl ka0 (by decide)) rfl rfl hl.1 rfl (lv_room (Nat.le_of_ble_eq_true rfl)) dX10_changeBase_11 ⟨by exact Nat.le_of_ble_eq_true rfl, by exact Nat.le_of_ble_eq_true rfl⟩) hG (c2 := 0) (s2 := 0) ⟨by exact Nat.le_of_ble_eq_true rfl, by exact Nat.le_of_ble_eq_true rfl⟩ (fun M7 h H locs hG => ?_)
    refine lv_aload_n hx hb dX10_changeBase_14 rfl (lv_at hl 0 rfl) ?_
    refine lv_iload_n hx hb dX10_changeBase_15 rfl (lv_at hl 1 rfl) ?_
    refine lv_iload_n hx hb dX10_changeBase_16 rfl (lv_at hl 2 rfl) ?_
    refine lv_iload_n hx hb dX10_changeBase_17 rfl (lv_at hl 3 rfl) ?_
    refine j_conti (va_runV (As := [.int (J a1), .int (J a2), .int (J a3)]) (rest := []) ⟨hx, hb, hml, hown, hts⟩ (A_X10_putChange l ka0 h) (cwV 3 hts (gj_V ml_RX10_121 i_X10_putChange s_X10_putChange n_RX10 k_X10_putChange) rfl rfl rfl (by decide +kernel) ⟨by exact Nat.le_of_ble_eq_true rfl, by exact Nat.le_of_ble_eq_true rfl⟩) (j_preV hK hSX hG (ci := 9) rfl ka0 (by decide)) rfl rfl hl.1 rfl (lv_room (Nat.le_of_ble_eq_true rfl)) dX10_changeBase_18 ⟨by exact Nat.le_of_ble_eq_true rfl, by exact Nat.le_of_ble_eq_true rfl⟩) hG (c2 := 0) (s2 := 0) ⟨by exact Nat.le_of_ble_eq_true rfl, by exact Nat.le_of_ble_eq_true rfl⟩ (fun z8 M9 h H locs hG => ?_)
    rw [hQf]
    exact vx_ret (j_ireti hx hb hr hlocks hG h (by decide) dX10_changeBase_21)
  · refine j_contxv (vx_runS (As := [.int (J (pf_X10_changeFault M a0 a1 a2 a3))]) (rest := []) ⟨hx, hb, hml, hown, hts⟩ (A_X10_refuse l hst h) (va_cwS 1 hts (gj_S ml_RX10_107 i_X10_refuse n_RX10 k_X10_refuse) rfl rfl rfl (by decide +kernel) ⟨by exact Nat.le_of_ble_eq_true rfl, by exact Nat.le_of_ble_eq_true rfl⟩) (j_preS hK hSX hG) rfl rfl hl.1 rfl (lv_room (Nat.le_of_ble_eq_true rfl)) dX10_changeBase_7 ⟨by exact Nat.le_of_ble_eq_true rfl, by exact Nat.le_of_ble_eq_true rfl⟩) hG (c2 := 1) (s2 := 6) ⟨by exact Nat.le_of_ble_eq_true rfl, by exact Nat.le_of_ble_eq_true rfl⟩ (fun x M h ce q H locs hG h1 h2 h3 => ?_) (fun M h H locs hG => h.elim)
    rw [hQf]
    exact j_xout hlocks hout hG h h1 h2 h3 (by decide)

abbrev rm_X10_isDate : Room := { frames := 0, cells := 0, slots := 0, locals := 0 }
set_option maxRecDepth 100000 in
set_option maxHeartbeats 4000000 in
theorem A_X10_isDate (l : Launch) {D : va_G} {cy : Nat → ClassId} {o : Nat} {sK sV : Nat → Nat} {M : jT} {a0 : Int} (h : pg_X10_isDate a0) : CoI l yX10_isDate (wj yX10_isDate cX10_isDate 1 (some .boolean)) rm_X10_isDate D cy o sK sV M [.int (J a0)] (fun z M9 => z = b2i (pb_X10_isDate a0) ∧ M9 = M) := by
  refine j_ofW (cc := cX10_isDate) (maxL := 1) (ret := (some .boolean)) (by decide) rfl (Nat.le_of_ble_eq_true rfl) ?_
  intro p e s m args below meth c hx hb hr hlocks hml hown hts hK hSX H locs hG ls hl Qf hQf
  have hown : s.vm.findClass RX10 = some m.cls := hown
  have hl : lv_has ls 1 [(0, .int (J a0))] := hl
  unfold pg_X10_isDate at h
  refine lv_iload_n hx hb dX10_isDate_0 rfl (lv_at hl 0 rfl) ?_
  refine lv_bipush (v := J 100) hx hb dX10_isDate_1 (by decide) ?_
  obtain ⟨g2, h⟩ := h
  refine j_icmp_ge (tgt := 23) hx hb dX10_isDate_3 (by decide) g2 (by decide) (fun c1 => ?_) (fun c1 => ?_)
  · have h := h.1 c1
    refine lv_iload_n hx hb dX10_isDate_23 rfl (lv_at hl 0 rfl) ?_
    refine lv_sipush (v := J 1000) hx hb dX10_isDate_24 (by decide) ?_
    refine j_icmp_ge (tgt := 53) hx hb dX10_isDate_27 (by decide) g2 (by decide) (fun c3 => ?_) (fun c3 => ?_)
    · have h := h.1 c3
      refine lv_iload_n hx hb dX10_isDate_53 rfl (lv_at hl 0 rfl) ?_
      refine lv_sipush (v := J 1010) hx hb dX10_isDate_54 (by decide) ?_
      refine j_icmp_lt (tgt := 80) hx hb dX10_isDate_57 (by decide) g2 (by decide) (fun c4 => ?_) (fun c4 => ?_)
      · have h := h.1 c4
        refine lv_iconst (v := J 0) hx hb dX10_isDate_80 (by decide) ?_
        rw [hQf]
        exact j_iretn hx hb hr hlocks (nar_b (by decide)) hG ⟨(b2i_iff0 ((pj_t c1 (show ¬ (a0 < 100) from by omega)).trans ((pj_t c3 (show ¬ (a0 < 1000) from by omega)).trans (iff_of_false (fun q8 => (show ¬ (1010 ≤ a0) from by omega) q8.1) id)))), rfl⟩ (by decide) dX10_isDate_81
      · have h := h.2 c4
        refine lv_iload_n hx hb dX10_isDate_60 rfl (lv_at hl 0 rfl) ?_
        refine lv_sipush (v := J 1316) hx hb dX10_isDate_61 (by decide) ?_
        refine j_icmp_gt (tgt := 80) hx hb dX10_isDate_64 (by decide) g2 (by decide) (fun c5 => ?_) (fun c5 => ?_)
        · have h := h.1 c5
          refine lv_iconst (v := J 0) hx hb dX10_isDate_80 (by decide) ?_
          rw [hQf]
          exact j_iretn hx hb hr hlocks (nar_b (by decide)) hG ⟨(b2i_iff0 ((pj_t c1 (show ¬ (a0 < 100) from by omega)).trans ((pj_t c3 (show ¬ (a0 < 1000) from by omega)).trans ((and_iff_right c4).trans (iff_of_false (fun q8 => (show ¬ (a0 ≤ 1316) from by omega) q8.1) id))))), rfl⟩ (by decide) dX10_isDate_81
        · have h := h.2 c5
          refine lv_iload_n hx hb dX10_isDate_67 rfl (lv_at hl 0 rfl) ?_
          refine lv_bipush (v := J 10) hx hb dX10_isDate_68 (by decide) ?_
          obtain ⟨g6, h⟩ := h
          refine j_irem hx hb dX10_isDate_70 g6 (by decide) ?_
          refine lv_bipush (v := J 6) hx hb dX10_isDate_71 (by decide) ?_
          obtain ⟨g8, h⟩ := h
          refine j_icmp_gt (tgt := 80) hx hb dX10_isDate_73 (by decide) g8 (by decide) (fun c7 => ?_) (fun c7 => ?_)
          · have h := h.1 c7
            refine lv_iconst (v := J 0) hx hb dX10_isDate_80 (by decide) ?_
            rw [hQf]
            exact j_iretn hx hb hr hlocks (nar_b (by decide)) hG ⟨(b2i_iff0 ((pj_t c1 (show ¬ (a0 < 100) from by omega)).trans ((pj_t c3 (show ¬ (a0 < 1000) from by omega)).trans ((and_iff_right c4).trans ((and_iff_right c5).trans (iff_of_false (show ¬ (a0 % 10 ≤ 6) from by omega) id)))))), rfl⟩ (by decide) dX10_isDate_81
          · have h := h.2 c7
            refine lv_iconst (v := J 1) hx hb dX10_isDate_76 (by decide) ?_
            refine lv_goto (tgt := 81) hx hb dX10_isDate_77 (by decide) ?_
            rw [hQf]
            exact j_iretn hx hb hr hlocks (nar_b (by decide)) hG ⟨(b2i_iff1 ((pj_t c1 (show ¬ (a0 < 100) from by omega)).trans ((pj_t c3 (show ¬ (a0 < 1000) from by omega)).trans ((and_iff_right c4).trans ((and_iff_right c5).trans (iff_of_true c7 trivial)))))), rfl⟩ (by decide) dX10_isDate_81
    · have h := h.2 c3
      refine lv_iload_n hx hb dX10_isDate_30 rfl (lv_at hl 0 rfl) ?_
      refine lv_bipush (v := J 100) hx hb dX10_isDate_31 (by decide) ?_
      obtain ⟨g9, h⟩ := h
      refine j_idiv hx hb dX10_isDate_33 g9 (by decide) ?_
      refine lv_iconst (v := J 5) hx hb dX10_isDate_34 (by decide) ?_
      obtain ⟨g11, h⟩ := h
      refine j_icmp_gt (tgt := 51) hx hb dX10_isDate_35 (by decide) g11 (by decide) (fun c10 => ?_) (fun c10 => ?_)
      · have h := h.1 c10
        refine lv_iconst (v := J 0) hx hb dX10_isDate_51 (by decide) ?_
        rw [hQf]
        exact j_iretn hx hb hr hlocks (nar_b (by decide)) hG ⟨(b2i_iff0 ((pj_t c1 (show ¬ (a0 < 100) from by omega)).trans ((pj_f (show ¬ (1000 ≤ a0) from by omega) c3).trans (iff_of_false (fun q8 => (show ¬ (a0 / 100 ≤ 5) from by omega) q8.1) id)))), rfl⟩ (by decide) dX10_isDate_52
      · have h := h.2 c10
        refine lv_iload_n hx hb dX10_isDate_38 rfl (lv_at hl 0 rfl) ?_
        refine lv_bipush (v := J 100) hx hb dX10_isDate_39 (by decide) ?_
        refine j_irem hx hb dX10_isDate_41 g9 (by decide) ?_
        refine lv_bipush (v := J 6) hx hb dX10_isDate_42 (by decide) ?_
        obtain ⟨g13, h⟩ := h
        refine j_icmp_gt (tgt := 51) hx hb dX10_isDate_44 (by decide) g13 (by decide) (fun c12 => ?_) (fun c12 => ?_)
        · have h := h.1 c12
          refine lv_iconst (v := J 0) hx hb dX10_isDate_51 (by decide) ?_
          rw [hQf]
          exact j_iretn hx hb hr hlocks (nar_b (by decide)) hG ⟨(b2i_iff0 ((pj_t c1 (show ¬ (a0 < 100) from by omega)).trans ((pj_f (show ¬ (1000 ≤ a0) from by omega) c3).trans ((and_iff_right c10).trans (iff_of_false (show ¬ (a0 % 100 ≤ 6) from by omega) id))))), rfl⟩ (by decide) dX10_isDate_52
        · have h := h.2 c12
          refine lv_iconst (v := J 1) hx hb dX10_isDate_47 (by decide) ?_
          refine lv_goto (tgt := 52) hx hb dX10_isDate_48 (by decide) ?_
          rw [hQf]
          exact j_iretn hx hb hr hlocks (nar_b (by decide)) hG ⟨(b2i_iff1 ((pj_t c1 (show ¬ (a0 < 100) from by omega)).trans ((pj_f (show ¬ (1000 ≤ a0) from by omega) c3).trans ((and_iff_right c10).trans (iff_of_true c12 trivial))))), rfl⟩ (by decide) dX10_isDate_52
  · have h := h.2 c1
    refine lv_iload_n hx hb dX10_isDate_6 rfl (lv_at hl 0 rfl) ?_
    refine lv_iconst (v := J 1) hx hb dX10_isDate_7 (by decide) ?_
    refine j_icmp_lt (tgt := 21) hx hb dX10_isDate_8 (by decide) g2 (by decide) (fun c14 => ?_) (fun c14 => ?_)
    · have h := h.1 c14
      refine lv_iconst (v := J 0) hx hb dX10_isDate_21 (by decide) ?_
      rw [hQf]
      exact j_iretn hx hb hr hlocks (nar_b (by decide)) hG ⟨(b2i_iff0 ((pj_f (show ¬ (100 ≤ a0) from by omega) c1).trans (iff_of_false (fun q8 => (show ¬ (1 ≤ a0) from by omega) q8.1) id))), rfl⟩ (by decide) dX10_isDate_22
    · have h := h.2 c14
      refine lv_iload_n hx hb dX10_isDate_11 rfl (lv_at hl 0 rfl) ?_
      refine lv_bipush (v := J 31) hx hb dX10_isDate_12 (by decide) ?_
      refine j_icmp_gt (tgt := 21) hx hb dX10_isDate_14 (by decide) g2 (by decide) (fun c15 => ?_) (fun c15 => ?_)
      · have h := h.1 c15
        refine lv_iconst (v := J 0) hx hb dX10_isDate_21 (by decide) ?_
        rw [hQf]
        exact j_iretn hx hb hr hlocks (nar_b (by decide)) hG ⟨(b2i_iff0 ((pj_f (show ¬ (100 ≤ a0) from by omega) c1).trans ((and_iff_right c14).trans (iff_of_false (show ¬ (a0 ≤ 31) from by omega) id)))), rfl⟩ (by decide) dX10_isDate_22
      · have h := h.2 c15
        refine lv_iconst (v := J 1) hx hb dX10_isDate_17 (by decide) ?_
        refine lv_goto (tgt := 22) hx hb dX10_isDate_18 (by decide) ?_
        rw [hQf]
        exact j_iretn hx hb hr hlocks (nar_b (by decide)) hG ⟨(b2i_iff1 ((pj_f (show ¬ (100 ≤ a0) from by omega) c1).trans ((and_iff_right c14).trans (iff_of_true c15 trivial)))), rfl⟩ (by decide) dX10_isDate_22

abbrev rm_X10_ruleFault : Room := { frames := 1, cells := 0, slots := 0, locals := 21 }
set_option maxRecDepth 100000 in
set_option maxHeartbeats 4000000 in
theorem A_X10_ruleFault (l : Launch) {D : va_G} {cy : Nat → ClassId} {o : Nat} {sK sV : Nat → Nat} {M : jT} {a0 : Int} {a1 : Int} {a2 : Int} {a3 : Int} {a4 : Int} {a5 : Int} {a6 : Int} (ka0 : kd a0 = 10) {Q : Int → Prop} (h : wp_X10_ruleFault M a0 a1 a2 a3 a4 a5 a6 Q) : CoI l yX10_ruleFault (wj yX10_ruleFault cX10_ruleFault 10 (some .int)) rm_X10_ruleFault D cy o sK sV M [.ref (rA o a0), .int (J a1), .int (J a2), .int (J a3), .int (J a4), .int (J a5), .int (J a6)] (fun z M9 => Q z ∧ M9 = M) := by
  refine j_ofW (cc := cX10_ruleFault) (maxL := 10) (ret := (some .int)) (by decide) rfl (Nat.le_of_ble_eq_true rfl) ?_
  intro p e s m args below meth c hx hb hr hlocks hml hown hts hK hSX H locs hG ls hl Qf hQf
  have hown : s.vm.findClass RX10 = some m.cls := hown
  have hl : lv_has ls 10 [(0, .ref (rA o a0)), (1, .int (J a1)), (2, .int (J a2)), (3, .int (J a3)), (4, .int (J a4)), (5, .int (J a5)), (6, .int (J a6))] := hl
  have w_fl_RX10_12 := hts _ (List.mem_cons_of_mem _ fl_RX10_12)
  have w_fl_RX10_140 := hts _ (List.mem_cons_of_mem _ fl_RX10_140)
  have w_fl_RX10_154 := hts _ (List.mem_cons_of_mem _ fl_RX10_154)
  unfold wp_X10_ruleFault at h
  refine lv_aload_n hx hb dX10_ruleFault_0 rfl (lv_at hl 0 rfl) ?_
  refine lv_iload_n hx hb dX10_ruleFault_1 rfl (lv_at hl 1 rfl) ?_
  obtain ⟨g1, h⟩ := h
  refine j_conti (va_runV (As := [.int (J a1)]) (rest := []) ⟨hx, hb, hml, hown, hts⟩ (A_X10_hasZone l ka0 g1) (cwV 1 hts (gj_V ml_RX10_475 i_X10_hasZone s_X10_hasZone n_RX10 k_X10_hasZone) rfl rfl rfl (by decide +kernel) ⟨by exact Nat.le_of_ble_eq_true rfl, by exact Nat.le_of_ble_eq_true rfl⟩) (j_preV hK hSX hG (ci := 9) rfl ka0 (by decide)) rfl rfl hl.1 rfl (lv_room (Nat.le_of_ble_eq_true rfl)) dX10_ruleFault_2 ⟨by exact Nat.le_of_ble_eq_true rfl, by exact Nat.le_of_ble_eq_true rfl⟩) hG (c2 := 0) (s2 := 0) ⟨by exact Nat.le_of_ble_eq_true rfl, by exact Nat.le_of_ble_eq_true rfl⟩ (fun z2 M3 ez2 H locs hG => ?_)
  obtain ⟨ez2, eM3⟩ := ez2
  subst ez2
  rw [eM3] at hG
  refine j_if_ne_b (tgt := 10) hx hb dX10_ruleFault_5 (by decide) (fun c4 => ?_) (fun c4 => ?_)
  · have h := h.1 c4
    refine lv_iload_n hx hb dX10_ruleFault_10 rfl (lv_at hl 2 rfl) ?_
    obtain ⟨K23, hK23, h⟩ := h
    have jK23 : ∀ (x22 : Int), K23 x22 → ∀ (H : Heap) (locs : List Loc), GM D cy o M s.heap H locs → ∀ ls : Array Slot, lv_has ls 10 [(0, .ref (rA o a0)), (1, .int (J a1)), (3, .int (J a3)), (4, .int (J a4)), (5, .int (J a5)), (6, .int (J a6))] → W p l e rm_X10_ruleFault s m args below meth c H locs 0 0 Qf (F0 m 48 ls [.int (J x22)]) := by
      intro x22 hcK23 H locs hG ls hl
      have h := hK23 x22 hcK23
      refine lv_istore (lv' := [(7, .int (J x22)), (0, .ref (rA o a0)), (1, .int (J a1)), (3, .int (J a3)), (4, .int (J a4)), (5, .int (J a5)), (6, .int (J a6))]) hx hb dX10_ruleFault_48 hl (by decide) rfl (fun ls hl => ?_)
      refine lv_iload hx hb dX10_ruleFault_50 (lv_at hl 5 rfl) ?_
      obtain ⟨K40, hK40, h⟩ := h
      have jK40 : ∀ (x39 : Int), K40 x39 → ∀ (H : Heap) (locs : List Loc), GM D cy o M s.heap H locs → ∀ ls : Array Slot, lv_has ls 10 [(0, .ref (rA o a0)), (1, .int (J a1)), (3, .int (J a3)), (4, .int (J a4)), (6, .int (J a6)), (7, .int (J x22))] → W p l e rm_X10_ruleFault s m args below meth c H locs 0 0 Qf (F0 m 80 ls [.int (J x39)]) := by
        intro x39 hcK40 H locs hG ls hl
        have h := hK40 x39 hcK40
        refine lv_istore (lv' := [(8, .int (J x39)), (0, .ref (rA o a0)), (1, .int (J a1)), (3, .int (J a3)), (4, .int (J a4)), (6, .int (J a6)), (7, .int (J x22))]) hx hb dX10_ruleFault_80 hl (by decide) rfl (fun ls hl => ?_)
        refine lv_iload hx hb dX10_ruleFault_82 (lv_at hl 5 rfl) ?_
        obtain ⟨K49, hK49, h⟩ := h
        have jK49 : ∀ (x48 : Int), K49 x48 → ∀ (H : Heap) (locs : List Loc), GM D cy o M s.heap H locs → ∀ ls : Array Slot, lv_has ls 10 [(0, .ref (rA o a0)), (1, .int (J a1)), (3, .int (J a3)), (4, .int (J a4)), (7, .int (J x22)), (8, .int (J x39))] → W p l e rm_X10_ruleFault s m args below meth c H locs 0 0 Qf (F0 m 99 ls [.int (J x48)]) := by
          intro x48 hcK49 H locs hG ls hl
          have h := hK49 x48 hcK49
          refine lv_istore (lv' := [(9, .int (J x48)), (0, .ref (rA o a0)), (1, .int (J a1)), (3, .int (J a3)), (4, .int (J a4)), (7, .int (J x22)), (8, .int (J x39))]) hx hb dX10_ruleFault_99 hl (by decide) rfl (fun ls hl => ?_)
          refine lv_iload hx hb dX10_ruleFault_101 (lv_at hl 5 rfl) ?_
          obtain ⟨K72, hK72, h⟩ := h
          have jK72 : K72 → ∀ (H : Heap) (locs : List Loc), GM D cy o M s.heap H locs → ∀ ls : Array Slot, lv_has ls 10 [] → W p l e rm_X10_ruleFault s m args below meth c H locs 0 0 Qf (F0 m 131 ls []) := by
            intro hcK72 H locs hG ls hl
            have h := hK72 hcK72
            refine lv_iconst (v := J 2) hx hb dX10_ruleFault_131 (by decide) ?_
            rw [hQf]
            exact j_ireti hx hb hr hlocks hG ⟨h, rfl⟩ (by decide) dX10_ruleFault_132
          obtain ⟨g74, h⟩ := h
          refine j_if_eq (tgt := 131) hx hb dX10_ruleFault_103 (by decide) g74 (fun c73 => ?_) (fun c73 => ?_)
          · have h := h.1 c73
            exact jK72 h H locs hG ls (lv_sub hl [] rfl)
          · have h := h.2 c73
            refine lv_iload_n hx hb dX10_ruleFault_106 rfl (lv_at hl 3 rfl) ?_
            obtain ⟨g75, h⟩ := h
            refine j_conti (va_runS (As := [.int (J a3)]) (rest := []) ⟨hx, hb, hml, hown, hts⟩ (A_X10_isMonth l g75) (va_cwS 1 hts (gj_S ml_RX10_69 i_X10_isMonth n_RX10 k_X10_isMonth) rfl rfl rfl (by decide +kernel) ⟨by exact Nat.le_of_ble_eq_true rfl, by exact Nat.le_of_ble_eq_true rfl⟩) (j_preS hK hSX hG) rfl rfl hl.1 rfl (lv_room (Nat.le_of_ble_eq_true rfl)) dX10_ruleFault_107 ⟨by exact Nat.le_of_ble_eq_true rfl, by exact Nat.le_of_ble_eq_true rfl⟩) hG (c2 := 0) (s2 := 0) ⟨by exact Nat.le_of_ble_eq_true rfl, by exact Nat.le_of_ble_eq_true rfl⟩ (fun z76 M77 ez76 H locs hG => ?_)
            obtain ⟨ez76, eM77⟩ := ez76
            subst ez76
            rw [eM77] at hG
            refine j_if_eq_b (tgt := 131) hx hb dX10_ruleFault_110 (by decide) (fun c78 => ?_) (fun c78 => ?_)
            · have h := h.1 c78
              exact jK72 h H locs hG ls (lv_sub hl [] rfl)
            · have h := h.2 c78
              refine lv_iload hx hb dX10_ruleFault_113 (lv_at hl 4 rfl) ?_
              obtain ⟨g79, h⟩ := h
              refine j_conti (va_runS (As := [.int (J a4)]) (rest := []) ⟨hx, hb, hml, hown, hts⟩ (A_X10_isDate l g79) (va_cwS 1 hts (gj_S ml_RX10_488 i_X10_isDate n_RX10 k_X10_isDate) rfl rfl rfl (by decide +kernel) ⟨by exact Nat.le_of_ble_eq_true rfl, by exact Nat.le_of_ble_eq_true rfl⟩) (j_preS hK hSX hG) rfl rfl hl.1 rfl (lv_room (Nat.le_of_ble_eq_true rfl)) dX10_ruleFault_115 ⟨by exact Nat.le_of_ble_eq_true rfl, by exact Nat.le_of_ble_eq_true rfl⟩) hG (c2 := 0) (s2 := 0) ⟨by exact Nat.le_of_ble_eq_true rfl, by exact Nat.le_of_ble_eq_true rfl⟩ (fun z80 M81 ez80 H locs hG => ?_)
              obtain ⟨ez80, eM81⟩ := ez80
              subst ez80
              rw [eM81] at hG
              refine j_if_eq_b (tgt := 131) hx hb dX10_ruleFault_118 (by decide) (fun c82 => ?_) (fun c82 => ?_)
              · have h := h.1 c82
                exact jK72 h H locs hG ls (lv_sub hl [] rfl)
              · have h := h.2 c82
                refine lv_iload hx hb dX10_ruleFault_121 (lv_at hl 6 rfl) ?_
                obtain ⟨g84, h⟩ := h
                refine j_if_eq (tgt := 131) hx hb dX10_ruleFault_123 (by decide) g84 (fun c83 => ?_) (fun c83 => ?_)
                · have h := h.1 c83
                  exact jK72 h H locs hG ls (lv_sub hl [] rfl)
                · have h := h.2 c83
                  refine lv_iload hx hb dX10_ruleFault_126 (lv_at hl 0 rfl) ?_
                  obtain ⟨g86, h⟩ := h
                  refine j_if_ne (tgt := 133) hx hb dX10_ruleFault_128 (by decide) g86 (fun c85 => ?_) (fun c85 => ?_)
                  · have h := h.1 c85
                    refine lv_aload_n hx hb dX10_ruleFault_133 rfl (lv_at hl 1 rfl) ?_
                    refine j_getr hx hb hts hown hK hG (k := a0) (fun w h => List.mem_cons_of_mem _ (u_X10 w h)) (ci := 9) rfl ka0 0 (k2 := a0 + 1) (by decide) (by show a0 + (1 : Int) = a0 + 1; omega) w_fl_RX10_12 dX10_ruleFault_134 ?_
                    refine j_getr hx hb hts hown hK hG (k := a0 + 1) (fun w h => List.mem_cons_of_mem _ (u_X0 w h)) (ci := 0) rfl (kf_10_0 ka0) 2 (k2 := a0 + 2) (by decide) (by show (a0 + 1) + (1 : Int) = a0 + 2; omega) w_fl_RX10_140 dX10_ruleFault_137 ?_
                    refine lv_iload_n hx hb dX10_ruleFault_140 rfl (lv_at hl 2 rfl) ?_
                    obtain ⟨g87, h⟩ := h
                    refine j_aald hx hb hK hG (t := 20) (t0 := 3) (k2 := a0 + 4 * a1 + 4) (show kd (a0 + 2) = 20 from (show (a0 + 1) + 1 = a0 + 2 from by omega) ▸ (kf_1_2 (kf_10_0 ka0))) (by decide) rfl g87 (by simp only [ra_20]; omega) dX10_ruleFault_141 ?_
                    have k88 : kd (a0 + 4 * a1 + 4) = 9 := by have q9 := (ka_20 (show kd (a0 + 2) = 20 from (show (a0 + 1) + 1 = a0 + 2 from by omega) ▸ (kf_1_2 (kf_10_0 ka0))) g87); rwa [show (a0 + 2) + 2 + 4 * a1 = a0 + 4 * a1 + 4 from by omega] at q9
                    refine j_geti hx hb hts hown hK hG (k := a0 + 4 * a1 + 4) (fun w h => List.mem_cons_of_mem _ (u_X9 w h)) (ci := 8) rfl k88 1 (by decide) (jz := 1) rfl w_fl_RX10_154 dX10_ruleFault_142 ?_
                    refine lv_bipush (v := J 8) hx hb dX10_ruleFault_145 (by decide) ?_
                    obtain ⟨hg, h⟩ := h
                    have jK92 : ∀ x91 : Int, (8 ≤ M (a0 + 4 * a1 + 4) 1 → x91 = 3) → (M (a0 + 4 * a1 + 4) 1 < 8 → x91 = 0) → ∀ (H : Heap) (locs : List Loc), GM D cy o M s.heap H locs → ∀ ls : Array Slot, lv_has ls 10 [] → W p l e rm_X10_ruleFault s m args below meth c H locs 0 0 Qf (F0 m 155 ls [.int (J x91)]) := by
                      intro x91 qx91_0 qx91_1 H locs hG ls hl
                      have h := h x91 qx91_0 qx91_1
                      rw [hQf]
                      exact j_ireti hx hb hr hlocks hG ⟨h, rfl⟩ (by decide) dX10_ruleFault_155
                    have h := hg
                    obtain ⟨g94, h⟩ := h
                    refine j_icmp_ge (tgt := 154) hx hb dX10_ruleFault_147 (by decide) g94 (by decide) (fun c93 => ?_) (fun c93 => ?_)
                    · have h := h.1 c93
                      refine lv_iconst (v := J 3) hx hb dX10_ruleFault_154 (by decide) ?_
                      exact jK92 3 (fun _ => rfl) (fun q => absurd q (by omega)) H locs hG ls (lv_sub hl [] rfl)
                    · have h := h.2 c93
                      refine lv_iconst (v := J 0) hx hb dX10_ruleFault_150 (by decide) ?_
                      refine lv_goto (tgt := 155) hx hb dX10_ruleFault_151 (by decide) ?_
                      exact jK92 0 (fun q => absurd q (by omega)) (fun _ => rfl) H locs hG ls (lv_sub hl [] rfl)
                  · have h := h.2 c85
                    exact jK72 h H locs hG ls (lv_sub hl [] rfl)
        obtain ⟨K98, hK98, h⟩ := h
        have jK98 : K98 → ∀ (H : Heap) (locs : List Loc), GM D cy o M s.heap H locs → ∀ ls : Array Slot, lv_has ls 10 [(0, .ref (rA o a0)), (1, .int (J a1)), (3, .int (J a3)), (4, .int (J a4)), (7, .int (J x22)), (8, .int (J x39))] → W p l e rm_X10_ruleFault s m args below meth c H locs 0 0 Qf (F0 m 98 ls []) := by
          intro hcK98 H locs hG ls hl
          have h := hK98 hcK98
          refine lv_iconst (v := J 0) hx hb dX10_ruleFault_98 (by decide) ?_
          exact jK49 0 h H locs hG ls (lv_sub hl [0, 1, 2, 3, 4, 5] rfl)
        obtain ⟨g100, h⟩ := h
        refine j_if_lt (tgt := 98) hx hb dX10_ruleFault_84 (by decide) g100 (fun c99 => ?_) (fun c99 => ?_)
        · have h := h.1 c99
          exact jK98 h H locs hG ls (lv_sub hl [1, 2, 3, 4, 6, 0] rfl)
        · have h := h.2 c99
          refine lv_iload hx hb dX10_ruleFault_87 (lv_at hl 5 rfl) ?_
          refine lv_bipush (v := J 120) hx hb dX10_ruleFault_89 (by decide) ?_
          refine j_icmp_gt (tgt := 98) hx hb dX10_ruleFault_91 (by decide) g100 (by decide) (fun c101 => ?_) (fun c101 => ?_)
          · have h := h.1 c101
            exact jK98 h H locs hG ls (lv_sub hl [1, 2, 3, 4, 6, 0] rfl)
          · have h := h.2 c101
            refine lv_iconst (v := J 1) hx hb dX10_ruleFault_94 (by decide) ?_
            refine lv_goto (tgt := 99) hx hb dX10_ruleFault_95 (by decide) ?_
            exact jK49 1 h H locs hG ls (lv_sub hl [1, 2, 3, 4, 6, 0] rfl)
      obtain ⟨K109, hK109, h⟩ := h
      have jK109 : K109 → ∀ (H : Heap) (locs : List Loc), GM D cy o M s.heap H locs → ∀ ls : Array Slot, lv_has ls 10 [(0, .ref (rA o a0)), (1, .int (J a1)), (3, .int (J a3)), (4, .int (J a4)), (6, .int (J a6)), (7, .int (J x22))] → W p l e rm_X10_ruleFault s m args below meth c H locs 0 0 Qf (F0 m 79 ls []) := by
        intro hcK109 H locs hG ls hl
        have h := hK109 hcK109
        refine lv_iconst (v := J 0) hx hb dX10_ruleFault_79 (by decide) ?_
        exact jK40 0 h H locs hG ls (lv_sub hl [0, 1, 2, 3, 4, 5] rfl)
      obtain ⟨g111, h⟩ := h
      refine j_if_lt (tgt := 79) hx hb dX10_ruleFault_52 (by decide) g111 (fun c110 => ?_) (fun c110 => ?_)
      · have h := h.1 c110
        exact jK109 h H locs hG ls (lv_sub hl [1, 2, 3, 4, 6, 0] rfl)
      · have h := h.2 c110
        refine lv_iload hx hb dX10_ruleFault_55 (lv_at hl 5 rfl) ?_
        refine lv_bipush (v := J 10) hx hb dX10_ruleFault_57 (by decide) ?_
        obtain ⟨g112, h⟩ := h
        refine j_idiv hx hb dX10_ruleFault_59 g112 (by decide) ?_
        refine lv_sipush (v := J 1440) hx hb dX10_ruleFault_60 (by decide) ?_
        obtain ⟨g114, h⟩ := h
        refine j_icmp_ge (tgt := 79) hx hb dX10_ruleFault_63 (by decide) g114 (by decide) (fun c113 => ?_) (fun c113 => ?_)
        · have h := h.1 c113
          exact jK109 h H locs hG ls (lv_sub hl [1, 2, 3, 4, 6, 0] rfl)
        · have h := h.2 c113
          refine lv_iload hx hb dX10_ruleFault_66 (lv_at hl 5 rfl) ?_
          refine lv_bipush (v := J 10) hx hb dX10_ruleFault_68 (by decide) ?_
          refine j_irem hx hb dX10_ruleFault_70 g112 (by decide) ?_
          refine lv_iconst (v := J 2) hx hb dX10_ruleFault_71 (by decide) ?_
          obtain ⟨g116, h⟩ := h
          refine j_icmp_gt (tgt := 79) hx hb dX10_ruleFault_72 (by decide) g116 (by decide) (fun c115 => ?_) (fun c115 => ?_)
          · have h := h.1 c115
            exact jK109 h H locs hG ls (lv_sub hl [1, 2, 3, 4, 6, 0] rfl)
          · have h := h.2 c115
            refine lv_iconst (v := J 1) hx hb dX10_ruleFault_75 (by decide) ?_
            refine lv_goto (tgt := 80) hx hb dX10_ruleFault_76 (by decide) ?_
            exact jK40 1 h H locs hG ls (lv_sub hl [1, 2, 3, 4, 6, 0] rfl)
    obtain ⟨K125, hK125, h⟩ := h
    have jK125 : K125 → ∀ (H : Heap) (locs : List Loc), GM D cy o M s.heap H locs → ∀ ls : Array Slot, lv_has ls 10 [(0, .ref (rA o a0)), (1, .int (J a1)), (3, .int (J a3)), (4, .int (J a4)), (5, .int (J a5)), (6, .int (J a6))] → W p l e rm_X10_ruleFault s m args below meth c H locs 0 0 Qf (F0 m 47 ls []) := by
      intro hcK125 H locs hG ls hl
      have h := hK125 hcK125
      refine lv_iconst (v := J 0) hx hb dX10_ruleFault_47 (by decide) ?_
      exact jK23 0 h H locs hG ls (lv_sub hl [0, 1, 2, 3, 4, 5] rfl)
    obtain ⟨g127, h⟩ := h
    refine j_if_lt (tgt := 47) hx hb dX10_ruleFault_11 (by decide) g127 (fun c126 => ?_) (fun c126 => ?_)
    · have h := h.1 c126
      exact jK125 h H locs hG ls (lv_sub hl [0, 1, 3, 4, 5, 6] rfl)
    · have h := h.2 c126
      refine lv_iload_n hx hb dX10_ruleFault_14 rfl (lv_at hl 2 rfl) ?_
      refine lv_bipush (v := J 100) hx hb dX10_ruleFault_15 (by decide) ?_
      obtain ⟨g128, h⟩ := h
      refine j_idiv hx hb dX10_ruleFault_17 g128 (by decide) ?_
      refine lv_bipush (v := J 32) hx hb dX10_ruleFault_18 (by decide) ?_
      obtain ⟨g130, h⟩ := h
      refine j_icmp_ge (tgt := 47) hx hb dX10_ruleFault_20 (by decide) g130 (by decide) (fun c129 => ?_) (fun c129 => ?_)
      · have h := h.1 c129
        exact jK125 h H locs hG ls (lv_sub hl [0, 1, 3, 4, 5, 6] rfl)
      · have h := h.2 c129
        refine lv_iload_n hx hb dX10_ruleFault_23 rfl (lv_at hl 2 rfl) ?_
        refine lv_bipush (v := J 100) hx hb dX10_ruleFault_24 (by decide) ?_
        refine j_irem hx hb dX10_ruleFault_26 g128 (by decide) ?_
        refine lv_bipush (v := J 32) hx hb dX10_ruleFault_27 (by decide) ?_
        obtain ⟨g132, h⟩ := h
        refine j_icmp_ge (tgt := 47) hx hb dX10_ruleFault_29 (by decide) g132 (by decide) (fun c131 => ?_) (fun c131 => ?_)
        · have h := h.1 c131
          exact jK125 h H locs hG ls (lv_sub hl [0, 1, 3, 4, 5, 6] rfl)
        · have h := h.2 c131
          refine lv_iload_n hx hb dX10_ruleFault_32 rfl (lv_at hl 2 rfl) ?_
          refine lv_bipush (v := J 100) hx hb dX10_ruleFault_33 (by decide) ?_
          refine j_idiv hx hb dX10_ruleFault_35 g128 (by decide) ?_
          refine lv_iload_n hx hb dX10_ruleFault_36 rfl (lv_at hl 2 rfl) ?_
          refine lv_bipush (v := J 100) hx hb dX10_ruleFault_37 (by decide) ?_
          refine j_irem hx hb dX10_ruleFault_39 g128 (by decide) ?_
          refine j_icmp_gt (tgt := 47) hx hb dX10_ruleFault_40 (by decide) g130 g132 (fun c133 => ?_) (fun c133 => ?_)
          · have h := h.1 c133
            exact jK125 h H locs hG ls (lv_sub hl [0, 1, 3, 4, 5, 6] rfl)
          · have h := h.2 c133
            refine lv_iconst (v := J 1) hx hb dX10_ruleFault_43 (by decide) ?_
            refine lv_goto (tgt := 48) hx hb dX10_ruleFault_44 (by decide) ?_
            exact jK23 1 h H locs hG ls (lv_sub hl [0, 1, 3, 4, 5, 6] rfl)
  · have h := h.2 c4
    refine lv_iconst (v := J 1) hx hb dX10_ruleFault_8 (by decide) ?_
    rw [hQf]
    exact j_ireti hx hb hr hlocks hG ⟨h, rfl⟩ (by decide) dX10_ruleFault_9

abbrev rm_X9_putRule : Room := { frames := 0, cells := 0, slots := 0, locals := 0 }
set_option maxRecDepth 100000 in
set_option maxHeartbeats 4000000 in
theorem A_X9_putRule (l : Launch) {D : va_G} {cy : Nat → ClassId} {o : Nat} {sK sV : Nat → Nat} {M : jT} {a0 : Int} {a1 : Int} {a2 : Int} {a3 : Int} {a4 : Int} {a5 : Int} (ka0 : kd a0 = 9) {Q : Int → jT → Prop} (h : wp_X9_putRule M a0 a1 a2 a3 a4 a5 Q) : CoI l yX9_putRule (wj yX9_putRule cX9_putRule 7 (some .int)) rm_X9_putRule D cy o sK sV M [.ref (rA o a0), .int (J a1), .int (J a2), .int (J a3), .int (J a4), .int (J a5)] Q := by
  refine j_ofW (cc := cX9_putRule) (maxL := 7) (ret := (some .int)) (by decide) rfl (Nat.le_of_ble_eq_true rfl) ?_
  intro p e s m args below meth c hx hb hr hlocks hml hown hts hK hSX H locs hG ls hl Qf hQf
  have hown : s.vm.findClass RX9 = some m.cls := hown
  have hl : lv_has ls 7 [(0, .ref (rA o a0)), (1, .int (J a1)), (2, .int (J a2)), (3, .int (J a3)), (4, .int (J a4)), (5, .int (J a5))] := hl
  have w_fl_RX9_25 := hts _ (List.mem_cons_of_mem _ fl_RX9_25)
  have w_fl_RX9_9 := hts _ (List.mem_cons_of_mem _ fl_RX9_9)
  unfold wp_X9_putRule at h
  refine lv_aload_n hx hb dX9_putRule_0 rfl (lv_at hl 0 rfl) ?_
  refine j_geti hx hb hts hown hK hG (k := a0) (fun w h => List.mem_cons_of_mem _ (u_X9 w h)) (ci := 8) rfl ka0 1 (by decide) (jz := 1) rfl w_fl_RX9_25 dX9_putRule_1 ?_
  refine lv_bipush (v := J 7) hx hb dX9_putRule_4 (by decide) ?_
  refine j_imul hx hb dX9_putRule_6 ?_
  refine j_topi (fun x1 ex1 => ?_)
  have h := h x1 ex1
  refine lv_istore (lv' := [(6, .int (J x1)), (0, .ref (rA o a0)), (1, .int (J a1)), (2, .int (J a2)), (3, .int (J a3)), (4, .int (J a4)), (5, .int (J a5))]) hx hb dX9_putRule_7 hl (by decide) rfl (fun ls hl => ?_)
  refine lv_aload_n hx hb dX9_putRule_9 rfl (lv_at hl 1 rfl) ?_
  refine j_getr hx hb hts hown hK hG (k := a0) (fun w h => List.mem_cons_of_mem _ (u_X9 w h)) (ci := 8) rfl ka0 3 (k2 := a0 + 1) (by decide) (by show a0 + (1 : Int) = a0 + 1; omega) w_fl_RX9_9 dX9_putRule_10 ?_
  refine lv_iload hx hb dX9_putRule_13 (lv_at hl 0 rfl) ?_
  refine lv_iconst (v := J 0) hx hb dX9_putRule_15 (by decide) ?_
  refine j_iadd hx hb dX9_putRule_16 ?_
  refine lv_iload_n hx hb dX9_putRule_17 rfl (lv_at hl 2 rfl) ?_
  refine lv_bipush (v := J 100) hx hb dX9_putRule_18 (by decide) ?_
  obtain ⟨g2, h⟩ := h
  refine j_idiv hx hb dX9_putRule_20 g2 (by decide) ?_
  obtain ⟨g3, h⟩ := h
  refine j_iast hx hb hK hG (n := 56) (kf_9_3 ka0) (by decide) g3 dX9_putRule_21 (fun M4 eM4 H locs hG => ?_)
  have h := h M4 eM4
  refine lv_aload_n hx hb dX9_putRule_22 rfl (lv_at hl 1 rfl) ?_
  refine j_getr hx hb hts hown hK hG (k := a0) (fun w h => List.mem_cons_of_mem _ (u_X9 w h)) (ci := 8) rfl ka0 3 (k2 := a0 + 1) (by decide) (by show a0 + (1 : Int) = a0 + 1; omega) w_fl_RX9_9 dX9_putRule_23 ?_
  refine lv_iload hx hb dX9_putRule_26 (lv_at hl 0 rfl) ?_
  refine lv_iconst (v := J 1) hx hb dX9_putRule_28 (by decide) ?_
  refine j_iadd hx hb dX9_putRule_29 ?_
  refine lv_iload_n hx hb dX9_putRule_30 rfl (lv_at hl 2 rfl) ?_
  refine lv_bipush (v := J 100) hx hb dX9_putRule_31 (by decide) ?_
  refine j_irem hx hb dX9_putRule_33 g2 (by decide) ?_
  obtain ⟨g5, h⟩ := h
  refine j_iast hx hb hK hG (n := 56) (kf_9_3 ka0) (by decide) g5 dX9_putRule_34 (fun M6 eM6 H locs hG => ?_)
  have h := h M6 eM6
  refine lv_aload_n hx hb dX9_putRule_35 rfl (lv_at hl 1 rfl) ?_
  refine j_getr hx hb hts hown hK hG (k := a0) (fun w h => List.mem_cons_of_mem _ (u_X9 w h)) (ci := 8) rfl ka0 3 (k2 := a0 + 1) (by decide) (by show a0 + (1 : Int) = a0 + 1; omega) w_fl_RX9_9 dX9_putRule_36 ?_
  refine lv_iload hx hb dX9_putRule_39 (lv_at hl 0 rfl) ?_
  refine lv_iconst (v := J 2) hx hb dX9_putRule_41 (by decide) ?_
  refine j_iadd hx hb dX9_putRule_42 ?_
  refine lv_iload_n hx hb dX9_putRule_43 rfl (lv_at hl 3 rfl) ?_
  obtain ⟨g7, h⟩ := h
  refine j_iast hx hb hK hG (n := 56) (kf_9_3 ka0) (by decide) g7 dX9_putRule_44 (fun M8 eM8 H locs hG => ?_)
  have h := h M8 eM8
  refine lv_aload_n hx hb dX9_putRule_45 rfl (lv_at hl 1 rfl) ?_
  refine j_getr hx hb hts hown hK hG (k := a0) (fun w h => List.mem_cons_of_mem _ (u_X9 w h)) (ci := 8) rfl ka0 3 (k2 := a0 + 1) (by decide) (by show a0 + (1 : Int) = a0 + 1; omega) w_fl_RX9_9 dX9_putRule_46 ?_
  refine lv_iload hx hb dX9_putRule_49 (lv_at hl 0 rfl) ?_
  refine lv_iconst (v := J 3) hx hb dX9_putRule_51 (by decide) ?_
  refine j_iadd hx hb dX9_putRule_52 ?_
  refine lv_iload_n hx hb dX9_putRule_53 rfl (lv_at hl 4 rfl) ?_
  obtain ⟨g9, h⟩ := h
  refine j_iast hx hb hK hG (n := 56) (kf_9_3 ka0) (by decide) g9 dX9_putRule_54 (fun M10 eM10 H locs hG => ?_)
  have h := h M10 eM10
  refine lv_aload_n hx hb dX9_putRule_55 rfl (lv_at hl 1 rfl) ?_
  refine j_getr hx hb hts hown hK hG (k := a0) (fun w h => List.mem_cons_of_mem _ (u_X9 w h)) (ci := 8) rfl ka0 3 (k2 := a0 + 1) (by decide) (by show a0 + (1 : Int) = a0 + 1; omega) w_fl_RX9_9 dX9_putRule_56 ?_
  refine lv_iload hx hb dX9_putRule_59 (lv_at hl 0 rfl) ?_
  refine lv_iconst (v := J 4) hx hb dX9_putRule_61 (by decide) ?_
  refine j_iadd hx hb dX9_putRule_62 ?_
  refine lv_iload hx hb dX9_putRule_63 (lv_at hl 5 rfl) ?_
  refine lv_bipush (v := J 10) hx hb dX9_putRule_65 (by decide) ?_
  obtain ⟨g11, h⟩ := h
  refine j_idiv hx hb dX9_putRule_67 g11 (by decide) ?_
  obtain ⟨g12, h⟩ := h
  refine j_iast hx hb hK hG (n := 56) (kf_9_3 ka0) (by decide) g12 dX9_putRule_68 (fun M13 eM13 H locs hG => ?_)
  have h := h M13 eM13
  refine lv_aload_n hx hb dX9_putRule_69 rfl (lv_at hl 1 rfl) ?_
  refine j_getr hx hb hts hown hK hG (k := a0) (fun w h => List.mem_cons_of_mem _ (u_X9 w h)) (ci := 8) rfl ka0 3 (k2 := a0 + 1) (by decide) (by show a0 + (1 : Int) = a0 + 1; omega) w_fl_RX9_9 dX9_putRule_70 ?_
  refine lv_iload hx hb dX9_putRule_73 (lv_at hl 0 rfl) ?_
  refine lv_iconst (v := J 5) hx hb dX9_putRule_75 (by decide) ?_
  refine j_iadd hx hb dX9_putRule_76 ?_
  refine lv_iload hx hb dX9_putRule_77 (lv_at hl 5 rfl) ?_
  refine lv_bipush (v := J 10) hx hb dX9_putRule_79 (by decide) ?_
  refine j_irem hx hb dX9_putRule_81 g11 (by decide) ?_
  obtain ⟨g14, h⟩ := h
  refine j_iast hx hb hK hG (n := 56) (kf_9_3 ka0) (by decide) g14 dX9_putRule_82 (fun M15 eM15 H locs hG => ?_)
  have h := h M15 eM15
  refine lv_aload_n hx hb dX9_putRule_83 rfl (lv_at hl 1 rfl) ?_
  refine j_getr hx hb hts hown hK hG (k := a0) (fun w h => List.mem_cons_of_mem _ (u_X9 w h)) (ci := 8) rfl ka0 3 (k2 := a0 + 1) (by decide) (by show a0 + (1 : Int) = a0 + 1; omega) w_fl_RX9_9 dX9_putRule_84 ?_
  refine lv_iload hx hb dX9_putRule_87 (lv_at hl 0 rfl) ?_
  refine lv_bipush (v := J 6) hx hb dX9_putRule_89 (by decide) ?_
  refine j_iadd hx hb dX9_putRule_91 ?_
  refine lv_iload hx hb dX9_putRule_92 (lv_at hl 6 rfl) ?_
  obtain ⟨g16, h⟩ := h
  refine j_iast hx hb hK hG (n := 56) (kf_9_3 ka0) (by decide) g16 dX9_putRule_94 (fun M17 eM17 H locs hG => ?_)
  have h := h M17 eM17
  refine lv_aload_n hx hb dX9_putRule_95 rfl (lv_at hl 1 rfl) ?_
  refine lv_dup hx hb dX9_putRule_96 rfl ?_
  refine j_geti hx hb hts hown hK hG (k := a0) (fun w h => List.mem_cons_of_mem _ (u_X9 w h)) (ci := 8) rfl ka0 1 (by decide) (jz := 1) rfl w_fl_RX9_25 dX9_putRule_97 ?_
  refine lv_iconst (v := J 1) hx hb dX9_putRule_100 (by decide) ?_
  refine j_iadd hx hb dX9_putRule_101 ?_
  refine j_puti hx hb hts hown hK hG (k := a0) (fun w h => List.mem_cons_of_mem _ (u_X9 w h)) tyX9 tyX9_ok nmX9 (ci := 8) rfl ka0 1 (by decide) (jz := 1) rfl w_fl_RX9_25 (hd := rfl) (hn := rfl) (hfit := rfl) (hdg := dX9_putRule_102) (fun M18 eM18 H locs hG => ?_)
  have h := h M18 eM18
  refine lv_aload_n hx hb dX9_putRule_105 rfl (lv_at hl 1 rfl) ?_
  refine j_geti hx hb hts hown hK hG (k := a0) (fun w h => List.mem_cons_of_mem _ (u_X9 w h)) (ci := 8) rfl ka0 1 (by decide) (jz := 1) rfl w_fl_RX9_25 dX9_putRule_106 ?_
  refine lv_iconst (v := J 1) hx hb dX9_putRule_109 (by decide) ?_
  refine j_isub hx hb dX9_putRule_110 ?_
  rw [hQf]
  exact j_ireti hx hb hr hlocks hG h (by decide) dX9_putRule_111

abbrev rm_X10_putRule : Room := { frames := 1, cells := 0, slots := 0, locals := 26 }
set_option maxRecDepth 100000 in
set_option maxHeartbeats 4000000 in
theorem A_X10_putRule (l : Launch) {D : va_G} {cy : Nat → ClassId} {o : Nat} {sK sV : Nat → Nat} {M : jT} {a0 : Int} {a1 : Int} {a2 : Int} {a3 : Int} {a4 : Int} {a5 : Int} {a6 : Int} (ka0 : kd a0 = 10) {Q : Int → jT → Prop} (h : wp_X10_putRule M a0 a1 a2 a3 a4 a5 a6 Q) : CoI l yX10_putRule (wj yX10_putRule cX10_putRule 8 (some .int)) rm_X10_putRule D cy o sK sV M [.ref (rA o a0), .int (J a1), .int (J a2), .int (J a3), .int (J a4), .int (J a5), .int (J a6)] Q := by
  refine j_ofW (cc := cX10_putRule) (maxL := 8) (ret := (some .int)) (by decide) rfl (Nat.le_of_ble_eq_true rfl) ?_
  intro p e s m args below meth c hx hb hr hlocks hml hown hts hK hSX H locs hG ls hl Qf hQf
  have hown : s.vm.findClass RX10 = some m.cls := hown
  have hl : lv_has ls 8 [(0, .ref (rA o a0)), (1, .int (J a1)), (2, .int (J a2)), (3, .int (J a3)), (4, .int (J a4)), (5, .int (J a5)), (6, .int (J a6))] := hl
  have w_fl_RX10_12 := hts _ (List.mem_cons_of_mem _ fl_RX10_12)
  have w_fl_RX10_140 := hts _ (List.mem_cons_of_mem _ fl_RX10_140)
  unfold wp_X10_putRule at h
  refine lv_aload_n hx hb dX10_putRule_0 rfl (lv_at hl 0 rfl) ?_
  refine j_getr hx hb hts hown hK hG (k := a0) (fun w h => List.mem_cons_of_mem _ (u_X10 w h)) (ci := 9) rfl ka0 0 (k2 := a0 + 1) (by decide) (by show a0 + (1 : Int) = a0 + 1; omega) w_fl_RX10_12 dX10_putRule_1 ?_
  refine j_getr hx hb hts hown hK hG (k := a0 + 1) (fun w h => List.mem_cons_of_mem _ (u_X0 w h)) (ci := 0) rfl (kf_10_0 ka0) 2 (k2 := a0 + 2) (by decide) (by show (a0 + 1) + (1 : Int) = a0 + 2; omega) w_fl_RX10_140 dX10_putRule_4 ?_
  refine lv_iload_n hx hb dX10_putRule_7 rfl (lv_at hl 1 rfl) ?_
  obtain ⟨g1, h⟩ := h
  refine j_aald hx hb hK hG (t := 20) (t0 := 3) (k2 := a0 + 4 * a1 + 4) (show kd (a0 + 2) = 20 from (show (a0 + 1) + 1 = a0 + 2 from by omega) ▸ (kf_1_2 (kf_10_0 ka0))) (by decide) rfl g1 (by simp only [ra_20]; omega) dX10_putRule_8 ?_
  have k2 : kd (a0 + 4 * a1 + 4) = 9 := by have q9 := (ka_20 (show kd (a0 + 2) = 20 from (show (a0 + 1) + 1 = a0 + 2 from by omega) ▸ (kf_1_2 (kf_10_0 ka0))) g1); rwa [show (a0 + 2) + 2 + 4 * a1 = a0 + 4 * a1 + 4 from by omega] at q9
  refine lv_iload_n hx hb dX10_putRule_9 rfl (lv_at hl 2 rfl) ?_
  refine lv_iload_n hx hb dX10_putRule_10 rfl (lv_at hl 3 rfl) ?_
  refine lv_iload hx hb dX10_putRule_11 (lv_at hl 4 rfl) ?_
  refine lv_iload hx hb dX10_putRule_13 (lv_at hl 5 rfl) ?_
  refine lv_iload hx hb dX10_putRule_15 (lv_at hl 6 rfl) ?_
  refine j_conti (va_runV (As := [.int (J a2), .int (J a3), .int (J a4), .int (J a5), .int (J a6)]) (rest := []) ⟨hx, hb, hml, hown, hts⟩ (A_X9_putRule l k2 h) (cwV 5 hts (gj_V ml_RX10_491 i_X9_putRule s_X9_putRule n_RX9 k_X9_putRule) rfl rfl rfl (by decide +kernel) ⟨by exact Nat.le_of_ble_eq_true rfl, by exact Nat.le_of_ble_eq_true rfl⟩) (j_preV hK hSX hG (ci := 8) rfl k2 (by decide)) rfl rfl hl.1 rfl (lv_room (Nat.le_of_ble_eq_true rfl)) dX10_putRule_17 ⟨by exact Nat.le_of_ble_eq_true rfl, by exact Nat.le_of_ble_eq_true rfl⟩) hG (c2 := 0) (s2 := 0) ⟨by exact Nat.le_of_ble_eq_true rfl, by exact Nat.le_of_ble_eq_true rfl⟩ (fun z3 M4 h H locs hG => ?_)
  refine lv_istore (lv' := [(7, .int (J z3)), (0, .ref (rA o a0)), (1, .int (J a1)), (2, .int (J a2)), (3, .int (J a3)), (4, .int (J a4)), (5, .int (J a5)), (6, .int (J a6))]) hx hb dX10_putRule_20 hl (by decide) rfl (fun ls hl => ?_)
  refine lv_aload_n hx hb dX10_putRule_22 rfl (lv_at hl 1 rfl) ?_
  refine lv_iload_n hx hb dX10_putRule_23 rfl (lv_at hl 2 rfl) ?_
  refine j_contv (va_runV (As := [.int (J a1)]) (rest := []) ⟨hx, hb, hml, hown, hts⟩ (A_X10_spoil l ka0 h) (cwV 1 hts (gj_V ml_RX10_484 i_X10_spoil s_X10_spoil n_RX10 k_X10_spoil) rfl rfl rfl (by decide +kernel) ⟨by exact Nat.le_of_ble_eq_true rfl, by exact Nat.le_of_ble_eq_true rfl⟩) (j_preV hK hSX hG (ci := 9) rfl ka0 (by decide)) rfl rfl hl.1 rfl (lv_room (Nat.le_of_ble_eq_true rfl)) dX10_putRule_24 ⟨by exact Nat.le_of_ble_eq_true rfl, by exact Nat.le_of_ble_eq_true rfl⟩) hG (c2 := 0) (s2 := 0) ⟨by exact Nat.le_of_ble_eq_true rfl, by exact Nat.le_of_ble_eq_true rfl⟩ (fun M6 h H locs hG => ?_)
  refine lv_iload hx hb dX10_putRule_27 (lv_at hl 0 rfl) ?_
  rw [hQf]
  exact j_ireti hx hb hr hlocks hG h (by decide) dX10_putRule_29

abbrev rom_X10_addRule : Room := { frames := 5, cells := 0, slots := 0, locals := 144 }
set_option maxRecDepth 100000 in
set_option maxHeartbeats 4000000 in
theorem Ao_X10_addRule (l : Launch) {D : va_G} {cy : Nat → ClassId} {o : Nat} {sK sV : Nat → Nat} {M : jT} {a0 : Int} {a1 : Int} {a2 : Int} {a3 : Int} {a4 : Int} {a5 : Int} {a6 : Int} (ka0 : kd a0 = 10) {Q : Int → jT → Prop} (h : wo_X10_addRule M a0 a1 a2 a3 a4 a5 a6 Q) : CoI l yX10_addRule (wj yX10_addRule cX10_addRule 7 (some .int)) rom_X10_addRule D cy o sK sV M [.ref (rA o a0), .int (J a1), .int (J a2), .int (J a3), .int (J a4), .int (J a5), .int (J a6)] Q := by
  refine j_ofW (cc := cX10_addRule) (maxL := 7) (ret := (some .int)) (by decide) rfl (Nat.le_of_ble_eq_true rfl) ?_
  intro p e s m args below meth c hx hb hr hlocks hml hown hts hK hSX H locs hG ls hl Qf hQf
  have hown : s.vm.findClass RX10 = some m.cls := hown
  have hl : lv_has ls 7 [(0, .ref (rA o a0)), (1, .int (J a1)), (2, .int (J a2)), (3, .int (J a3)), (4, .int (J a4)), (5, .int (J a5)), (6, .int (J a6))] := hl
  unfold wo_X10_addRule at h
  refine lv_aload_n hx hb dX10_addRule_0 rfl (lv_at hl 0 rfl) ?_
  refine lv_iload_n hx hb dX10_addRule_1 rfl (lv_at hl 1 rfl) ?_
  refine lv_iload_n hx hb dX10_addRule_2 rfl (lv_at hl 2 rfl) ?_
  refine lv_iload_n hx hb dX10_addRule_3 rfl (lv_at hl 3 rfl) ?_
  refine lv_iload hx hb dX10_addRule_4 (lv_at hl 4 rfl) ?_
  refine lv_iload hx hb dX10_addRule_6 (lv_at hl 5 rfl) ?_
  refine lv_iload hx hb dX10_addRule_8 (lv_at hl 6 rfl) ?_
  refine j_conti (va_runV (As := [.int (J a1), .int (J a2), .int (J a3), .int (J a4), .int (J a5), .int (J a6)]) (rest := []) ⟨hx, hb, hml, hown, hts⟩ (A_X10_ruleFault l ka0 h) (cwV 6 hts (gj_V ml_RX10_124 i_X10_ruleFault s_X10_ruleFault n_RX10 k_X10_ruleFault) rfl rfl rfl (by decide +kernel) ⟨by exact Nat.le_of_ble_eq_true rfl, by exact Nat.le_of_ble_eq_true rfl⟩) (j_preV hK hSX hG (ci := 9) rfl ka0 (by decide)) rfl rfl hl.1 rfl (lv_room (Nat.le_of_ble_eq_true rfl)) dX10_addRule_10 ⟨by exact Nat.le_of_ble_eq_true rfl, by exact Nat.le_of_ble_eq_true rfl⟩) hG (c2 := 0) (s2 := 0) ⟨by exact Nat.le_of_ble_eq_true rfl, by exact Nat.le_of_ble_eq_true rfl⟩ (fun z1 M2 h H locs hG => ?_)
  obtain ⟨h, eM2⟩ := h
  rw [eM2] at hG
  refine j_contv (va_runS (As := [.int (J z1)]) (rest := []) ⟨hx, hb, hml, hown, hts⟩ (Ao_X10_refuse l h) (va_cwS 1 hts (gj_S ml_RX10_107 i_X10_refuse n_RX10 k_X10_refuse) rfl rfl rfl (by decide +kernel) ⟨by exact Nat.le_of_ble_eq_true rfl, by exact Nat.le_of_ble_eq_true rfl⟩) (j_preS hK hSX hG) rfl rfl hl.1 rfl (lv_room (Nat.le_of_ble_eq_true rfl)) dX10_addRule_13 ⟨by exact Nat.le_of_ble_eq_true rfl, by exact Nat.le_of_ble_eq_true rfl⟩) hG (c2 := 0) (s2 := 0) ⟨by exact Nat.le_of_ble_eq_true rfl, by exact Nat.le_of_ble_eq_true rfl⟩ (fun M4 h H locs hG => ?_)
  obtain ⟨h, eM4⟩ := h
  rw [eM4] at hG
  refine lv_aload_n hx hb dX10_addRule_16 rfl (lv_at hl 0 rfl) ?_
  refine j_contv (va_runV (As := []) (rest := []) ⟨hx, hb, hml, hown, hts⟩ (A_X10_remember l ka0 h) (cwV 0 hts (gj_V ml_RX10_111 i_X10_remember s_X10_remember n_RX10 k_X10_remember) rfl rfl rfl (by decide +kernel) ⟨by exact Nat.le_of_ble_eq_true rfl, by exact Nat.le_of_ble_eq_true rfl⟩) (j_preV hK hSX hG (ci := 9) rfl ka0 (by decide)) rfl rfl hl.1 rfl (lv_room (Nat.le_of_ble_eq_true rfl)) dX10_addRule_17 ⟨by exact Nat.le_of_ble_eq_true rfl, by exact Nat.le_of_ble_eq_true rfl⟩) hG (c2 := 0) (s2 := 0) ⟨by exact Nat.le_of_ble_eq_true rfl, by exact Nat.le_of_ble_eq_true rfl⟩ (fun M6 h H locs hG => ?_)
  refine lv_aload_n hx hb dX10_addRule_20 rfl (lv_at hl 0 rfl) ?_
  refine lv_iload_n hx hb dX10_addRule_21 rfl (lv_at hl 1 rfl) ?_
  refine lv_iload_n hx hb dX10_addRule_22 rfl (lv_at hl 2 rfl) ?_
  refine lv_iload_n hx hb dX10_addRule_23 rfl (lv_at hl 3 rfl) ?_
  refine lv_iload hx hb dX10_addRule_24 (lv_at hl 4 rfl) ?_
  refine lv_iload hx hb dX10_addRule_26 (lv_at hl 5 rfl) ?_
  refine lv_iload hx hb dX10_addRule_28 (lv_at hl 6 rfl) ?_
  refine j_conti (va_runV (As := [.int (J a1), .int (J a2), .int (J a3), .int (J a4), .int (J a5), .int (J a6)]) (rest := []) ⟨hx, hb, hml, hown, hts⟩ (A_X10_putRule l ka0 h) (cwV 6 hts (gj_V ml_RX10_128 i_X10_putRule s_X10_putRule n_RX10 k_X10_putRule) rfl rfl rfl (by decide +kernel) ⟨by exact Nat.le_of_ble_eq_true rfl, by exact Nat.le_of_ble_eq_true rfl⟩) (j_preV hK hSX hG (ci := 9) rfl ka0 (by decide)) rfl rfl hl.1 rfl (lv_room (Nat.le_of_ble_eq_true rfl)) dX10_addRule_30 ⟨by exact Nat.le_of_ble_eq_true rfl, by exact Nat.le_of_ble_eq_true rfl⟩) hG (c2 := 0) (s2 := 0) ⟨by exact Nat.le_of_ble_eq_true rfl, by exact Nat.le_of_ble_eq_true rfl⟩ (fun z7 M8 h H locs hG => ?_)
  rw [hQf]
  exact j_ireti hx hb hr hlocks hG h (by decide) dX10_addRule_33
abbrev rm_X10_addRule : Room := { frames := 8, cells := 1, slots := 6, locals := 144 }
set_option maxRecDepth 100000 in
set_option maxHeartbeats 4000000 in
theorem A_X10_addRule (l : Launch) (hst : l.stackTraces = false) {D : va_G} {cy : Nat → ClassId} {o : Nat} {sK sV : Nat → Nat} {M : jT} {a0 : Int} {a1 : Int} {a2 : Int} {a3 : Int} {a4 : Int} {a5 : Int} {a6 : Int} (ka0 : kd a0 = 10) {Q : Int → jT → Prop} {X : Nat → jT → Prop} (h : wp_X10_addRule M a0 a1 a2 a3 a4 a5 a6 Q X) : CxI l yX10_addRule (wj yX10_addRule cX10_addRule 7 (some .int)) rm_X10_addRule D cy o sK sV M [.ref (rA o a0), .int (J a1), .int (J a2), .int (J a3), .int (J a4), .int (J a5), .int (J a6)] Q X := by
  refine j_ofWx (cc := cX10_addRule) (maxL := 7) (ret := (some .int)) (by decide) rfl (Nat.le_of_ble_eq_true rfl) ?_
  intro p e s m args below meth c hx hb hr hlocks hout hml hown hts hK hSX H locs hsz hG ls hl Qf hQf
  have hown : s.vm.findClass RX10 = some m.cls := hown
  have hl : lv_has ls 7 [(0, .ref (rA o a0)), (1, .int (J a1)), (2, .int (J a2)), (3, .int (J a3)), (4, .int (J a4)), (5, .int (J a5)), (6, .int (J a6))] := hl
  unfold wp_X10_addRule at h
  refine lv_aload_n hx hb dX10_addRule_0 rfl (lv_at hl 0 rfl) ?_
  refine lv_iload_n hx hb dX10_addRule_1 rfl (lv_at hl 1 rfl) ?_
  refine lv_iload_n hx hb dX10_addRule_2 rfl (lv_at hl 2 rfl) ?_
  refine lv_iload_n hx hb dX10_addRule_3 rfl (lv_at hl 3 rfl) ?_
  refine lv_iload hx hb dX10_addRule_4 (lv_at hl 4 rfl) ?_
  refine lv_iload hx hb dX10_addRule_6 (lv_at hl 5 rfl) ?_
  refine lv_iload hx hb dX10_addRule_8 (lv_at hl 6 rfl) ?_
  refine j_conti (va_runV (As := [.int (J a1), .int (J a2), .int (J a3), .int (J a4), .int (J a5), .int (J a6)]) (rest := []) ⟨hx, hb, hml, hown, hts⟩ (A_X10_ruleFault l ka0 h) (cwV 6 hts (gj_V ml_RX10_124 i_X10_ruleFault s_X10_ruleFault n_RX10 k_X10_ruleFault) rfl rfl rfl (by decide +kernel) ⟨by exact Nat.le_of_ble_eq_true rfl, by exact Nat.le_of_ble_eq_true rfl⟩) (j_preV hK hSX hG (ci := 9) rfl ka0 (by decide)) rfl rfl hl.1 rfl (lv_room (Nat.le_of_ble_eq_true rfl)) dX10_addRule_10 ⟨by exact Nat.le_of_ble_eq_true rfl, by exact Nat.le_of_ble_eq_true rfl⟩) hG (c2 := 0) (s2 := 0) ⟨by exact Nat.le_of_ble_eq_true rfl, by exact Nat.le_of_ble_eq_true rfl⟩ (fun z1 M2 h H locs hG => ?_)
  obtain ⟨h, eM2⟩ := h
  rw [eM2] at hG
  rcases h with h | h
  · refine j_contv (va_runS (As := [.int (J z1)]) (rest := []) ⟨hx, hb, hml, hown, hts⟩ (Ao_X10_refuse l h) (va_cwS 1 hts (gj_S ml_RX10_107 i_X10_refuse n_RX10 k_X10_refuse) rfl rfl rfl (by decide +kernel) ⟨by exact Nat.le_of_ble_eq_true rfl, by exact Nat.le_of_ble_eq_true rfl⟩) (j_preS hK hSX hG) rfl rfl hl.1 rfl (lv_room (Nat.le_of_ble_eq_true rfl)) dX10_addRule_13 ⟨by exact Nat.le_of_ble_eq_true rfl, by exact Nat.le_of_ble_eq_true rfl⟩) hG (c2 := 0) (s2 := 0) ⟨by exact Nat.le_of_ble_eq_true rfl, by exact Nat.le_of_ble_eq_true rfl⟩ (fun M4 h H locs hG => ?_)
    obtain ⟨h, eM4⟩ := h
    rw [eM4] at hG
    refine lv_aload_n hx hb dX10_addRule_16 rfl (lv_at hl 0 rfl) ?_
    refine j_contv (va_runV (As := []) (rest := []) ⟨hx, hb, hml, hown, hts⟩ (A_X10_remember l ka0 h) (cwV 0 hts (gj_V ml_RX10_111 i_X10_remember s_X10_remember n_RX10 k_X10_remember) rfl rfl rfl (by decide +kernel) ⟨by exact Nat.le_of_ble_eq_true rfl, by exact Nat.le_of_ble_eq_true rfl⟩) (j_preV hK hSX hG (ci := 9) rfl ka0 (by decide)) rfl rfl hl.1 rfl (lv_room (Nat.le_of_ble_eq_true rfl)) dX10_addRule_17 ⟨by exact Nat.le_of_ble_eq_true rfl, by exact Nat.le_of_ble_eq_true rfl⟩) hG (c2 := 0) (s2 := 0) ⟨by exact Nat.le_of_ble_eq_true rfl, by exact Nat.le_of_ble_eq_true rfl⟩ (fun M6 h H locs hG => ?_)
    refine lv_aload_n hx hb dX10_addRule_20 rfl (lv_at hl 0 rfl) ?_
    refine lv_iload_n hx hb dX10_addRule_21 rfl (lv_at hl 1 rfl) ?_
    refine lv_iload_n hx hb dX10_addRule_22 rfl (lv_at hl 2 rfl) ?_
    refine lv_iload_n hx hb dX10_addRule_23 rfl (lv_at hl 3 rfl) ?_
    refine lv_iload hx hb dX10_addRule_24 (lv_at hl 4 rfl) ?_
    refine lv_iload hx hb dX10_addRule_26 (lv_at hl 5 rfl) ?_
    refine lv_iload hx hb dX10_addRule_28 (lv_at hl 6 rfl) ?_
    refine j_conti (va_runV (As := [.int (J a1), .int (J a2), .int (J a3), .int (J a4), .int (J a5), .int (J a6)]) (rest := []) ⟨hx, hb, hml, hown, hts⟩ (A_X10_putRule l ka0 h) (cwV 6 hts (gj_V ml_RX10_128 i_X10_putRule s_X10_putRule n_RX10 k_X10_putRule) rfl rfl rfl (by decide +kernel) ⟨by exact Nat.le_of_ble_eq_true rfl, by exact Nat.le_of_ble_eq_true rfl⟩) (j_preV hK hSX hG (ci := 9) rfl ka0 (by decide)) rfl rfl hl.1 rfl (lv_room (Nat.le_of_ble_eq_true rfl)) dX10_addRule_30 ⟨by exact Nat.le_of_ble_eq_true rfl, by exact Nat.le_of_ble_eq_true rfl⟩) hG (c2 := 0) (s2 := 0) ⟨by exact Nat.le_of_ble_eq_true rfl, by exact Nat.le_of_ble_eq_true rfl⟩ (fun z7 M8 h H locs hG => ?_)
    rw [hQf]
    exact vx_ret (j_ireti hx hb hr hlocks hG h (by decide) dX10_addRule_33)
  · refine j_contxv (vx_runS (As := [.int (J z1)]) (rest := []) ⟨hx, hb, hml, hown, hts⟩ (A_X10_refuse l hst h) (va_cwS 1 hts (gj_S ml_RX10_107 i_X10_refuse n_RX10 k_X10_refuse) rfl rfl rfl (by decide +kernel) ⟨by exact Nat.le_of_ble_eq_true rfl, by exact Nat.le_of_ble_eq_true rfl⟩) (j_preS hK hSX hG) rfl rfl hl.1 rfl (lv_room (Nat.le_of_ble_eq_true rfl)) dX10_addRule_13 ⟨by exact Nat.le_of_ble_eq_true rfl, by exact Nat.le_of_ble_eq_true rfl⟩) hG (c2 := 1) (s2 := 6) ⟨by exact Nat.le_of_ble_eq_true rfl, by exact Nat.le_of_ble_eq_true rfl⟩ (fun x M h ce q H locs hG h1 h2 h3 => ?_) (fun M h H locs hG => h.elim)
    rw [hQf]
    exact j_xout hlocks hout hG h h1 h2 h3 (by decide)

abbrev rm_X10_ruleIndexFault : Room := { frames := 1, cells := 0, slots := 0, locals := 21 }
set_option maxRecDepth 100000 in
set_option maxHeartbeats 4000000 in
theorem A_X10_ruleIndexFault (l : Launch) {D : va_G} {cy : Nat → ClassId} {o : Nat} {sK sV : Nat → Nat} {M : jT} {a0 : Int} {a1 : Int} {a2 : Int} (ka0 : kd a0 = 10) (h : pg_X10_ruleIndexFault M a0 a1 a2) : CoI l yX10_ruleIndexFault (wj yX10_ruleIndexFault cX10_ruleIndexFault 3 (some .int)) rm_X10_ruleIndexFault D cy o sK sV M [.ref (rA o a0), .int (J a1), .int (J a2)] (fun z M9 => z = pf_X10_ruleIndexFault M a0 a1 a2 ∧ M9 = M) := by
  refine j_ofW (cc := cX10_ruleIndexFault) (maxL := 3) (ret := (some .int)) (by decide) rfl (Nat.le_of_ble_eq_true rfl) ?_
  intro p e s m args below meth c hx hb hr hlocks hml hown hts hK hSX H locs hG ls hl Qf hQf
  have hown : s.vm.findClass RX10 = some m.cls := hown
  have hl : lv_has ls 3 [(0, .ref (rA o a0)), (1, .int (J a1)), (2, .int (J a2))] := hl
  have w_fl_RX10_12 := hts _ (List.mem_cons_of_mem _ fl_RX10_12)
  have w_fl_RX10_140 := hts _ (List.mem_cons_of_mem _ fl_RX10_140)
  have w_fl_RX10_154 := hts _ (List.mem_cons_of_mem _ fl_RX10_154)
  unfold pg_X10_ruleIndexFault at h
  refine lv_aload_n hx hb dX10_ruleIndexFault_0 rfl (lv_at hl 0 rfl) ?_
  refine lv_iload_n hx hb dX10_ruleIndexFault_1 rfl (lv_at hl 1 rfl) ?_
  obtain ⟨g1, h⟩ := h
  refine j_conti (va_runV (As := [.int (J a1)]) (rest := []) ⟨hx, hb, hml, hown, hts⟩ (A_X10_hasZone l ka0 g1) (cwV 1 hts (gj_V ml_RX10_475 i_X10_hasZone s_X10_hasZone n_RX10 k_X10_hasZone) rfl rfl rfl (by decide +kernel) ⟨by exact Nat.le_of_ble_eq_true rfl, by exact Nat.le_of_ble_eq_true rfl⟩) (j_preV hK hSX hG (ci := 9) rfl ka0 (by decide)) rfl rfl hl.1 rfl (lv_room (Nat.le_of_ble_eq_true rfl)) dX10_ruleIndexFault_2 ⟨by exact Nat.le_of_ble_eq_true rfl, by exact Nat.le_of_ble_eq_true rfl⟩) hG (c2 := 0) (s2 := 0) ⟨by exact Nat.le_of_ble_eq_true rfl, by exact Nat.le_of_ble_eq_true rfl⟩ (fun z2 M3 ez2 H locs hG => ?_)
  obtain ⟨ez2, eM3⟩ := ez2
  subst ez2
  rw [eM3] at hG
  refine j_if_eq_b (tgt := 32) hx hb dX10_ruleIndexFault_5 (by decide) (fun c4 => ?_) (fun c4 => ?_)
  · have h := h.1 c4
    refine lv_iconst (v := J 1) hx hb dX10_ruleIndexFault_32 (by decide) ?_
    rw [hQf]
    exact j_ireti hx hb hr hlocks hG ⟨(by unfold pf_X10_ruleIndexFault; rw [if_pos c4]), rfl⟩ (by decide) dX10_ruleIndexFault_33
  · have h := h.2 c4
    refine lv_iload_n hx hb dX10_ruleIndexFault_8 rfl (lv_at hl 2 rfl) ?_
    obtain ⟨g6, h⟩ := h
    refine j_if_lt (tgt := 32) hx hb dX10_ruleIndexFault_9 (by decide) g6 (fun c5 => ?_) (fun c5 => ?_)
    · have h := h.1 c5
      refine lv_iconst (v := J 1) hx hb dX10_ruleIndexFault_32 (by decide) ?_
      rw [hQf]
      exact j_ireti hx hb hr hlocks hG ⟨(by unfold pf_X10_ruleIndexFault; rw [if_neg (fun q9 => q9 c4), if_pos c5]), rfl⟩ (by decide) dX10_ruleIndexFault_33
    · have h := h.2 c5
      refine lv_iload_n hx hb dX10_ruleIndexFault_12 rfl (lv_at hl 2 rfl) ?_
      refine lv_aload_n hx hb dX10_ruleIndexFault_13 rfl (lv_at hl 0 rfl) ?_
      refine j_getr hx hb hts hown hK hG (k := a0) (fun w h => List.mem_cons_of_mem _ (u_X10 w h)) (ci := 9) rfl ka0 0 (k2 := a0 + 1) (by decide) (by show a0 + (1 : Int) = a0 + 1; omega) w_fl_RX10_12 dX10_ruleIndexFault_14 ?_
      refine j_getr hx hb hts hown hK hG (k := a0 + 1) (fun w h => List.mem_cons_of_mem _ (u_X0 w h)) (ci := 0) rfl (kf_10_0 ka0) 2 (k2 := a0 + 2) (by decide) (by show (a0 + 1) + (1 : Int) = a0 + 2; omega) w_fl_RX10_140 dX10_ruleIndexFault_17 ?_
      refine lv_iload_n hx hb dX10_ruleIndexFault_20 rfl (lv_at hl 1 rfl) ?_
      obtain ⟨g7, h⟩ := h
      refine j_aald hx hb hK hG (t := 20) (t0 := 3) (k2 := a0 + 4 * a1 + 4) (show kd (a0 + 2) = 20 from (show (a0 + 1) + 1 = a0 + 2 from by omega) ▸ (kf_1_2 (kf_10_0 ka0))) (by decide) rfl g7 (by simp only [ra_20]; omega) dX10_ruleIndexFault_21 ?_
      have k8 : kd (a0 + 4 * a1 + 4) = 9 := by have q9 := (ka_20 (show kd (a0 + 2) = 20 from (show (a0 + 1) + 1 = a0 + 2 from by omega) ▸ (kf_1_2 (kf_10_0 ka0))) g7); rwa [show (a0 + 2) + 2 + 4 * a1 = a0 + 4 * a1 + 4 from by omega] at q9
      refine j_geti hx hb hts hown hK hG (k := a0 + 4 * a1 + 4) (fun w h => List.mem_cons_of_mem _ (u_X9 w h)) (ci := 8) rfl k8 1 (by decide) (jz := 1) rfl w_fl_RX10_154 dX10_ruleIndexFault_22 ?_
      obtain ⟨g10, h⟩ := h
      refine j_icmp_ge (tgt := 32) hx hb dX10_ruleIndexFault_25 (by decide) g6 g10 (fun c9 => ?_) (fun c9 => ?_)
      · have h := h.1 c9
        refine lv_iconst (v := J 1) hx hb dX10_ruleIndexFault_32 (by decide) ?_
        rw [hQf]
        exact j_ireti hx hb hr hlocks hG ⟨(by unfold pf_X10_ruleIndexFault; rw [if_neg (fun q9 => q9 c4), if_neg (show ¬ (a2 < 0) from by omega), if_pos c9]), rfl⟩ (by decide) dX10_ruleIndexFault_33
      · have h := h.2 c9
        refine lv_iconst (v := J 0) hx hb dX10_ruleIndexFault_28 (by decide) ?_
        refine lv_goto (tgt := 33) hx hb dX10_ruleIndexFault_29 (by decide) ?_
        rw [hQf]
        exact j_ireti hx hb hr hlocks hG ⟨(by unfold pf_X10_ruleIndexFault; rw [if_neg (fun q9 => q9 c4), if_neg (show ¬ (a2 < 0) from by omega), if_neg (show ¬ (M (a0 + 4 * a1 + 4) 1 ≤ a2) from by omega)]), rfl⟩ (by decide) dX10_ruleIndexFault_33

abbrev rm_X9_takeRule : Room := { frames := 1, cells := 0, slots := 0, locals := 60 }
set_option maxRecDepth 100000 in
set_option maxHeartbeats 4000000 in
theorem A_X9_takeRule (l : Launch) {D : va_G} {cy : Nat → ClassId} {o : Nat} {sK sV : Nat → Nat} {M : jT} {a0 : Int} {a1 : Int} (ka0 : kd a0 = 9) {Q : jT → Prop} (h : wp_X9_takeRule M a0 a1 Q) : CoV l yX9_takeRule (wj yX9_takeRule cX9_takeRule 3 none) rm_X9_takeRule D cy o sK sV M [.ref (rA o a0), .int (J a1)] Q := by
  refine j_ofW (cc := cX9_takeRule) (maxL := 3) (ret := none) (by decide) rfl (Nat.le_of_ble_eq_true rfl) ?_
  intro p e s m args below meth c hx hb hr hlocks hml hown hts hK hSX H locs hG ls hl Qf hQf
  have hown : s.vm.findClass RX9 = some m.cls := hown
  have hl : lv_has ls 3 [(0, .ref (rA o a0)), (1, .int (J a1))] := hl
  have w_fl_RX9_9 := hts _ (List.mem_cons_of_mem _ fl_RX9_9)
  have w_fl_RX9_25 := hts _ (List.mem_cons_of_mem _ fl_RX9_25)
  unfold wp_X9_takeRule at h
  refine lv_iload_n hx hb dX9_takeRule_0 rfl (lv_at hl 1 rfl) ?_
  refine lv_iconst (v := J 1) hx hb dX9_takeRule_1 (by decide) ?_
  refine j_iadd hx hb dX9_takeRule_2 ?_
  refine lv_bipush (v := J 7) hx hb dX9_takeRule_3 (by decide) ?_
  refine j_imul hx hb dX9_takeRule_5 ?_
  refine j_topi (fun x1 ex1 => ?_)
  have h := h x1 ex1
  refine lv_istore_n (lv' := [(2, .int (J x1)), (0, .ref (rA o a0)), (1, .int (J a1))]) hx hb dX9_takeRule_6 rfl hl (by decide) rfl (fun ls hl => ?_)
  refine lv_aload_n hx hb dX9_takeRule_7 rfl (lv_at hl 1 rfl) ?_
  refine j_getr hx hb hts hown hK hG (k := a0) (fun w h => List.mem_cons_of_mem _ (u_X9 w h)) (ci := 8) rfl ka0 3 (k2 := a0 + 1) (by decide) (by show a0 + (1 : Int) = a0 + 1; omega) w_fl_RX9_9 dX9_takeRule_8 ?_
  refine lv_iload_n hx hb dX9_takeRule_11 rfl (lv_at hl 0 rfl) ?_
  refine lv_aload_n hx hb dX9_takeRule_12 rfl (lv_at hl 1 rfl) ?_
  refine j_getr hx hb hts hown hK hG (k := a0) (fun w h => List.mem_cons_of_mem _ (u_X9 w h)) (ci := 8) rfl ka0 3 (k2 := a0 + 1) (by decide) (by show a0 + (1 : Int) = a0 + 1; omega) w_fl_RX9_9 dX9_takeRule_13 ?_
  refine lv_iload_n hx hb dX9_takeRule_16 rfl (lv_at hl 2 rfl) ?_
  refine lv_bipush (v := J 7) hx hb dX9_takeRule_17 (by decide) ?_
  refine j_imul hx hb dX9_takeRule_19 ?_
  refine lv_aload_n hx hb dX9_takeRule_20 rfl (lv_at hl 1 rfl) ?_
  refine j_geti hx hb hts hown hK hG (k := a0) (fun w h => List.mem_cons_of_mem _ (u_X9 w h)) (ci := 8) rfl ka0 1 (by decide) (jz := 1) rfl w_fl_RX9_25 dX9_takeRule_21 ?_
  refine lv_bipush (v := J 7) hx hb dX9_takeRule_24 (by decide) ?_
  refine j_imul hx hb dX9_takeRule_26 ?_
  refine lv_iload_n hx hb dX9_takeRule_27 rfl (lv_at hl 0 rfl) ?_
  refine j_isub hx hb dX9_takeRule_28 ?_
  obtain ⟨g2, h⟩ := h
  refine j_copyi hx hb (hml.trans hl.1.symm) hown (hts _ (List.mem_cons_of_mem _ ml_RX9_31)) (hts _ (List.mem_cons_of_mem _ nt_arraycopy)) (hts _ (List.mem_cons_of_mem _ i_arraycopy)) (hts _ (List.mem_cons_of_mem _ n_System)) hK hG (n0 := 56) (n1 := 56) (kf_9_3 ka0) (kf_9_3 ka0) (by decide) (by decide) g2 (by exact Nat.le_of_ble_eq_true rfl) (by exact Nat.le_of_ble_eq_true rfl) dX9_takeRule_29 (fun M3 eM3 H locs hG => ?_)
  have h := h M3 eM3
  refine lv_aload_n hx hb dX9_takeRule_32 rfl (lv_at hl 1 rfl) ?_
  refine lv_dup hx hb dX9_takeRule_33 rfl ?_
  refine j_geti hx hb hts hown hK hG (k := a0) (fun w h => List.mem_cons_of_mem _ (u_X9 w h)) (ci := 8) rfl ka0 1 (by decide) (jz := 1) rfl w_fl_RX9_25 dX9_takeRule_34 ?_
  refine lv_iconst (v := J 1) hx hb dX9_takeRule_37 (by decide) ?_
  refine j_isub hx hb dX9_takeRule_38 ?_
  refine j_puti hx hb hts hown hK hG (k := a0) (fun w h => List.mem_cons_of_mem _ (u_X9 w h)) tyX9 tyX9_ok nmX9 (ci := 8) rfl ka0 1 (by decide) (jz := 1) rfl w_fl_RX9_25 (hd := rfl) (hn := rfl) (hfit := rfl) (hdg := dX9_takeRule_39) (fun M4 eM4 H locs hG => ?_)
  have h := h M4 eM4
  rw [hQf]
  exact j_vret hx hb hr hlocks hG h (by decide) dX9_takeRule_42

abbrev rm_X10_takeRule : Room := { frames := 2, cells := 0, slots := 0, locals := 82 }
set_option maxRecDepth 100000 in
set_option maxHeartbeats 4000000 in
theorem A_X10_takeRule (l : Launch) {D : va_G} {cy : Nat → ClassId} {o : Nat} {sK sV : Nat → Nat} {M : jT} {a0 : Int} {a1 : Int} {a2 : Int} (ka0 : kd a0 = 10) {Q : Int → jT → Prop} (h : wp_X10_takeRule M a0 a1 a2 Q) : CoI l yX10_takeRule (wj yX10_takeRule cX10_takeRule 3 (some .int)) rm_X10_takeRule D cy o sK sV M [.ref (rA o a0), .int (J a1), .int (J a2)] Q := by
  refine j_ofW (cc := cX10_takeRule) (maxL := 3) (ret := (some .int)) (by decide) rfl (Nat.le_of_ble_eq_true rfl) ?_
  intro p e s m args below meth c hx hb hr hlocks hml hown hts hK hSX H locs hG ls hl Qf hQf
  have hown : s.vm.findClass RX10 = some m.cls := hown
  have hl : lv_has ls 3 [(0, .ref (rA o a0)), (1, .int (J a1)), (2, .int (J a2))] := hl
  have w_fl_RX10_12 := hts _ (List.mem_cons_of_mem _ fl_RX10_12)
  have w_fl_RX10_140 := hts _ (List.mem_cons_of_mem _ fl_RX10_140)
  have w_fl_RX10_154 := hts _ (List.mem_cons_of_mem _ fl_RX10_154)
  unfold wp_X10_takeRule at h
  refine lv_aload_n hx hb dX10_takeRule_0 rfl (lv_at hl 0 rfl) ?_
  refine j_getr hx hb hts hown hK hG (k := a0) (fun w h => List.mem_cons_of_mem _ (u_X10 w h)) (ci := 9) rfl ka0 0 (k2 := a0 + 1) (by decide) (by show a0 + (1 : Int) = a0 + 1; omega) w_fl_RX10_12 dX10_takeRule_1 ?_
  refine j_getr hx hb hts hown hK hG (k := a0 + 1) (fun w h => List.mem_cons_of_mem _ (u_X0 w h)) (ci := 0) rfl (kf_10_0 ka0) 2 (k2 := a0 + 2) (by decide) (by show (a0 + 1) + (1 : Int) = a0 + 2; omega) w_fl_RX10_140 dX10_takeRule_4 ?_
  refine lv_iload_n hx hb dX10_takeRule_7 rfl (lv_at hl 1 rfl) ?_
  obtain ⟨g1, h⟩ := h
  refine j_aald hx hb hK hG (t := 20) (t0 := 3) (k2 := a0 + 4 * a1 + 4) (show kd (a0 + 2) = 20 from (show (a0 + 1) + 1 = a0 + 2 from by omega) ▸ (kf_1_2 (kf_10_0 ka0))) (by decide) rfl g1 (by simp only [ra_20]; omega) dX10_takeRule_8 ?_
  have k2 : kd (a0 + 4 * a1 + 4) = 9 := by have q9 := (ka_20 (show kd (a0 + 2) = 20 from (show (a0 + 1) + 1 = a0 + 2 from by omega) ▸ (kf_1_2 (kf_10_0 ka0))) g1); rwa [show (a0 + 2) + 2 + 4 * a1 = a0 + 4 * a1 + 4 from by omega] at q9
  refine lv_iload_n hx hb dX10_takeRule_9 rfl (lv_at hl 2 rfl) ?_
  refine j_contv (va_runV (As := [.int (J a2)]) (rest := []) ⟨hx, hb, hml, hown, hts⟩ (A_X9_takeRule l k2 h) (cwV 1 hts (gj_V ml_RX10_494 i_X9_takeRule s_X9_takeRule n_RX9 k_X9_takeRule) rfl rfl rfl (by decide +kernel) ⟨by exact Nat.le_of_ble_eq_true rfl, by exact Nat.le_of_ble_eq_true rfl⟩) (j_preV hK hSX hG (ci := 8) rfl k2 (by decide)) rfl rfl hl.1 rfl (lv_room (Nat.le_of_ble_eq_true rfl)) dX10_takeRule_10 ⟨by exact Nat.le_of_ble_eq_true rfl, by exact Nat.le_of_ble_eq_true rfl⟩) hG (c2 := 0) (s2 := 0) ⟨by exact Nat.le_of_ble_eq_true rfl, by exact Nat.le_of_ble_eq_true rfl⟩ (fun M4 h H locs hG => ?_)
  refine lv_aload_n hx hb dX10_takeRule_13 rfl (lv_at hl 0 rfl) ?_
  refine lv_iload_n hx hb dX10_takeRule_14 rfl (lv_at hl 1 rfl) ?_
  refine j_contv (va_runV (As := [.int (J a1)]) (rest := []) ⟨hx, hb, hml, hown, hts⟩ (A_X10_spoil l ka0 h) (cwV 1 hts (gj_V ml_RX10_484 i_X10_spoil s_X10_spoil n_RX10 k_X10_spoil) rfl rfl rfl (by decide +kernel) ⟨by exact Nat.le_of_ble_eq_true rfl, by exact Nat.le_of_ble_eq_true rfl⟩) (j_preV hK hSX hG (ci := 9) rfl ka0 (by decide)) rfl rfl hl.1 rfl (lv_room (Nat.le_of_ble_eq_true rfl)) dX10_takeRule_15 ⟨by exact Nat.le_of_ble_eq_true rfl, by exact Nat.le_of_ble_eq_true rfl⟩) hG (c2 := 0) (s2 := 0) ⟨by exact Nat.le_of_ble_eq_true rfl, by exact Nat.le_of_ble_eq_true rfl⟩ (fun M6 h H locs hG => ?_)
  refine lv_aload_n hx hb dX10_takeRule_18 rfl (lv_at hl 0 rfl) ?_
  refine j_getr hx hb hts hown hK hG (k := a0) (fun w h => List.mem_cons_of_mem _ (u_X10 w h)) (ci := 9) rfl ka0 0 (k2 := a0 + 1) (by decide) (by show a0 + (1 : Int) = a0 + 1; omega) w_fl_RX10_12 dX10_takeRule_19 ?_
  refine j_getr hx hb hts hown hK hG (k := a0 + 1) (fun w h => List.mem_cons_of_mem _ (u_X0 w h)) (ci := 0) rfl (kf_10_0 ka0) 2 (k2 := a0 + 2) (by decide) (by show (a0 + 1) + (1 : Int) = a0 + 2; omega) w_fl_RX10_140 dX10_takeRule_22 ?_
  refine lv_iload_n hx hb dX10_takeRule_25 rfl (lv_at hl 1 rfl) ?_
  refine j_aald hx hb hK hG (t := 20) (t0 := 3) (k2 := a0 + 4 * a1 + 4) (show kd (a0 + 2) = 20 from (show (a0 + 1) + 1 = a0 + 2 from by omega) ▸ (kf_1_2 (kf_10_0 ka0))) (by decide) rfl g1 (by simp only [ra_20]; omega) dX10_takeRule_26 ?_
  have k7 : kd (a0 + 4 * a1 + 4) = 9 := by have q9 := (ka_20 (show kd (a0 + 2) = 20 from (show (a0 + 1) + 1 = a0 + 2 from by omega) ▸ (kf_1_2 (kf_10_0 ka0))) g1); rwa [show (a0 + 2) + 2 + 4 * a1 = a0 + 4 * a1 + 4 from by omega] at q9
  refine j_geti hx hb hts hown hK hG (k := a0 + 4 * a1 + 4) (fun w h => List.mem_cons_of_mem _ (u_X9 w h)) (ci := 8) rfl k7 1 (by decide) (jz := 1) rfl w_fl_RX10_154 dX10_takeRule_27 ?_
  rw [hQf]
  exact j_ireti hx hb hr hlocks hG h (by decide) dX10_takeRule_30

abbrev rom_X10_dropRule : Room := { frames := 5, cells := 0, slots := 0, locals := 144 }
set_option maxRecDepth 100000 in
set_option maxHeartbeats 4000000 in
theorem Ao_X10_dropRule (l : Launch) {D : va_G} {cy : Nat → ClassId} {o : Nat} {sK sV : Nat → Nat} {M : jT} {a0 : Int} {a1 : Int} {a2 : Int} (ka0 : kd a0 = 10) {Q : Int → jT → Prop} (h : wo_X10_dropRule M a0 a1 a2 Q) : CoI l yX10_dropRule (wj yX10_dropRule cX10_dropRule 3 (some .int)) rom_X10_dropRule D cy o sK sV M [.ref (rA o a0), .int (J a1), .int (J a2)] Q := by
  refine j_ofW (cc := cX10_dropRule) (maxL := 3) (ret := (some .int)) (by decide) rfl (Nat.le_of_ble_eq_true rfl) ?_
  intro p e s m args below meth c hx hb hr hlocks hml hown hts hK hSX H locs hG ls hl Qf hQf
  have hown : s.vm.findClass RX10 = some m.cls := hown
  have hl : lv_has ls 3 [(0, .ref (rA o a0)), (1, .int (J a1)), (2, .int (J a2))] := hl
  unfold wo_X10_dropRule at h
  refine lv_aload_n hx hb dX10_dropRule_0 rfl (lv_at hl 0 rfl) ?_
  refine lv_iload_n hx hb dX10_dropRule_1 rfl (lv_at hl 1 rfl) ?_
  refine lv_iload_n hx hb dX10_dropRule_2 rfl (lv_at hl 2 rfl) ?_
  obtain ⟨g1, h⟩ := h
  refine j_conti (va_runV (As := [.int (J a1), .int (J a2)]) (rest := []) ⟨hx, hb, hml, hown, hts⟩ (A_X10_ruleIndexFault l ka0 g1) (cwV 2 hts (gj_V ml_RX10_131 i_X10_ruleIndexFault s_X10_ruleIndexFault n_RX10 k_X10_ruleIndexFault) rfl rfl rfl (by decide +kernel) ⟨by exact Nat.le_of_ble_eq_true rfl, by exact Nat.le_of_ble_eq_true rfl⟩) (j_preV hK hSX hG (ci := 9) rfl ka0 (by decide)) rfl rfl hl.1 rfl (lv_room (Nat.le_of_ble_eq_true rfl)) dX10_dropRule_3 ⟨by exact Nat.le_of_ble_eq_true rfl, by exact Nat.le_of_ble_eq_true rfl⟩) hG (c2 := 0) (s2 := 0) ⟨by exact Nat.le_of_ble_eq_true rfl, by exact Nat.le_of_ble_eq_true rfl⟩ (fun z2 M3 ez2 H locs hG => ?_)
  obtain ⟨ez2, eM3⟩ := ez2
  subst ez2
  rw [eM3] at hG
  refine j_contv (va_runS (As := [.int (J (pf_X10_ruleIndexFault M a0 a1 a2))]) (rest := []) ⟨hx, hb, hml, hown, hts⟩ (Ao_X10_refuse l h) (va_cwS 1 hts (gj_S ml_RX10_107 i_X10_refuse n_RX10 k_X10_refuse) rfl rfl rfl (by decide +kernel) ⟨by exact Nat.le_of_ble_eq_true rfl, by exact Nat.le_of_ble_eq_true rfl⟩) (j_preS hK hSX hG) rfl rfl hl.1 rfl (lv_room (Nat.le_of_ble_eq_true rfl)) dX10_dropRule_6 ⟨by exact Nat.le_of_ble_eq_true rfl, by exact Nat.le_of_ble_eq_true rfl⟩) hG (c2 := 0) (s2 := 0) ⟨by exact Nat.le_of_ble_eq_true rfl, by exact Nat.le_of_ble_eq_true rfl⟩ (fun M5 h H locs hG => ?_)
  obtain ⟨h, eM5⟩ := h
  rw [eM5] at hG
  refine lv_aload_n hx hb dX10_dropRule_9 rfl (lv_at hl 0 rfl) ?_
  refine j_contv (va_runV (As := []) (rest := []) ⟨hx, hb, hml, hown, hts⟩ (A_X10_remember l ka0 h) (cwV 0 hts (gj_V ml_RX10_111 i_X10_remember s_X10_remember n_RX10 k_X10_remember) rfl rfl rfl (by decide +kernel) ⟨by exact Nat.le_of_ble_eq_true rfl, by exact Nat.le_of_ble_eq_true rfl⟩) (j_preV hK hSX hG (ci := 9) rfl ka0 (by decide)) rfl rfl hl.1 rfl (lv_room (Nat.le_of_ble_eq_true rfl)) dX10_dropRule_10 ⟨by exact Nat.le_of_ble_eq_true rfl, by exact Nat.le_of_ble_eq_true rfl⟩) hG (c2 := 0) (s2 := 0) ⟨by exact Nat.le_of_ble_eq_true rfl, by exact Nat.le_of_ble_eq_true rfl⟩ (fun M7 h H locs hG => ?_)
  refine lv_aload_n hx hb dX10_dropRule_13 rfl (lv_at hl 0 rfl) ?_
  refine lv_iload_n hx hb dX10_dropRule_14 rfl (lv_at hl 1 rfl) ?_
  refine lv_iload_n hx hb dX10_dropRule_15 rfl (lv_at hl 2 rfl) ?_
  refine j_conti (va_runV (As := [.int (J a1), .int (J a2)]) (rest := []) ⟨hx, hb, hml, hown, hts⟩ (A_X10_takeRule l ka0 h) (cwV 2 hts (gj_V ml_RX10_134 i_X10_takeRule s_X10_takeRule n_RX10 k_X10_takeRule) rfl rfl rfl (by decide +kernel) ⟨by exact Nat.le_of_ble_eq_true rfl, by exact Nat.le_of_ble_eq_true rfl⟩) (j_preV hK hSX hG (ci := 9) rfl ka0 (by decide)) rfl rfl hl.1 rfl (lv_room (Nat.le_of_ble_eq_true rfl)) dX10_dropRule_16 ⟨by exact Nat.le_of_ble_eq_true rfl, by exact Nat.le_of_ble_eq_true rfl⟩) hG (c2 := 0) (s2 := 0) ⟨by exact Nat.le_of_ble_eq_true rfl, by exact Nat.le_of_ble_eq_true rfl⟩ (fun z8 M9 h H locs hG => ?_)
  rw [hQf]
  exact j_ireti hx hb hr hlocks hG h (by decide) dX10_dropRule_19
abbrev rm_X10_dropRule : Room := { frames := 8, cells := 1, slots := 6, locals := 144 }
set_option maxRecDepth 100000 in
set_option maxHeartbeats 4000000 in
theorem A_X10_dropRule (l : Launch) (hst : l.stackTraces = false) {D : va_G} {cy : Nat → ClassId} {o : Nat} {sK sV : Nat → Nat} {M : jT} {a0 : Int} {a1 : Int} {a2 : Int} (ka0 : kd a0 = 10) {Q : Int → jT → Prop} {X : Nat → jT → Prop} (h : wp_X10_dropRule M a0 a1 a2 Q X) : CxI l yX10_dropRule (wj yX10_dropRule cX10_dropRule 3 (some .int)) rm_X10_dropRule D cy o sK sV M [.ref (rA o a0), .int (J a1), .int (J a2)] Q X := by
  refine j_ofWx (cc := cX10_dropRule) (maxL := 3) (ret := (some .int)) (by decide) rfl (Nat.le_of_ble_eq_true rfl) ?_
  intro p e s m args below meth c hx hb hr hlocks hout hml hown hts hK hSX H locs hsz hG ls hl Qf hQf
  have hown : s.vm.findClass RX10 = some m.cls := hown
  have hl : lv_has ls 3 [(0, .ref (rA o a0)), (1, .int (J a1)), (2, .int (J a2))] := hl
  unfold wp_X10_dropRule at h
  refine lv_aload_n hx hb dX10_dropRule_0 rfl (lv_at hl 0 rfl) ?_
  refine lv_iload_n hx hb dX10_dropRule_1 rfl (lv_at hl 1 rfl) ?_
  refine lv_iload_n hx hb dX10_dropRule_2 rfl (lv_at hl 2 rfl) ?_
  obtain ⟨g1, h⟩ := h
  refine j_conti (va_runV (As := [.int (J a1), .int (J a2)]) (rest := []) ⟨hx, hb, hml, hown, hts⟩ (A_X10_ruleIndexFault l ka0 g1) (cwV 2 hts (gj_V ml_RX10_131 i_X10_ruleIndexFault s_X10_ruleIndexFault n_RX10 k_X10_ruleIndexFault) rfl rfl rfl (by decide +kernel) ⟨by exact Nat.le_of_ble_eq_true rfl, by exact Nat.le_of_ble_eq_true rfl⟩) (j_preV hK hSX hG (ci := 9) rfl ka0 (by decide)) rfl rfl hl.1 rfl (lv_room (Nat.le_of_ble_eq_true rfl)) dX10_dropRule_3 ⟨by exact Nat.le_of_ble_eq_true rfl, by exact Nat.le_of_ble_eq_true rfl⟩) hG (c2 := 0) (s2 := 0) ⟨by exact Nat.le_of_ble_eq_true rfl, by exact Nat.le_of_ble_eq_true rfl⟩ (fun z2 M3 ez2 H locs hG => ?_)
  obtain ⟨ez2, eM3⟩ := ez2
  subst ez2
  rw [eM3] at hG
  rcases h with h | h
  · refine j_contv (va_runS (As := [.int (J (pf_X10_ruleIndexFault M a0 a1 a2))]) (rest := []) ⟨hx, hb, hml, hown, hts⟩ (Ao_X10_refuse l h) (va_cwS 1 hts (gj_S ml_RX10_107 i_X10_refuse n_RX10 k_X10_refuse) rfl rfl rfl (by decide +kernel) ⟨by exact Nat.le_of_ble_eq_true rfl, by exact Nat.le_of_ble_eq_true rfl⟩) (j_preS hK hSX hG) rfl rfl hl.1 rfl (lv_room (Nat.le_of_ble_eq_true rfl)) dX10_dropRule_6 ⟨by exact Nat.le_of_ble_eq_true rfl, by exact Nat.le_of_ble_eq_true rfl⟩) hG (c2 := 0) (s2 := 0) ⟨by exact Nat.le_of_ble_eq_true rfl, by exact Nat.le_of_ble_eq_true rfl⟩ (fun M5 h H locs hG => ?_)
    obtain ⟨h, eM5⟩ := h
    rw [eM5] at hG
    refine lv_aload_n hx hb dX10_dropRule_9 rfl (lv_at hl 0 rfl) ?_
    refine j_contv (va_runV (As := []) (rest := []) ⟨hx, hb, hml, hown, hts⟩ (A_X10_remember l ka0 h) (cwV 0 hts (gj_V ml_RX10_111 i_X10_remember s_X10_remember n_RX10 k_X10_remember) rfl rfl rfl (by decide +kernel) ⟨by exact Nat.le_of_ble_eq_true rfl, by exact Nat.le_of_ble_eq_true rfl⟩) (j_preV hK hSX hG (ci := 9) rfl ka0 (by decide)) rfl rfl hl.1 rfl (lv_room (Nat.le_of_ble_eq_true rfl)) dX10_dropRule_10 ⟨by exact Nat.le_of_ble_eq_true rfl, by exact Nat.le_of_ble_eq_true rfl⟩) hG (c2 := 0) (s2 := 0) ⟨by exact Nat.le_of_ble_eq_true rfl, by exact Nat.le_of_ble_eq_true rfl⟩ (fun M7 h H locs hG => ?_)
    refine lv_aload_n hx hb dX10_dropRule_13 rfl (lv_at hl 0 rfl) ?_
    refine lv_iload_n hx hb dX10_dropRule_14 rfl (lv_at hl 1 rfl) ?_
    refine lv_iload_n hx hb dX10_dropRule_15 rfl (lv_at hl 2 rfl) ?_
    refine j_conti (va_runV (As := [.int (J a1), .int (J a2)]) (rest := []) ⟨hx, hb, hml, hown, hts⟩ (A_X10_takeRule l ka0 h) (cwV 2 hts (gj_V ml_RX10_134 i_X10_takeRule s_X10_takeRule n_RX10 k_X10_takeRule) rfl rfl rfl (by decide +kernel) ⟨by exact Nat.le_of_ble_eq_true rfl, by exact Nat.le_of_ble_eq_true rfl⟩) (j_preV hK hSX hG (ci := 9) rfl ka0 (by decide)) rfl rfl hl.1 rfl (lv_room (Nat.le_of_ble_eq_true rfl)) dX10_dropRule_16 ⟨by exact Nat.le_of_ble_eq_true rfl, by exact Nat.le_of_ble_eq_true rfl⟩) hG (c2 := 0) (s2 := 0) ⟨by exact Nat.le_of_ble_eq_true rfl, by exact Nat.le_of_ble_eq_true rfl⟩ (fun z8 M9 h H locs hG => ?_)
    rw [hQf]
    exact vx_ret (j_ireti hx hb hr hlocks hG h (by decide) dX10_dropRule_19)
  · refine j_contxv (vx_runS (As := [.int (J (pf_X10_ruleIndexFault M a0 a1 a2))]) (rest := []) ⟨hx, hb, hml, hown, hts⟩ (A_X10_refuse l hst h) (va_cwS 1 hts (gj_S ml_RX10_107 i_X10_refuse n_RX10 k_X10_refuse) rfl rfl rfl (by decide +kernel) ⟨by exact Nat.le_of_ble_eq_true rfl, by exact Nat.le_of_ble_eq_true rfl⟩) (j_preS hK hSX hG) rfl rfl hl.1 rfl (lv_room (Nat.le_of_ble_eq_true rfl)) dX10_dropRule_6 ⟨by exact Nat.le_of_ble_eq_true rfl, by exact Nat.le_of_ble_eq_true rfl⟩) hG (c2 := 1) (s2 := 6) ⟨by exact Nat.le_of_ble_eq_true rfl, by exact Nat.le_of_ble_eq_true rfl⟩ (fun x M h ce q H locs hG h1 h2 h3 => ?_) (fun M h H locs hG => h.elim)
    rw [hQf]
    exact j_xout hlocks hout hG h h1 h2 h3 (by decide)

abbrev rom_X10_needZone : Room := { frames := 1, cells := 0, slots := 0, locals := 21 }
set_option maxRecDepth 100000 in
set_option maxHeartbeats 4000000 in
theorem Ao_X10_needZone (l : Launch) {D : va_G} {cy : Nat → ClassId} {o : Nat} {sK sV : Nat → Nat} {M : jT} {a0 : Int} {a1 : Int} (ka0 : kd a0 = 10) {Q : Prop} (h : wo_X10_needZone M a0 a1 Q) : CoV l yX10_needZone (wj yX10_needZone cX10_needZone 2 none) rom_X10_needZone D cy o sK sV M [.ref (rA o a0), .int (J a1)] (fun M9 => Q ∧ M9 = M) := by
  refine j_ofW (cc := cX10_needZone) (maxL := 2) (ret := none) (by decide) rfl (Nat.le_of_ble_eq_true rfl) ?_
  intro p e s m args below meth c hx hb hr hlocks hml hown hts hK hSX H locs hG ls hl Qf hQf
  have hown : s.vm.findClass RX10 = some m.cls := hown
  have hl : lv_has ls 2 [(0, .ref (rA o a0)), (1, .int (J a1))] := hl
  unfold wo_X10_needZone at h
  refine lv_aload_n hx hb dX10_needZone_0 rfl (lv_at hl 0 rfl) ?_
  refine lv_iload_n hx hb dX10_needZone_1 rfl (lv_at hl 1 rfl) ?_
  obtain ⟨g1, h⟩ := h
  refine j_conti (va_runV (As := [.int (J a1)]) (rest := []) ⟨hx, hb, hml, hown, hts⟩ (A_X10_hasZone l ka0 g1) (cwV 1 hts (gj_V ml_RX10_475 i_X10_hasZone s_X10_hasZone n_RX10 k_X10_hasZone) rfl rfl rfl (by decide +kernel) ⟨by exact Nat.le_of_ble_eq_true rfl, by exact Nat.le_of_ble_eq_true rfl⟩) (j_preV hK hSX hG (ci := 9) rfl ka0 (by decide)) rfl rfl hl.1 rfl (lv_room (Nat.le_of_ble_eq_true rfl)) dX10_needZone_2 ⟨by exact Nat.le_of_ble_eq_true rfl, by exact Nat.le_of_ble_eq_true rfl⟩) hG (c2 := 0) (s2 := 0) ⟨by exact Nat.le_of_ble_eq_true rfl, by exact Nat.le_of_ble_eq_true rfl⟩ (fun z2 M3 ez2 H locs hG => ?_)
  obtain ⟨ez2, eM3⟩ := ez2
  subst ez2
  rw [eM3] at hG
  refine j_contv (va_runS (As := [.int (J (b2i (pb_X10_hasZone M a0 a1)))]) (rest := []) ⟨hx, hb, hml, hown, hts⟩ (Ao_X10_needIndex l h) (va_cwS 1 hts (gj_S ml_RX10_88 i_X10_needIndex n_RX10 k_X10_needIndex) rfl rfl rfl (by decide +kernel) ⟨by exact Nat.le_of_ble_eq_true rfl, by exact Nat.le_of_ble_eq_true rfl⟩) (j_preS hK hSX hG) rfl rfl hl.1 rfl (lv_room (Nat.le_of_ble_eq_true rfl)) dX10_needZone_5 ⟨by exact Nat.le_of_ble_eq_true rfl, by exact Nat.le_of_ble_eq_true rfl⟩) hG (c2 := 0) (s2 := 0) ⟨by exact Nat.le_of_ble_eq_true rfl, by exact Nat.le_of_ble_eq_true rfl⟩ (fun M5 h H locs hG => ?_)
  obtain ⟨h, eM5⟩ := h
  rw [eM5] at hG
  rw [hQf]
  exact j_vret hx hb hr hlocks hG ⟨h, rfl⟩ (by decide) dX10_needZone_8
abbrev rm_X10_needZone : Room := { frames := 7, cells := 1, slots := 6, locals := 110 }
set_option maxRecDepth 100000 in
set_option maxHeartbeats 4000000 in
theorem A_X10_needZone (l : Launch) (hst : l.stackTraces = false) {D : va_G} {cy : Nat → ClassId} {o : Nat} {sK sV : Nat → Nat} {M : jT} {a0 : Int} {a1 : Int} (ka0 : kd a0 = 10) {Q : jT → Prop} {X : Nat → jT → Prop} (h : wp_X10_needZone M a0 a1 Q X) : CxV l yX10_needZone (wj yX10_needZone cX10_needZone 2 none) rm_X10_needZone D cy o sK sV M [.ref (rA o a0), .int (J a1)] Q X := by
  refine j_ofWx (cc := cX10_needZone) (maxL := 2) (ret := none) (by decide) rfl (Nat.le_of_ble_eq_true rfl) ?_
  intro p e s m args below meth c hx hb hr hlocks hout hml hown hts hK hSX H locs hsz hG ls hl Qf hQf
  have hown : s.vm.findClass RX10 = some m.cls := hown
  have hl : lv_has ls 2 [(0, .ref (rA o a0)), (1, .int (J a1))] := hl
  unfold wp_X10_needZone at h
  refine lv_aload_n hx hb dX10_needZone_0 rfl (lv_at hl 0 rfl) ?_
  refine lv_iload_n hx hb dX10_needZone_1 rfl (lv_at hl 1 rfl) ?_
  obtain ⟨g1, h⟩ := h
  refine j_conti (va_runV (As := [.int (J a1)]) (rest := []) ⟨hx, hb, hml, hown, hts⟩ (A_X10_hasZone l ka0 g1) (cwV 1 hts (gj_V ml_RX10_475 i_X10_hasZone s_X10_hasZone n_RX10 k_X10_hasZone) rfl rfl rfl (by decide +kernel) ⟨by exact Nat.le_of_ble_eq_true rfl, by exact Nat.le_of_ble_eq_true rfl⟩) (j_preV hK hSX hG (ci := 9) rfl ka0 (by decide)) rfl rfl hl.1 rfl (lv_room (Nat.le_of_ble_eq_true rfl)) dX10_needZone_2 ⟨by exact Nat.le_of_ble_eq_true rfl, by exact Nat.le_of_ble_eq_true rfl⟩) hG (c2 := 0) (s2 := 0) ⟨by exact Nat.le_of_ble_eq_true rfl, by exact Nat.le_of_ble_eq_true rfl⟩ (fun z2 M3 ez2 H locs hG => ?_)
  obtain ⟨ez2, eM3⟩ := ez2
  subst ez2
  rw [eM3] at hG
  rcases h with h | h
  · refine j_contv (va_runS (As := [.int (J (b2i (pb_X10_hasZone M a0 a1)))]) (rest := []) ⟨hx, hb, hml, hown, hts⟩ (Ao_X10_needIndex l h) (va_cwS 1 hts (gj_S ml_RX10_88 i_X10_needIndex n_RX10 k_X10_needIndex) rfl rfl rfl (by decide +kernel) ⟨by exact Nat.le_of_ble_eq_true rfl, by exact Nat.le_of_ble_eq_true rfl⟩) (j_preS hK hSX hG) rfl rfl hl.1 rfl (lv_room (Nat.le_of_ble_eq_true rfl)) dX10_needZone_5 ⟨by exact Nat.le_of_ble_eq_true rfl, by exact Nat.le_of_ble_eq_true rfl⟩) hG (c2 := 0) (s2 := 0) ⟨by exact Nat.le_of_ble_eq_true rfl, by exact Nat.le_of_ble_eq_true rfl⟩ (fun M5 h H locs hG => ?_)
    obtain ⟨h, eM5⟩ := h
    rw [eM5] at hG
    rw [hQf]
    exact vx_ret (j_vret hx hb hr hlocks hG h (by decide) dX10_needZone_8)
  · refine j_contxv (vx_runS (As := [.int (J (b2i (pb_X10_hasZone M a0 a1)))]) (rest := []) ⟨hx, hb, hml, hown, hts⟩ (A_X10_needIndex l hst h) (va_cwS 1 hts (gj_S ml_RX10_88 i_X10_needIndex n_RX10 k_X10_needIndex) rfl rfl rfl (by decide +kernel) ⟨by exact Nat.le_of_ble_eq_true rfl, by exact Nat.le_of_ble_eq_true rfl⟩) (j_preS hK hSX hG) rfl rfl hl.1 rfl (lv_room (Nat.le_of_ble_eq_true rfl)) dX10_needZone_5 ⟨by exact Nat.le_of_ble_eq_true rfl, by exact Nat.le_of_ble_eq_true rfl⟩) hG (c2 := 1) (s2 := 6) ⟨by exact Nat.le_of_ble_eq_true rfl, by exact Nat.le_of_ble_eq_true rfl⟩ (fun x M h ce q H locs hG h1 h2 h3 => ?_) (fun M h H locs hG => h.elim)
    rw [hQf]
    exact j_xout hlocks hout hG h h1 h2 h3 (by decide)

abbrev rm_X9_ruleNumber : Room := { frames := 0, cells := 0, slots := 0, locals := 0 }
set_option maxRecDepth 100000 in
set_option maxHeartbeats 4000000 in
theorem A_X9_ruleNumber (l : Launch) {D : va_G} {cy : Nat → ClassId} {o : Nat} {sK sV : Nat → Nat} {M : jT} {a0 : Int} {a1 : Int} {a2 : Int} (ka0 : kd a0 = 9) (h : pg_X9_ruleNumber M a0 a1 a2) : CoI l yX9_ruleNumber (wj yX9_ruleNumber cX9_ruleNumber 3 (some .int)) rm_X9_ruleNumber D cy o sK sV M [.ref (rA o a0), .int (J a1), .int (J a2)] (fun z M9 => z = pf_X9_ruleNumber M a0 a1 a2 ∧ M9 = M) := by
  refine j_ofW (cc := cX9_ruleNumber) (maxL := 3) (ret := (some .int)) (by decide) rfl (Nat.le_of_ble_eq_true rfl) ?_
  intro p e s m args below meth c hx hb hr hlocks hml hown hts hK hSX H locs hG ls hl Qf hQf
  have hown : s.vm.findClass RX9 = some m.cls := hown
  have hl : lv_has ls 3 [(0, .ref (rA o a0)), (1, .int (J a1)), (2, .int (J a2))] := hl
  have w_fl_RX9_9 := hts _ (List.mem_cons_of_mem _ fl_RX9_9)
  unfold pg_X9_ruleNumber at h
  refine lv_aload_n hx hb dX9_ruleNumber_0 rfl (lv_at hl 0 rfl) ?_
  refine j_getr hx hb hts hown hK hG (k := a0) (fun w h => List.mem_cons_of_mem _ (u_X9 w h)) (ci := 8) rfl ka0 3 (k2 := a0 + 1) (by decide) (by show a0 + (1 : Int) = a0 + 1; omega) w_fl_RX9_9 dX9_ruleNumber_1 ?_
  refine lv_iload_n hx hb dX9_ruleNumber_4 rfl (lv_at hl 1 rfl) ?_
  refine lv_bipush (v := J 7) hx hb dX9_ruleNumber_5 (by decide) ?_
  refine j_imul hx hb dX9_ruleNumber_7 ?_
  refine lv_iload_n hx hb dX9_ruleNumber_8 rfl (lv_at hl 2 rfl) ?_
  refine j_iadd hx hb dX9_ruleNumber_9 ?_
  obtain ⟨g1, h⟩ := h
  refine j_iald hx hb hK hG (n := 56) (kf_9_3 ka0) (by decide) g1 dX9_ruleNumber_10 ?_
  rw [hQf]
  exact j_ireti hx hb hr hlocks hG ⟨rfl, rfl⟩ (by decide) dX9_ruleNumber_11

abbrev rm_X9_putKey : Room := { frames := 1, cells := 0, slots := 0, locals := 22 }
set_option maxRecDepth 100000 in
set_option maxHeartbeats 4000000 in
theorem A_X9_putKey (l : Launch) {D : va_G} {cy : Nat → ClassId} {o : Nat} {sK sV : Nat → Nat} {M : jT} {a0 : Int} {a1 : Int} {a2 : Int} {a3 : Int} {a4 : Int} (ka0 : kd a0 = 9) (ka1 : kd a1 = 100260) {Q : Int → jT → Prop} (h : wp_X9_putKey M a0 a1 a2 a3 a4 Q) : CoI l yX9_putKey (wj yX9_putKey cX9_putKey 6 (some .int)) rm_X9_putKey D cy o sK sV M [.ref (rA o a0), .ref (rA o a1), .int (J a2), .int (J a3), .int (J a4)] Q := by
  refine j_ofW (cc := cX9_putKey) (maxL := 6) (ret := (some .int)) (by decide) rfl (Nat.le_of_ble_eq_true rfl) ?_
  intro p e s m args below meth c hx hb hr hlocks hml hown hts hK hSX H locs hG ls hl Qf hQf
  have hown : s.vm.findClass RX9 = some m.cls := hown
  have hl : lv_has ls 6 [(0, .ref (rA o a0)), (1, .ref (rA o a1)), (2, .int (J a2)), (3, .int (J a3)), (4, .int (J a4))] := hl
  have w_cl_RX9_58 := hts _ (List.mem_cons_of_mem _ cl_RX9_58)
  unfold wp_X9_putKey at h
  refine lv_iload_n hx hb dX9_putKey_0 rfl (lv_at hl 3 rfl) ?_
  obtain ⟨K21, hK21, h⟩ := h
  have jK21 : K21 → ∀ (H : Heap) (locs : List Loc), GM D cy o M s.heap H locs → ∀ ls : Array Slot, lv_has ls 6 [(2, .int (J a2))] → W p l e rm_X9_putKey s m args below meth c H locs 0 0 Qf (F0 m 10 ls []) := by
    intro hcK21 H locs hG ls hl
    have h := hK21 hcK21
    refine lv_iload_n hx hb dX9_putKey_10 rfl (lv_at hl 0 rfl) ?_
    rw [hQf]
    exact j_ireti hx hb hr hlocks hG h (by decide) dX9_putKey_11
  obtain ⟨g23, h⟩ := h
  refine j_if_lt (tgt := 10) hx hb dX9_putKey_1 (by decide) g23 (fun c22 => ?_) (fun c22 => ?_)
  · have h := h.1 c22
    exact jK21 h H locs hG ls (lv_sub hl [2] rfl)
  · have h := h.2 c22
    refine lv_iload_n hx hb dX9_putKey_4 rfl (lv_at hl 2 rfl) ?_
    refine lv_aload_n hx hb dX9_putKey_5 rfl (lv_at hl 1 rfl) ?_
    refine j_alenz_l hx hb hK hG (n := 260) (nz := 260) rfl ka1 (by decide) dX9_putKey_6 ?_
    obtain ⟨g25, h⟩ := h
    refine j_icmp_lt (tgt := 12) hx hb dX9_putKey_7 (by decide) g25 (by decide) (fun c24 => ?_) (fun c24 => ?_)
    · have h := h.1 c24
      refine lv_iload hx hb dX9_putKey_12 (lv_at hl 4 rfl) ?_
      refine lv_iconst (v := J 4) hx hb dX9_putKey_14 (by decide) ?_
      obtain ⟨hg, h⟩ := h
      have jK32 : ∀ x31 : Int, (4 ≤ a4 → x31 = pf_X9_ruleNumber M a0 (a4 - 4) 4) → (a4 < 4 → x31 = 0) → ∀ (H : Heap) (locs : List Loc), GM D cy o M s.heap H locs → ∀ ls : Array Slot, lv_has ls 6 [(1, .ref (rA o a1)), (2, .int (J a2)), (3, .int (J a3)), (4, .int (J a4))] → W p l e rm_X9_putKey s m args below meth c H locs 0 0 Qf (F0 m 31 ls [.int (J x31)]) := by
        intro x31 qx31_0 qx31_1 H locs hG ls hl
        have h := h x31 qx31_0 qx31_1
        refine lv_istore (lv' := [(5, .int (J x31)), (1, .ref (rA o a1)), (2, .int (J a2)), (3, .int (J a3)), (4, .int (J a4))]) hx hb dX9_putKey_31 hl (by decide) rfl (fun ls hl => ?_)
        refine lv_aload_n hx hb dX9_putKey_33 rfl (lv_at hl 1 rfl) ?_
        refine lv_iload_n hx hb dX9_putKey_34 rfl (lv_at hl 2 rfl) ?_
        refine lv_sipush (v := J 1440) hx hb dX9_putKey_35 (by decide) ?_
        refine lv_iload_n hx hb dX9_putKey_38 rfl (lv_at hl 3 rfl) ?_
        refine j_imul hx hb dX9_putKey_39 ?_
        refine lv_iload hx hb dX9_putKey_40 (lv_at hl 0 rfl) ?_
        refine j_iadd hx hb dX9_putKey_42 ?_
        obtain ⟨g38, h⟩ := h
        refine j_i2l hx hb dX9_putKey_43 g38 ?_
        refine lv_ldc2 (v := JL 16) hx hb hown (show (Cond.constantLong RX9 58 (JL 16)).before args s = true from w_cl_RX9_58) dX9_putKey_44 ?_
        refine j_lmul hx hb dX9_putKey_47 ?_
        refine lv_iload hx hb dX9_putKey_48 (lv_at hl 4 rfl) ?_
        obtain ⟨g39, h⟩ := h
        refine j_i2l hx hb dX9_putKey_50 g39 ?_
        refine j_ladd hx hb dX9_putKey_51 ?_
        obtain ⟨g40, h⟩ := h
        refine j_last hx hb hK hG (n := 260) ka1 (by decide) g40 dX9_putKey_52 (fun M41 eM41 H locs hG => ?_)
        have h := h M41 eM41
        refine lv_iload_n hx hb dX9_putKey_53 rfl (lv_at hl 2 rfl) ?_
        refine lv_iconst (v := J 1) hx hb dX9_putKey_54 (by decide) ?_
        refine j_iadd hx hb dX9_putKey_55 ?_
        rw [hQf]
        exact j_ireti hx hb hr hlocks hG h (by decide) dX9_putKey_56
      have h := hg
      obtain ⟨g34, h⟩ := h
      refine j_icmp_ge (tgt := 22) hx hb dX9_putKey_15 (by decide) g34 (by decide) (fun c33 => ?_) (fun c33 => ?_)
      · have h := h.1 c33
        refine lv_aload_n hx hb dX9_putKey_22 rfl (lv_at hl 0 rfl) ?_
        refine lv_iload hx hb dX9_putKey_23 (lv_at hl 4 rfl) ?_
        refine lv_iconst (v := J 4) hx hb dX9_putKey_25 (by decide) ?_
        refine j_isub hx hb dX9_putKey_26 ?_
        refine lv_iconst (v := J 4) hx hb dX9_putKey_27 (by decide) ?_
        obtain ⟨g35, h⟩ := h
        refine j_conti (va_runV (As := [.int (J (a4 - 4)), .int (J 4)]) (rest := []) ⟨hx, hb, hml, hown, hts⟩ (A_X9_ruleNumber l ka0 g35) (cwV 2 hts (gj_V ml_RX9_47 i_X9_ruleNumber s_X9_ruleNumber n_RX9 k_X9_ruleNumber) rfl rfl rfl (by decide +kernel) ⟨by exact Nat.le_of_ble_eq_true rfl, by exact Nat.le_of_ble_eq_true rfl⟩) (j_preV hK hSX hG (ci := 8) rfl ka0 (by decide)) rfl rfl hl.1 rfl (lv_room (Nat.le_of_ble_eq_true rfl)) dX9_putKey_28 ⟨by exact Nat.le_of_ble_eq_true rfl, by exact Nat.le_of_ble_eq_true rfl⟩) hG (c2 := 0) (s2 := 0) ⟨by exact Nat.le_of_ble_eq_true rfl, by exact Nat.le_of_ble_eq_true rfl⟩ (fun z36 M37 ez36 H locs hG => ?_)
        obtain ⟨ez36, eM37⟩ := ez36
        subst ez36
        rw [eM37] at hG
        exact jK32 (pf_X9_ruleNumber M a0 (a4 - 4) 4) (fun _ => rfl) (fun q => absurd q (by omega)) H locs hG ls (lv_sub hl [1, 2, 3, 4] rfl)
      · have h := h.2 c33
        refine lv_iconst (v := J 0) hx hb dX9_putKey_18 (by decide) ?_
        refine lv_goto (tgt := 31) hx hb dX9_putKey_19 (by decide) ?_
        exact jK32 0 (fun q => absurd q (by omega)) (fun _ => rfl) H locs hG ls (lv_sub hl [1, 2, 3, 4] rfl)
    · have h := h.2 c24
      exact jK21 h H locs hG ls (lv_sub hl [2] rfl)

abbrev rm_X1_weekdayFrom : Room := { frames := 0, cells := 0, slots := 0, locals := 0 }
set_option maxRecDepth 100000 in
set_option maxHeartbeats 4000000 in
theorem A_X1_weekdayFrom (l : Launch) {D : va_G} {cy : Nat → ClassId} {o : Nat} {sK sV : Nat → Nat} {M : jT} {a0 : Int} {a1 : Int} (h : pg_X1_weekdayFrom a0 a1) : CoI l yX1_weekdayFrom (wj yX1_weekdayFrom cX1_weekdayFrom 2 (some .int)) rm_X1_weekdayFrom D cy o sK sV M [.int (J a0), .int (J a1)] (fun z M9 => z = pf_X1_weekdayFrom a0 a1 ∧ M9 = M) := by
  refine j_ofW (cc := cX1_weekdayFrom) (maxL := 2) (ret := (some .int)) (by decide) rfl (Nat.le_of_ble_eq_true rfl) ?_
  intro p e s m args below meth c hx hb hr hlocks hml hown hts hK hSX H locs hG ls hl Qf hQf
  have hown : s.vm.findClass RX1 = some m.cls := hown
  have hl : lv_has ls 2 [(0, .int (J a0)), (1, .int (J a1))] := hl
  unfold pg_X1_weekdayFrom at h
  refine lv_iload_n hx hb dX1_weekdayFrom_0 rfl (lv_at hl 0 rfl) ?_
  refine lv_iload_n hx hb dX1_weekdayFrom_1 rfl (lv_at hl 1 rfl) ?_
  refine lv_iload_n hx hb dX1_weekdayFrom_2 rfl (lv_at hl 0 rfl) ?_
  refine lv_iconst (v := J 5) hx hb dX1_weekdayFrom_3 (by decide) ?_
  refine j_iadd hx hb dX1_weekdayFrom_4 ?_
  refine lv_bipush (v := J 7) hx hb dX1_weekdayFrom_5 (by decide) ?_
  obtain ⟨g1, h⟩ := h
  refine j_irem hx hb dX1_weekdayFrom_7 g1 (by decide) ?_
  refine j_isub hx hb dX1_weekdayFrom_8 ?_
  refine lv_bipush (v := J 7) hx hb dX1_weekdayFrom_9 (by decide) ?_
  refine j_iadd hx hb dX1_weekdayFrom_11 ?_
  refine lv_bipush (v := J 7) hx hb dX1_weekdayFrom_12 (by decide) ?_
  obtain ⟨g2, h⟩ := h
  refine j_irem hx hb dX1_weekdayFrom_14 g2 (by decide) ?_
  refine j_iadd hx hb dX1_weekdayFrom_15 ?_
  rw [hQf]
  exact j_ireti hx hb hr hlocks hG ⟨rfl, rfl⟩ (by decide) dX1_weekdayFrom_16

abbrev rm_X1_dayOfDate : Room := { frames := 1, cells := 0, slots := 0, locals := 22 }
set_option maxRecDepth 100000 in
set_option maxHeartbeats 4000000 in
theorem A_X1_dayOfDate (l : Launch) {D : va_G} {cy : Nat → ClassId} {o : Nat} {sK sV : Nat → Nat} {M : jT} {a0 : Int} {a1 : Int} {a2 : Int} (h : pg_X1_dayOfDate a0 a1 a2) : CoI l yX1_dayOfDate (wj yX1_dayOfDate cX1_dayOfDate 6 (some .int)) rm_X1_dayOfDate D cy o sK sV M [.int (J a0), .int (J a1), .int (J a2)] (fun z M9 => z = pf_X1_dayOfDate a0 a1 a2 ∧ M9 = M) := by
  refine j_ofW (cc := cX1_dayOfDate) (maxL := 6) (ret := (some .int)) (by decide) rfl (Nat.le_of_ble_eq_true rfl) ?_
  intro p e s m args below meth c hx hb hr hlocks hml hown hts hK hSX H locs hG ls hl Qf hQf
  have hown : s.vm.findClass RX1 = some m.cls := hown
  have hl : lv_has ls 6 [(0, .int (J a0)), (1, .int (J a1)), (2, .int (J a2))] := hl
  unfold pg_X1_dayOfDate at h
  refine lv_iload_n hx hb dX1_dayOfDate_0 rfl (lv_at hl 0 rfl) ?_
  refine lv_iload_n hx hb dX1_dayOfDate_1 rfl (lv_at hl 1 rfl) ?_
  obtain ⟨g1, h⟩ := h
  refine j_conti (va_runS (As := [.int (J a0), .int (J a1)]) (rest := []) ⟨hx, hb, hml, hown, hts⟩ (A_X1_monthStart l g1) (va_cwS 2 hts (gj_S ml_RX1_13 i_X1_monthStart n_RX1 k_X1_monthStart) rfl rfl rfl (by decide +kernel) ⟨by exact Nat.le_of_ble_eq_true rfl, by exact Nat.le_of_ble_eq_true rfl⟩) (j_preS hK hSX hG) rfl rfl hl.1 rfl (lv_room (Nat.le_of_ble_eq_true rfl)) dX1_dayOfDate_2 ⟨by exact Nat.le_of_ble_eq_true rfl, by exact Nat.le_of_ble_eq_true rfl⟩) hG (c2 := 0) (s2 := 0) ⟨by exact Nat.le_of_ble_eq_true rfl, by exact Nat.le_of_ble_eq_true rfl⟩ (fun z2 M3 ez2 H locs hG => ?_)
  obtain ⟨ez2, eM3⟩ := ez2
  subst ez2
  rw [eM3] at hG
  refine lv_istore_n (lv' := [(3, .int (J (pf_X1_monthStart a0 a1))), (0, .int (J a0)), (1, .int (J a1)), (2, .int (J a2))]) hx hb dX1_dayOfDate_5 rfl hl (by decide) rfl (fun ls hl => ?_)
  refine lv_iload_n hx hb dX1_dayOfDate_6 rfl (lv_at hl 0 rfl) ?_
  refine lv_iload_n hx hb dX1_dayOfDate_7 rfl (lv_at hl 1 rfl) ?_
  refine lv_iload_n hx hb dX1_dayOfDate_8 rfl (lv_at hl 2 rfl) ?_
  obtain ⟨g4, h⟩ := h
  refine j_conti (va_runS (As := [.int (J a0), .int (J a1)]) (rest := [.int (J (pf_X1_monthStart a0 a1))]) ⟨hx, hb, hml, hown, hts⟩ (A_X1_monthLength l g4) (va_cwS 2 hts (gj_S ml_RX1_17 i_X1_monthLength n_RX1 k_X1_monthLength) rfl rfl rfl (by decide +kernel) ⟨by exact Nat.le_of_ble_eq_true rfl, by exact Nat.le_of_ble_eq_true rfl⟩) (j_preS hK hSX hG) rfl rfl hl.1 rfl (lv_room (Nat.le_of_ble_eq_true rfl)) dX1_dayOfDate_9 ⟨by exact Nat.le_of_ble_eq_true rfl, by exact Nat.le_of_ble_eq_true rfl⟩) hG (c2 := 0) (s2 := 0) ⟨by exact Nat.le_of_ble_eq_true rfl, by exact Nat.le_of_ble_eq_true rfl⟩ (fun z5 M6 ez5 H locs hG => ?_)
  obtain ⟨ez5, eM6⟩ := ez5
  subst ez5
  rw [eM6] at hG
  refine j_iadd hx hb dX1_dayOfDate_12 ?_
  refine lv_istore (lv' := [(4, .int (J ((pf_X1_monthStart a0 a1) + (pf_X1_monthLength a0 a1)))), (3, .int (J (pf_X1_monthStart a0 a1))), (0, .int (J a0)), (1, .int (J a1)), (2, .int (J a2))]) hx hb dX1_dayOfDate_13 hl (by decide) rfl (fun ls hl => ?_)
  refine lv_iload_n hx hb dX1_dayOfDate_15 rfl (lv_at hl 4 rfl) ?_
  refine lv_bipush (v := J 31) hx hb dX1_dayOfDate_16 (by decide) ?_
  obtain ⟨g8, h⟩ := h
  refine j_icmp_gt (tgt := 31) hx hb dX1_dayOfDate_18 (by decide) g8 (by decide) (fun c7 => ?_) (fun c7 => ?_)
  · have h := h.1 c7
    refine lv_iload_n hx hb dX1_dayOfDate_31 rfl (lv_at hl 4 rfl) ?_
    refine lv_sipush (v := J 500) hx hb dX1_dayOfDate_32 (by decide) ?_
    refine j_icmp_ge (tgt := 61) hx hb dX1_dayOfDate_35 (by decide) g8 (by decide) (fun c9 => ?_) (fun c9 => ?_)
    · have h := h.1 c9
      refine lv_iload_n hx hb dX1_dayOfDate_61 rfl (lv_at hl 4 rfl) ?_
      refine lv_sipush (v := J 1000) hx hb dX1_dayOfDate_62 (by decide) ?_
      refine j_icmp_ge (tgt := 85) hx hb dX1_dayOfDate_65 (by decide) g8 (by decide) (fun c10 => ?_) (fun c10 => ?_)
      · have h := h.1 c10
        refine lv_iload_n hx hb dX1_dayOfDate_85 rfl (lv_at hl 1 rfl) ?_
        refine lv_iload_n hx hb dX1_dayOfDate_86 rfl (lv_at hl 4 rfl) ?_
        refine lv_sipush (v := J 1000) hx hb dX1_dayOfDate_87 (by decide) ?_
        refine j_isub hx hb dX1_dayOfDate_90 ?_
        refine lv_bipush (v := J 10) hx hb dX1_dayOfDate_91 (by decide) ?_
        obtain ⟨g11, h⟩ := h
        refine j_idiv hx hb dX1_dayOfDate_93 g11 (by decide) ?_
        refine j_iadd hx hb dX1_dayOfDate_94 ?_
        refine lv_iconst (v := J 1) hx hb dX1_dayOfDate_95 (by decide) ?_
        refine j_isub hx hb dX1_dayOfDate_96 ?_
        refine lv_iload_n hx hb dX1_dayOfDate_97 rfl (lv_at hl 4 rfl) ?_
        refine lv_bipush (v := J 10) hx hb dX1_dayOfDate_98 (by decide) ?_
        obtain ⟨g12, h⟩ := h
        refine j_irem hx hb dX1_dayOfDate_100 g12 (by decide) ?_
        obtain ⟨g13, h⟩ := h
        refine j_conti (va_runS (As := [.int (J (((pf_X1_monthStart a0 a1) + ((a2 - 1000) / 10)) - 1)), .int (J (a2 % 10))]) (rest := []) ⟨hx, hb, hml, hown, hts⟩ (A_X1_weekdayFrom l g13) (va_cwS 2 hts (gj_S ml_RX1_20 i_X1_weekdayFrom n_RX1 k_X1_weekdayFrom) rfl rfl rfl (by decide +kernel) ⟨by exact Nat.le_of_ble_eq_true rfl, by exact Nat.le_of_ble_eq_true rfl⟩) (j_preS hK hSX hG) rfl rfl hl.1 rfl (lv_room (Nat.le_of_ble_eq_true rfl)) dX1_dayOfDate_101 ⟨by exact Nat.le_of_ble_eq_true rfl, by exact Nat.le_of_ble_eq_true rfl⟩) hG (c2 := 0) (s2 := 0) ⟨by exact Nat.le_of_ble_eq_true rfl, by exact Nat.le_of_ble_eq_true rfl⟩ (fun z14 M15 ez14 H locs hG => ?_)
        obtain ⟨ez14, eM15⟩ := ez14
        subst ez14
        rw [eM15] at hG
        refine lv_istore (lv' := [(5, .int (J (pf_X1_weekdayFrom (((pf_X1_monthStart a0 a1) + ((a2 - 1000) / 10)) - 1) (a2 % 10)))), (4, .int (J ((pf_X1_monthStart a0 a1) + (pf_X1_monthLength a0 a1)))), (3, .int (J (pf_X1_monthStart a0 a1))), (0, .int (J a0)), (1, .int (J a1)), (2, .int (J a2))]) hx hb dX1_dayOfDate_104 hl (by decide) rfl (fun ls hl => ?_)
        refine lv_iload hx hb dX1_dayOfDate_106 (lv_at hl 0 rfl) ?_
        refine lv_iload hx hb dX1_dayOfDate_108 (lv_at hl 1 rfl) ?_
        obtain ⟨g17, h⟩ := h
        obtain ⟨g18, h⟩ := h
        refine j_icmp_ge (tgt := 118) hx hb dX1_dayOfDate_110 (by decide) g17 g18 (fun c16 => ?_) (fun c16 => ?_)
        · have h := h.1 c16
          refine lv_iconst (v := J (-1)) hx hb dX1_dayOfDate_118 (by decide) ?_
          rw [hQf]
          exact j_ireti hx hb hr hlocks hG ⟨(by unfold pf_X1_dayOfDate; rw [if_pos c7, if_pos c9, if_pos c10, if_pos c16]), rfl⟩ (by decide) dX1_dayOfDate_119
        · have h := h.2 c16
          refine lv_iload hx hb dX1_dayOfDate_113 (lv_at hl 0 rfl) ?_
          refine lv_goto (tgt := 119) hx hb dX1_dayOfDate_115 (by decide) ?_
          rw [hQf]
          exact j_ireti hx hb hr hlocks hG ⟨(by unfold pf_X1_dayOfDate; rw [if_pos c7, if_pos c9, if_pos c10, if_neg (show ¬ ((pf_X1_monthStart a0 a1) + (pf_X1_monthLength a0 a1) ≤ pf_X1_weekdayFrom (((pf_X1_monthStart a0 a1) + ((a2 - 1000) / 10)) - 1) (a2 % 10)) from by omega)]), rfl⟩ (by decide) dX1_dayOfDate_119
      · have h := h.2 c10
        refine lv_iload hx hb dX1_dayOfDate_68 (lv_at hl 0 rfl) ?_
        refine lv_bipush (v := J 7) hx hb dX1_dayOfDate_70 (by decide) ?_
        refine j_isub hx hb dX1_dayOfDate_72 ?_
        refine lv_iload_n hx hb dX1_dayOfDate_73 rfl (lv_at hl 4 rfl) ?_
        refine lv_bipush (v := J 100) hx hb dX1_dayOfDate_74 (by decide) ?_
        obtain ⟨g19, h⟩ := h
        refine j_irem hx hb dX1_dayOfDate_76 g19 (by decide) ?_
        obtain ⟨g20, h⟩ := h
        refine j_conti (va_runS (As := [.int (J (((pf_X1_monthStart a0 a1) + (pf_X1_monthLength a0 a1)) - 7)), .int (J (a2 % 100))]) (rest := []) ⟨hx, hb, hml, hown, hts⟩ (A_X1_weekdayFrom l g20) (va_cwS 2 hts (gj_S ml_RX1_20 i_X1_weekdayFrom n_RX1 k_X1_weekdayFrom) rfl rfl rfl (by decide +kernel) ⟨by exact Nat.le_of_ble_eq_true rfl, by exact Nat.le_of_ble_eq_true rfl⟩) (j_preS hK hSX hG) rfl rfl hl.1 rfl (lv_room (Nat.le_of_ble_eq_true rfl)) dX1_dayOfDate_77 ⟨by exact Nat.le_of_ble_eq_true rfl, by exact Nat.le_of_ble_eq_true rfl⟩) hG (c2 := 0) (s2 := 0) ⟨by exact Nat.le_of_ble_eq_true rfl, by exact Nat.le_of_ble_eq_true rfl⟩ (fun z21 M22 ez21 H locs hG => ?_)
        obtain ⟨ez21, eM22⟩ := ez21
        subst ez21
        rw [eM22] at hG
        refine lv_istore (lv' := [(5, .int (J (pf_X1_weekdayFrom (((pf_X1_monthStart a0 a1) + (pf_X1_monthLength a0 a1)) - 7) (a2 % 100)))), (4, .int (J ((pf_X1_monthStart a0 a1) + (pf_X1_monthLength a0 a1)))), (3, .int (J (pf_X1_monthStart a0 a1))), (0, .int (J a0)), (1, .int (J a1)), (2, .int (J a2))]) hx hb dX1_dayOfDate_80 hl (by decide) rfl (fun ls hl => ?_)
        refine lv_goto (tgt := 106) hx hb dX1_dayOfDate_82 (by decide) ?_
        refine lv_iload hx hb dX1_dayOfDate_106 (lv_at hl 0 rfl) ?_
        refine lv_iload hx hb dX1_dayOfDate_108 (lv_at hl 1 rfl) ?_
        obtain ⟨g24, h⟩ := h
        obtain ⟨g25, h⟩ := h
        refine j_icmp_ge (tgt := 118) hx hb dX1_dayOfDate_110 (by decide) g24 g25 (fun c23 => ?_) (fun c23 => ?_)
        · have h := h.1 c23
          refine lv_iconst (v := J (-1)) hx hb dX1_dayOfDate_118 (by decide) ?_
          rw [hQf]
          exact j_ireti hx hb hr hlocks hG ⟨(by unfold pf_X1_dayOfDate; rw [if_pos c7, if_pos c9, if_neg (show ¬ (1000 ≤ a2) from by omega), if_pos c23]), rfl⟩ (by decide) dX1_dayOfDate_119
        · have h := h.2 c23
          refine lv_iload hx hb dX1_dayOfDate_113 (lv_at hl 0 rfl) ?_
          refine lv_goto (tgt := 119) hx hb dX1_dayOfDate_115 (by decide) ?_
          rw [hQf]
          exact j_ireti hx hb hr hlocks hG ⟨(by unfold pf_X1_dayOfDate; rw [if_pos c7, if_pos c9, if_neg (show ¬ (1000 ≤ a2) from by omega), if_neg (show ¬ ((pf_X1_monthStart a0 a1) + (pf_X1_monthLength a0 a1) ≤ pf_X1_weekdayFrom (((pf_X1_monthStart a0 a1) + (pf_X1_monthLength a0 a1)) - 7) (a2 % 100)) from by omega)]), rfl⟩ (by decide) dX1_dayOfDate_119
    · have h := h.2 c9
      refine lv_iload_n hx hb dX1_dayOfDate_38 rfl (lv_at hl 1 rfl) ?_
      refine lv_iload_n hx hb dX1_dayOfDate_39 rfl (lv_at hl 4 rfl) ?_
      refine lv_bipush (v := J 100) hx hb dX1_dayOfDate_40 (by decide) ?_
      obtain ⟨g26, h⟩ := h
      refine j_irem hx hb dX1_dayOfDate_42 g26 (by decide) ?_
      obtain ⟨g27, h⟩ := h
      refine j_conti (va_runS (As := [.int (J (pf_X1_monthStart a0 a1)), .int (J (a2 % 100))]) (rest := []) ⟨hx, hb, hml, hown, hts⟩ (A_X1_weekdayFrom l g27) (va_cwS 2 hts (gj_S ml_RX1_20 i_X1_weekdayFrom n_RX1 k_X1_weekdayFrom) rfl rfl rfl (by decide +kernel) ⟨by exact Nat.le_of_ble_eq_true rfl, by exact Nat.le_of_ble_eq_true rfl⟩) (j_preS hK hSX hG) rfl rfl hl.1 rfl (lv_room (Nat.le_of_ble_eq_true rfl)) dX1_dayOfDate_43 ⟨by exact Nat.le_of_ble_eq_true rfl, by exact Nat.le_of_ble_eq_true rfl⟩) hG (c2 := 0) (s2 := 0) ⟨by exact Nat.le_of_ble_eq_true rfl, by exact Nat.le_of_ble_eq_true rfl⟩ (fun z28 M29 ez28 H locs hG => ?_)
      obtain ⟨ez28, eM29⟩ := ez28
      subst ez28
      rw [eM29] at hG
      refine lv_bipush (v := J 7) hx hb dX1_dayOfDate_46 (by decide) ?_
      refine lv_iload_n hx hb dX1_dayOfDate_48 rfl (lv_at hl 4 rfl) ?_
      refine lv_bipush (v := J 100) hx hb dX1_dayOfDate_49 (by decide) ?_
      refine j_idiv hx hb dX1_dayOfDate_51 g26 (by decide) ?_
      refine lv_iconst (v := J 1) hx hb dX1_dayOfDate_52 (by decide) ?_
      refine j_isub hx hb dX1_dayOfDate_53 ?_
      refine j_imul hx hb dX1_dayOfDate_54 ?_
      refine j_iadd hx hb dX1_dayOfDate_55 ?_
      refine lv_istore (lv' := [(5, .int (J ((pf_X1_weekdayFrom (pf_X1_monthStart a0 a1) (a2 % 100)) + (7 * ((a2 / 100) - 1))))), (4, .int (J ((pf_X1_monthStart a0 a1) + (pf_X1_monthLength a0 a1)))), (3, .int (J (pf_X1_monthStart a0 a1))), (0, .int (J a0)), (1, .int (J a1)), (2, .int (J a2))]) hx hb dX1_dayOfDate_56 hl (by decide) rfl (fun ls hl => ?_)
      refine lv_goto (tgt := 106) hx hb dX1_dayOfDate_58 (by decide) ?_
      refine lv_iload hx hb dX1_dayOfDate_106 (lv_at hl 0 rfl) ?_
      refine lv_iload hx hb dX1_dayOfDate_108 (lv_at hl 1 rfl) ?_
      obtain ⟨g31, h⟩ := h
      obtain ⟨g32, h⟩ := h
      refine j_icmp_ge (tgt := 118) hx hb dX1_dayOfDate_110 (by decide) g31 g32 (fun c30 => ?_) (fun c30 => ?_)
      · have h := h.1 c30
        refine lv_iconst (v := J (-1)) hx hb dX1_dayOfDate_118 (by decide) ?_
        rw [hQf]
        exact j_ireti hx hb hr hlocks hG ⟨(by unfold pf_X1_dayOfDate; rw [if_pos c7, if_neg (show ¬ (500 ≤ a2) from by omega), if_pos c30]), rfl⟩ (by decide) dX1_dayOfDate_119
      · have h := h.2 c30
        refine lv_iload hx hb dX1_dayOfDate_113 (lv_at hl 0 rfl) ?_
        refine lv_goto (tgt := 119) hx hb dX1_dayOfDate_115 (by decide) ?_
        rw [hQf]
        exact j_ireti hx hb hr hlocks hG ⟨(by unfold pf_X1_dayOfDate; rw [if_pos c7, if_neg (show ¬ (500 ≤ a2) from by omega), if_neg (show ¬ ((pf_X1_monthStart a0 a1) + (pf_X1_monthLength a0 a1) ≤ (pf_X1_weekdayFrom (pf_X1_monthStart a0 a1) (a2 % 100)) + (7 * ((a2 / 100) - 1))) from by omega)]), rfl⟩ (by decide) dX1_dayOfDate_119
  · have h := h.2 c7
    refine lv_iload_n hx hb dX1_dayOfDate_21 rfl (lv_at hl 1 rfl) ?_
    refine lv_iload_n hx hb dX1_dayOfDate_22 rfl (lv_at hl 4 rfl) ?_
    refine j_iadd hx hb dX1_dayOfDate_23 ?_
    refine lv_iconst (v := J 1) hx hb dX1_dayOfDate_24 (by decide) ?_
    refine j_isub hx hb dX1_dayOfDate_25 ?_
    refine lv_istore (lv' := [(5, .int (J (((pf_X1_monthStart a0 a1) + a2) - 1))), (4, .int (J ((pf_X1_monthStart a0 a1) + (pf_X1_monthLength a0 a1)))), (3, .int (J (pf_X1_monthStart a0 a1))), (0, .int (J a0)), (1, .int (J a1)), (2, .int (J a2))]) hx hb dX1_dayOfDate_26 hl (by decide) rfl (fun ls hl => ?_)
    refine lv_goto (tgt := 106) hx hb dX1_dayOfDate_28 (by decide) ?_
    refine lv_iload hx hb dX1_dayOfDate_106 (lv_at hl 0 rfl) ?_
    refine lv_iload hx hb dX1_dayOfDate_108 (lv_at hl 1 rfl) ?_
    obtain ⟨g34, h⟩ := h
    obtain ⟨g35, h⟩ := h
    refine j_icmp_ge (tgt := 118) hx hb dX1_dayOfDate_110 (by decide) g34 g35 (fun c33 => ?_) (fun c33 => ?_)
    · have h := h.1 c33
      refine lv_iconst (v := J (-1)) hx hb dX1_dayOfDate_118 (by decide) ?_
      rw [hQf]
      exact j_ireti hx hb hr hlocks hG ⟨(by unfold pf_X1_dayOfDate; rw [if_neg (show ¬ (31 < a2) from by omega), if_pos c33]), rfl⟩ (by decide) dX1_dayOfDate_119
    · have h := h.2 c33
      refine lv_iload hx hb dX1_dayOfDate_113 (lv_at hl 0 rfl) ?_
      refine lv_goto (tgt := 119) hx hb dX1_dayOfDate_115 (by decide) ?_
      rw [hQf]
      exact j_ireti hx hb hr hlocks hG ⟨(by unfold pf_X1_dayOfDate; rw [if_neg (show ¬ (31 < a2) from by omega), if_neg (show ¬ ((pf_X1_monthStart a0 a1) + (pf_X1_monthLength a0 a1) ≤ ((pf_X1_monthStart a0 a1) + a2) - 1) from by omega)]), rfl⟩ (by decide) dX1_dayOfDate_119

abbrev rm_X9_listEvents : Room := { frames := 2, cells := 0, slots := 0, locals := 47 }
set_option maxRecDepth 100000 in
set_option maxHeartbeats 4000000 in
theorem A_X9_listEvents (l : Launch) {D : va_G} {cy : Nat → ClassId} {o : Nat} {sK sV : Nat → Nat} {M : jT} {a0 : Int} {a1 : Int} (ka0 : kd a0 = 9) (ka1 : kd a1 = 100260) {Q : Int → jT → Prop} (h : wp_X9_listEvents M a0 a1 Q) : CoI l yX9_listEvents (wj yX9_listEvents cX9_listEvents 9 (some .int)) rm_X9_listEvents D cy o sK sV M [.ref (rA o a0), .ref (rA o a1)] Q := by
  refine j_ofW (cc := cX9_listEvents) (maxL := 9) (ret := (some .int)) (by decide) rfl (Nat.le_of_ble_eq_true rfl) ?_
  intro p e s m args below meth c hx hb hr hlocks hml hown hts hK hSX H locs hG ls hl Qf hQf
  have hown : s.vm.findClass RX9 = some m.cls := hown
  have hl : lv_has ls 9 [(0, .ref (rA o a0)), (1, .ref (rA o a1))] := hl
  have w_fl_RX9_28 := hts _ (List.mem_cons_of_mem _ fl_RX9_28)
  have w_fl_RX9_25 := hts _ (List.mem_cons_of_mem _ fl_RX9_25)
  have w_fl_RX9_15 := hts _ (List.mem_cons_of_mem _ fl_RX9_15)
  unfold wp_X9_listEvents at h
  refine lv_iconst (v := J 0) hx hb dX9_listEvents_0 (by decide) ?_
  refine lv_istore_n (lv' := [(2, .int (J 0)), (0, .ref (rA o a0)), (1, .ref (rA o a1))]) hx hb dX9_listEvents_1 rfl hl (by decide) rfl (fun ls hl => ?_)
  refine lv_iconst (v := J 0) hx hb dX9_listEvents_2 (by decide) ?_
  refine lv_istore_n (lv' := [(3, .int (J 0)), (2, .int (J 0)), (0, .ref (rA o a0)), (1, .ref (rA o a1))]) hx hb dX9_listEvents_3 rfl hl (by decide) rfl (fun ls hl => ?_)
  obtain ⟨I4, ⟨n5s, iI4⟩, qI4⟩ := h
  have lI4 : ∀ (n5 : Nat) (x1 : Int) (x2 : Int) (M3 : jT), I4 n5 x1 x2 M3 → ∀ (H : Heap) (locs : List Loc), GM D cy o M3 s.heap H locs → ∀ ls : Array Slot, lv_has ls 9 [(0, .ref (rA o a0)), (1, .ref (rA o a1)), (2, .int (J x1)), (3, .int (J x2))] → W p l e rm_X9_listEvents s m args below meth c H locs 0 0 Qf (F0 m 4 ls []) := by
    intro n5
    induction n5 using Nat.strongRecOn with
    | ind n5 rI4 =>
      intro x1 x2 M3 iI4 H locs hG ls hl
      have h := qI4 n5 x1 x2 M3 iI4
      refine lv_iload_n hx hb dX9_listEvents_4 rfl (lv_at hl 3 rfl) ?_
      refine lv_aload_n hx hb dX9_listEvents_5 rfl (lv_at hl 0 rfl) ?_
      refine j_geti hx hb hts hown hK hG (k := a0) (fun w h => List.mem_cons_of_mem _ (u_X9 w h)) (ci := 8) rfl ka0 2 (by decide) (jz := 2) rfl w_fl_RX9_28 dX9_listEvents_6 ?_
      obtain ⟨g7, h⟩ := h
      obtain ⟨g8, h⟩ := h
      refine j_icmp_ge (tgt := 32) hx hb dX9_listEvents_9 (by decide) g7 g8 (fun c6 => ?_) (fun c6 => ?_)
      · have h := h.1 c6
        refine lv_iconst (v := J 0) hx hb dX9_listEvents_32 (by decide) ?_
        refine lv_istore_n (lv' := [(3, .int (J 0)), (0, .ref (rA o a0)), (1, .ref (rA o a1)), (2, .int (J x1))]) hx hb dX9_listEvents_33 rfl hl (by decide) rfl (fun ls hl => ?_)
        obtain ⟨I12, ⟨n13s, iI12⟩, qI12⟩ := h
        have lI12 : ∀ (n13 : Nat) (x9 : Int) (x10 : Int) (M11 : jT), I12 n13 x9 x10 M11 → ∀ (H : Heap) (locs : List Loc), GM D cy o M11 s.heap H locs → ∀ ls : Array Slot, lv_has ls 9 [(0, .ref (rA o a0)), (1, .ref (rA o a1)), (2, .int (J x9)), (3, .int (J x10))] → W p l e rm_X9_listEvents s m args below meth c H locs 0 0 Qf (F0 m 34 ls []) := by
          intro n13
          induction n13 using Nat.strongRecOn with
          | ind n13 rI12 =>
            intro x9 x10 M11 iI12 H locs hG ls hl
            have h := qI12 n13 x9 x10 M11 iI12
            refine lv_iload_n hx hb dX9_listEvents_34 rfl (lv_at hl 3 rfl) ?_
            refine lv_aload_n hx hb dX9_listEvents_35 rfl (lv_at hl 0 rfl) ?_
            refine j_geti hx hb hts hown hK hG (k := a0) (fun w h => List.mem_cons_of_mem _ (u_X9 w h)) (ci := 8) rfl ka0 1 (by decide) (jz := 1) rfl w_fl_RX9_25 dX9_listEvents_36 ?_
            obtain ⟨g15, h⟩ := h
            obtain ⟨g16, h⟩ := h
            refine j_icmp_ge (tgt := 116) hx hb dX9_listEvents_39 (by decide) g15 g16 (fun c14 => ?_) (fun c14 => ?_)
            · have h := h.1 c14
              refine lv_iload_n hx hb dX9_listEvents_116 rfl (lv_at hl 2 rfl) ?_
              rw [hQf]
              exact j_ireti hx hb hr hlocks hG h (by decide) dX9_listEvents_117
            · have h := h.2 c14
              refine lv_aload_n hx hb dX9_listEvents_42 rfl (lv_at hl 0 rfl) ?_
              refine lv_iload_n hx hb dX9_listEvents_43 rfl (lv_at hl 3 rfl) ?_
              refine lv_iconst (v := J 2) hx hb dX9_listEvents_44 (by decide) ?_
              obtain ⟨g17, h⟩ := h
              refine j_conti (va_runV (As := [.int (J x10), .int (J 2)]) (rest := []) ⟨hx, hb, hml, hown, hts⟩ (A_X9_ruleNumber l ka0 g17) (cwV 2 hts (gj_V ml_RX9_47 i_X9_ruleNumber s_X9_ruleNumber n_RX9 k_X9_ruleNumber) rfl rfl rfl (by decide +kernel) ⟨by exact Nat.le_of_ble_eq_true rfl, by exact Nat.le_of_ble_eq_true rfl⟩) (j_preV hK hSX hG (ci := 8) rfl ka0 (by decide)) rfl rfl hl.1 rfl (lv_room (Nat.le_of_ble_eq_true rfl)) dX9_listEvents_45 ⟨by exact Nat.le_of_ble_eq_true rfl, by exact Nat.le_of_ble_eq_true rfl⟩) hG (c2 := 0) (s2 := 0) ⟨by exact Nat.le_of_ble_eq_true rfl, by exact Nat.le_of_ble_eq_true rfl⟩ (fun z18 M19 ez18 H locs hG => ?_)
              obtain ⟨ez18, eM19⟩ := ez18
              subst ez18
              rw [eM19] at hG
              refine j_topi (fun x20 ex20 => ?_)
              have h := h x20 ex20
              refine lv_istore (lv' := [(4, .int (J x20)), (0, .ref (rA o a0)), (1, .ref (rA o a1)), (2, .int (J x9)), (3, .int (J x10))]) hx hb dX9_listEvents_48 hl (by decide) rfl (fun ls hl => ?_)
              refine lv_aload_n hx hb dX9_listEvents_50 rfl (lv_at hl 1 rfl) ?_
              refine lv_iload_n hx hb dX9_listEvents_51 rfl (lv_at hl 4 rfl) ?_
              refine lv_iconst (v := J 3) hx hb dX9_listEvents_52 (by decide) ?_
              obtain ⟨g21, h⟩ := h
              refine j_conti (va_runV (As := [.int (J x10), .int (J 3)]) (rest := []) ⟨hx, hb, hml, hown, hts⟩ (A_X9_ruleNumber l ka0 g21) (cwV 2 hts (gj_V ml_RX9_47 i_X9_ruleNumber s_X9_ruleNumber n_RX9 k_X9_ruleNumber) rfl rfl rfl (by decide +kernel) ⟨by exact Nat.le_of_ble_eq_true rfl, by exact Nat.le_of_ble_eq_true rfl⟩) (j_preV hK hSX hG (ci := 8) rfl ka0 (by decide)) rfl rfl hl.1 rfl (lv_room (Nat.le_of_ble_eq_true rfl)) dX9_listEvents_53 ⟨by exact Nat.le_of_ble_eq_true rfl, by exact Nat.le_of_ble_eq_true rfl⟩) hG (c2 := 0) (s2 := 0) ⟨by exact Nat.le_of_ble_eq_true rfl, by exact Nat.le_of_ble_eq_true rfl⟩ (fun z22 M23 ez22 H locs hG => ?_)
              obtain ⟨ez22, eM23⟩ := ez22
              subst ez22
              rw [eM23] at hG
              refine j_topi (fun x24 ex24 => ?_)
              have h := h x24 ex24
              refine lv_istore (lv' := [(5, .int (J x24)), (4, .int (J x20)), (0, .ref (rA o a0)), (1, .ref (rA o a1)), (2, .int (J x9)), (3, .int (J x10))]) hx hb dX9_listEvents_56 hl (by decide) rfl (fun ls hl => ?_)
              refine lv_aload_n hx hb dX9_listEvents_58 rfl (lv_at hl 2 rfl) ?_
              refine lv_iload_n hx hb dX9_listEvents_59 rfl (lv_at hl 5 rfl) ?_
              refine lv_iconst (v := J 1) hx hb dX9_listEvents_60 (by decide) ?_
              obtain ⟨g25, h⟩ := h
              refine j_conti (va_runV (As := [.int (J x10), .int (J 1)]) (rest := []) ⟨hx, hb, hml, hown, hts⟩ (A_X9_ruleNumber l ka0 g25) (cwV 2 hts (gj_V ml_RX9_47 i_X9_ruleNumber s_X9_ruleNumber n_RX9 k_X9_ruleNumber) rfl rfl rfl (by decide +kernel) ⟨by exact Nat.le_of_ble_eq_true rfl, by exact Nat.le_of_ble_eq_true rfl⟩) (j_preV hK hSX hG (ci := 8) rfl ka0 (by decide)) rfl rfl hl.1 rfl (lv_room (Nat.le_of_ble_eq_true rfl)) dX9_listEvents_61 ⟨by exact Nat.le_of_ble_eq_true rfl, by exact Nat.le_of_ble_eq_true rfl⟩) hG (c2 := 0) (s2 := 0) ⟨by exact Nat.le_of_ble_eq_true rfl, by exact Nat.le_of_ble_eq_true rfl⟩ (fun z26 M27 ez26 H locs hG => ?_)
              obtain ⟨ez26, eM27⟩ := ez26
              subst ez26
              rw [eM27] at hG
              refine j_topi (fun x28 ex28 => ?_)
              have h := h x28 ex28
              refine lv_istore (lv' := [(6, .int (J x28)), (5, .int (J x24)), (4, .int (J x20)), (0, .ref (rA o a0)), (1, .ref (rA o a1)), (2, .int (J x9)), (3, .int (J x10))]) hx hb dX9_listEvents_64 hl (by decide) rfl (fun ls hl => ?_)
              refine lv_aload_n hx hb dX9_listEvents_66 rfl (lv_at hl 3 rfl) ?_
              refine lv_iload_n hx hb dX9_listEvents_67 rfl (lv_at hl 6 rfl) ?_
              refine lv_iconst (v := J 0) hx hb dX9_listEvents_68 (by decide) ?_
              obtain ⟨g29, h⟩ := h
              refine j_conti (va_runV (As := [.int (J x10), .int (J 0)]) (rest := []) ⟨hx, hb, hml, hown, hts⟩ (A_X9_ruleNumber l ka0 g29) (cwV 2 hts (gj_V ml_RX9_47 i_X9_ruleNumber s_X9_ruleNumber n_RX9 k_X9_ruleNumber) rfl rfl rfl (by decide +kernel) ⟨by exact Nat.le_of_ble_eq_true rfl, by exact Nat.le_of_ble_eq_true rfl⟩) (j_preV hK hSX hG (ci := 8) rfl ka0 (by decide)) rfl rfl hl.1 rfl (lv_room (Nat.le_of_ble_eq_true rfl)) dX9_listEvents_69 ⟨by exact Nat.le_of_ble_eq_true rfl, by exact Nat.le_of_ble_eq_true rfl⟩) hG (c2 := 0) (s2 := 0) ⟨by exact Nat.le_of_ble_eq_true rfl, by exact Nat.le_of_ble_eq_true rfl⟩ (fun z30 M31 ez30 H locs hG => ?_)
              obtain ⟨ez30, eM31⟩ := ez30
              subst ez30
              rw [eM31] at hG
              refine j_topi (fun x32 ex32 => ?_)
              have h := h x32 ex32
              refine lv_istore (lv' := [(7, .int (J x32)), (6, .int (J x28)), (5, .int (J x24)), (4, .int (J x20)), (0, .ref (rA o a0)), (1, .ref (rA o a1)), (2, .int (J x9)), (3, .int (J x10))]) hx hb dX9_listEvents_72 hl (by decide) rfl (fun ls hl => ?_)
              obtain ⟨I36, ⟨n37s, iI36⟩, qI36⟩ := h
              have lI36 : ∀ (n37 : Nat) (x33 : Int) (x34 : Int) (M35 : jT), I36 n37 x33 x34 M35 → ∀ (H : Heap) (locs : List Loc), GM D cy o M35 s.heap H locs → ∀ ls : Array Slot, lv_has ls 9 [(0, .ref (rA o a0)), (1, .ref (rA o a1)), (2, .int (J x33)), (3, .int (J x10)), (4, .int (J x20)), (5, .int (J x24)), (6, .int (J x28)), (7, .int (J x34))] → W p l e rm_X9_listEvents s m args below meth c H locs 0 0 Qf (F0 m 74 ls []) := by
                intro n37
                induction n37 using Nat.strongRecOn with
                | ind n37 rI36 =>
                  intro x33 x34 M35 iI36 H locs hG ls hl
                  have h := qI36 n37 x33 x34 M35 iI36
                  refine lv_iload hx hb dX9_listEvents_74 (lv_at hl 7 rfl) ?_
                  refine lv_iload hx hb dX9_listEvents_76 (lv_at hl 6 rfl) ?_
                  obtain ⟨g39, h⟩ := h
                  obtain ⟨g40, h⟩ := h
                  refine j_icmp_gt (tgt := 110) hx hb dX9_listEvents_78 (by decide) g39 g40 (fun c38 => ?_) (fun c38 => ?_)
                  · have h := h.1 c38
                    refine j_iinc hx hb dX9_listEvents_110 hl (k := 3) rfl (by decide) (fun x41 ex41 ls hl => ?_)
                    have h := h x41 ex41
                    have hl : lv_has ls 9 [(3, .int (J x41)), (0, .ref (rA o a0)), (1, .ref (rA o a1)), (2, .int (J x33)), (4, .int (J x20)), (5, .int (J x24)), (6, .int (J x28)), (7, .int (J x34))] := hl
                    refine lv_goto (tgt := 34) hx hb dX9_listEvents_113 (by decide) ?_
                    obtain ⟨n42, ln42, iI12⟩ := h
                    exact rI12 n42 ln42 x33 x41 M35 iI12 H locs hG ls (lv_sub hl [1, 2, 3, 0] rfl)
                  · have h := h.2 c38
                    refine lv_iload hx hb dX9_listEvents_81 (lv_at hl 7 rfl) ?_
                    refine lv_iload hx hb dX9_listEvents_83 (lv_at hl 4 rfl) ?_
                    refine lv_iload hx hb dX9_listEvents_85 (lv_at hl 5 rfl) ?_
                    obtain ⟨g43, h⟩ := h
                    refine j_conti (va_runS (As := [.int (J x34), .int (J x20), .int (J x24)]) (rest := []) ⟨hx, hb, hml, hown, hts⟩ (A_X1_dayOfDate l g43) (va_cwS 3 hts (gj_S ml_RX9_37 i_X1_dayOfDate n_RX1 k_X1_dayOfDate) rfl rfl rfl (by decide +kernel) ⟨by exact Nat.le_of_ble_eq_true rfl, by exact Nat.le_of_ble_eq_true rfl⟩) (j_preS hK hSX hG) rfl rfl hl.1 rfl (lv_room (Nat.le_of_ble_eq_true rfl)) dX9_listEvents_87 ⟨by exact Nat.le_of_ble_eq_true rfl, by exact Nat.le_of_ble_eq_true rfl⟩) hG (c2 := 0) (s2 := 0) ⟨by exact Nat.le_of_ble_eq_true rfl, by exact Nat.le_of_ble_eq_true rfl⟩ (fun z44 M45 ez44 H locs hG => ?_)
                    obtain ⟨ez44, eM45⟩ := ez44
                    subst ez44
                    rw [eM45] at hG
                    refine j_topi (fun x46 ex46 => ?_)
                    have h := h x46 ex46
                    refine lv_istore (lv' := [(8, .int (J x46)), (0, .ref (rA o a0)), (1, .ref (rA o a1)), (2, .int (J x33)), (3, .int (J x10)), (4, .int (J x20)), (5, .int (J x24)), (6, .int (J x28)), (7, .int (J x34))]) hx hb dX9_listEvents_90 hl (by decide) rfl (fun ls hl => ?_)
                    refine lv_aload_n hx hb dX9_listEvents_92 rfl (lv_at hl 1 rfl) ?_
                    refine lv_aload_n hx hb dX9_listEvents_93 rfl (lv_at hl 2 rfl) ?_
                    refine lv_iload_n hx hb dX9_listEvents_94 rfl (lv_at hl 3 rfl) ?_
                    refine lv_iload hx hb dX9_listEvents_95 (lv_at hl 0 rfl) ?_
                    refine lv_iconst (v := J 4) hx hb dX9_listEvents_97 (by decide) ?_
                    refine lv_iload_n hx hb dX9_listEvents_98 rfl (lv_at hl 4 rfl) ?_
                    refine j_iadd hx hb dX9_listEvents_99 ?_
                    refine j_conti (va_runV (As := [.ref (rA o a1), .int (J x33), .int (J x46), .int (J (4 + x10))]) (rest := []) ⟨hx, hb, hml, hown, hts⟩ (A_X9_putKey l ka0 ka1 h) (cwV 4 hts (gj_V ml_RX9_43 i_X9_putKey s_X9_putKey n_RX9 k_X9_putKey) rfl rfl rfl (by decide +kernel) ⟨by exact Nat.le_of_ble_eq_true rfl, by exact Nat.le_of_ble_eq_true rfl⟩) (j_preV hK hSX hG (ci := 8) rfl ka0 (by decide)) rfl rfl hl.1 rfl (lv_room (Nat.le_of_ble_eq_true rfl)) dX9_listEvents_100 ⟨by exact Nat.le_of_ble_eq_true rfl, by exact Nat.le_of_ble_eq_true rfl⟩) hG (c2 := 0) (s2 := 0) ⟨by exact Nat.le_of_ble_eq_true rfl, by exact Nat.le_of_ble_eq_true rfl⟩ (fun z47 M48 h H locs hG => ?_)
                    refine lv_istore_n (lv' := [(2, .int (J z47)), (8, .int (J x46)), (0, .ref (rA o a0)), (1, .ref (rA o a1)), (3, .int (J x10)), (4, .int (J x20)), (5, .int (J x24)), (6, .int (J x28)), (7, .int (J x34))]) hx hb dX9_listEvents_103 rfl hl (by decide) rfl (fun ls hl => ?_)
                    refine j_iinc hx hb dX9_listEvents_104 hl (k := 8) rfl (by decide) (fun x49 ex49 ls hl => ?_)
                    have h := h x49 ex49
                    have hl : lv_has ls 9 [(7, .int (J x49)), (2, .int (J z47)), (8, .int (J x46)), (0, .ref (rA o a0)), (1, .ref (rA o a1)), (3, .int (J x10)), (4, .int (J x20)), (5, .int (J x24)), (6, .int (J x28))] := hl
                    refine lv_goto (tgt := 74) hx hb dX9_listEvents_107 (by decide) ?_
                    obtain ⟨n50, ln50, iI36⟩ := h
                    exact rI36 n50 ln50 z47 x49 M48 iI36 H locs hG ls (lv_sub hl [3, 4, 1, 5, 6, 7, 8, 0] rfl)
              exact lI36 n37s x9 x32 M11 iI36 H locs hG ls (lv_sub hl [4, 5, 6, 7, 3, 2, 1, 0] rfl)
        exact lI12 n13s x1 0 M3 iI12 H locs hG ls (lv_sub hl [1, 2, 3, 0] rfl)
      · have h := h.2 c6
        refine lv_aload_n hx hb dX9_listEvents_12 rfl (lv_at hl 0 rfl) ?_
        refine lv_aload_n hx hb dX9_listEvents_13 rfl (lv_at hl 1 rfl) ?_
        refine lv_iload_n hx hb dX9_listEvents_14 rfl (lv_at hl 2 rfl) ?_
        refine lv_aload_n hx hb dX9_listEvents_15 rfl (lv_at hl 0 rfl) ?_
        refine j_getr hx hb hts hown hK hG (k := a0) (fun w h => List.mem_cons_of_mem _ (u_X9 w h)) (ci := 8) rfl ka0 4 (k2 := a0 + 2) (by decide) (by show a0 + (2 : Int) = a0 + 2; omega) w_fl_RX9_15 dX9_listEvents_16 ?_
        refine lv_iload_n hx hb dX9_listEvents_19 rfl (lv_at hl 3 rfl) ?_
        obtain ⟨g51, h⟩ := h
        refine j_iald hx hb hK hG (n := 4) (kf_9_4 ka0) (by decide) g51 dX9_listEvents_20 ?_
        refine lv_iload_n hx hb dX9_listEvents_21 rfl (lv_at hl 3 rfl) ?_
        refine j_conti (va_runV (As := [.ref (rA o a1), .int (J x1), .int (J (M3 (a0 + 2) x2)), .int (J x2)]) (rest := []) ⟨hx, hb, hml, hown, hts⟩ (A_X9_putKey l ka0 ka1 h) (cwV 4 hts (gj_V ml_RX9_43 i_X9_putKey s_X9_putKey n_RX9 k_X9_putKey) rfl rfl rfl (by decide +kernel) ⟨by exact Nat.le_of_ble_eq_true rfl, by exact Nat.le_of_ble_eq_true rfl⟩) (j_preV hK hSX hG (ci := 8) rfl ka0 (by decide)) rfl rfl hl.1 rfl (lv_room (Nat.le_of_ble_eq_true rfl)) dX9_listEvents_22 ⟨by exact Nat.le_of_ble_eq_true rfl, by exact Nat.le_of_ble_eq_true rfl⟩) hG (c2 := 0) (s2 := 0) ⟨by exact Nat.le_of_ble_eq_true rfl, by exact Nat.le_of_ble_eq_true rfl⟩ (fun z52 M53 h H locs hG => ?_)
        refine lv_istore_n (lv' := [(2, .int (J z52)), (0, .ref (rA o a0)), (1, .ref (rA o a1)), (3, .int (J x2))]) hx hb dX9_listEvents_25 rfl hl (by decide) rfl (fun ls hl => ?_)
        refine j_iinc hx hb dX9_listEvents_26 hl (k := 3) rfl (by decide) (fun x54 ex54 ls hl => ?_)
        have h := h x54 ex54
        have hl : lv_has ls 9 [(3, .int (J x54)), (2, .int (J z52)), (0, .ref (rA o a0)), (1, .ref (rA o a1))] := hl
        refine lv_goto (tgt := 4) hx hb dX9_listEvents_29 (by decide) ?_
        obtain ⟨n55, ln55, iI4⟩ := h
        exact rI4 n55 ln55 z52 x54 M53 iI4 H locs hG ls (lv_sub hl [2, 3, 1, 0] rfl)
  exact lI4 n5s 0 0 M iI4 H locs hG ls (lv_sub hl [2, 3, 1, 0] rfl)

abbrev rm_X10_sortKeys : Room := { frames := 1, cells := 0, slots := 0, locals := 21 }
set_option maxRecDepth 100000 in
set_option maxHeartbeats 4000000 in
theorem A_X10_sortKeys (l : Launch) {D : va_G} {cy : Nat → ClassId} {o : Nat} {sK sV : Nat → Nat} {M : jT} {a0 : Int} {a1 : Int} (ka0 : kd a0 = 100260) {Q : jT → Prop} (h : wp_X10_sortKeys M a0 a1 Q) : CoV l yX10_sortKeys (wj yX10_sortKeys cX10_sortKeys 8 none) rm_X10_sortKeys D cy o sK sV M [.ref (rA o a0), .int (J a1)] Q := by
  refine j_ofW (cc := cX10_sortKeys) (maxL := 8) (ret := none) (by decide) rfl (Nat.le_of_ble_eq_true rfl) ?_
  intro p e s m args below meth c hx hb hr hlocks hml hown hts hK hSX H locs hG ls hl Qf hQf
  have hown : s.vm.findClass RX10 = some m.cls := hown
  have hl : lv_has ls 8 [(0, .ref (rA o a0)), (1, .int (J a1))] := hl
  unfold wp_X10_sortKeys at h
  refine lv_iload_n hx hb dX10_sortKeys_0 rfl (lv_at hl 1 rfl) ?_
  refine lv_aload_n hx hb dX10_sortKeys_1 rfl (lv_at hl 0 rfl) ?_
  refine j_alenz_l hx hb hK hG (n := 260) (nz := 260) rfl ka0 (by decide) dX10_sortKeys_2 ?_
  obtain ⟨g1, h⟩ := h
  refine j_mmin hx hb (hml.trans hl.1.symm) hown (hts _ (List.mem_cons_of_mem _ ml_RX10_538)) (hts _ (List.mem_cons_of_mem _ i_mmin)) (hts _ (List.mem_cons_of_mem _ n_Math)) (hts _ (List.mem_cons_of_mem _ k_mmin)) (by exact Nat.le_of_ble_eq_true rfl) (by exact Nat.le_of_ble_eq_true rfl) (by exact Nat.le_of_ble_eq_true rfl) (by exact Nat.le_of_ble_eq_true rfl) g1 (by decide) dX10_sortKeys_3 ?_
  refine j_topi (fun x2 ex2 => ?_)
  have h := h x2 ex2
  refine lv_istore_n (lv' := [(2, .int (J x2)), (0, .ref (rA o a0)), (1, .int (J a1))]) hx hb dX10_sortKeys_6 rfl hl (by decide) rfl (fun ls hl => ?_)
  refine lv_iload_n hx hb dX10_sortKeys_7 rfl (lv_at hl 0 rfl) ?_
  refine lv_iconst (v := J 2) hx hb dX10_sortKeys_8 (by decide) ?_
  obtain ⟨g3, h⟩ := h
  refine j_idiv hx hb dX10_sortKeys_9 g3 (by decide) ?_
  refine j_topi (fun x4 ex4 => ?_)
  have h := h x4 ex4
  refine lv_istore_n (lv' := [(3, .int (J x4)), (2, .int (J x2)), (0, .ref (rA o a0)), (1, .int (J a1))]) hx hb dX10_sortKeys_10 rfl hl (by decide) rfl (fun ls hl => ?_)
  obtain ⟨I7, ⟨n8s, iI7⟩, qI7⟩ := h
  have lI7 : ∀ (n8 : Nat) (x5 : Int) (M6 : jT), I7 n8 x5 M6 → ∀ (H : Heap) (locs : List Loc), GM D cy o M6 s.heap H locs → ∀ ls : Array Slot, lv_has ls 8 [(0, .ref (rA o a0)), (2, .int (J x2)), (3, .int (J x5))] → W p l e rm_X10_sortKeys s m args below meth c H locs 0 0 Qf (F0 m 11 ls []) := by
    intro n8
    induction n8 using Nat.strongRecOn with
    | ind n8 rI7 =>
      intro x5 M6 iI7 H locs hG ls hl
      have h := qI7 n8 x5 M6 iI7
      refine lv_iload_n hx hb dX10_sortKeys_11 rfl (lv_at hl 2 rfl) ?_
      obtain ⟨g10, h⟩ := h
      refine j_if_le (tgt := 90) hx hb dX10_sortKeys_12 (by decide) g10 (fun c9 => ?_) (fun c9 => ?_)
      · have h := h.1 c9
        rw [hQf]
        exact j_vret hx hb hr hlocks hG h (by decide) dX10_sortKeys_90
      · have h := h.2 c9
        refine lv_iload_n hx hb dX10_sortKeys_15 rfl (lv_at hl 2 rfl) ?_
        refine lv_istore (lv' := [(4, .int (J x5)), (0, .ref (rA o a0)), (2, .int (J x2)), (3, .int (J x5))]) hx hb dX10_sortKeys_16 hl (by decide) rfl (fun ls hl => ?_)
        obtain ⟨I13, ⟨n14s, iI13⟩, qI13⟩ := h
        have lI13 : ∀ (n14 : Nat) (x11 : Int) (M12 : jT), I13 n14 x11 M12 → ∀ (H : Heap) (locs : List Loc), GM D cy o M12 s.heap H locs → ∀ ls : Array Slot, lv_has ls 8 [(0, .ref (rA o a0)), (2, .int (J x2)), (3, .int (J x5)), (4, .int (J x11))] → W p l e rm_X10_sortKeys s m args below meth c H locs 0 0 Qf (F0 m 18 ls []) := by
          intro n14
          induction n14 using Nat.strongRecOn with
          | ind n14 rI13 =>
            intro x11 M12 iI13 H locs hG ls hl
            have h := qI13 n14 x11 M12 iI13
            refine lv_iload hx hb dX10_sortKeys_18 (lv_at hl 3 rfl) ?_
            refine lv_iload_n hx hb dX10_sortKeys_20 rfl (lv_at hl 1 rfl) ?_
            obtain ⟨g16, h⟩ := h
            obtain ⟨g17, h⟩ := h
            refine j_icmp_ge (tgt := 83) hx hb dX10_sortKeys_21 (by decide) g16 g17 (fun c15 => ?_) (fun c15 => ?_)
            · have h := h.1 c15
              refine lv_iload_n hx hb dX10_sortKeys_83 rfl (lv_at hl 2 rfl) ?_
              refine lv_iconst (v := J 2) hx hb dX10_sortKeys_84 (by decide) ?_
              obtain ⟨g18, h⟩ := h
              refine j_idiv hx hb dX10_sortKeys_85 g18 (by decide) ?_
              refine j_topi (fun x19 ex19 => ?_)
              have h := h x19 ex19
              refine lv_istore_n (lv' := [(3, .int (J x19)), (0, .ref (rA o a0)), (2, .int (J x2)), (4, .int (J x11))]) hx hb dX10_sortKeys_86 rfl hl (by decide) rfl (fun ls hl => ?_)
              refine lv_goto (tgt := 11) hx hb dX10_sortKeys_87 (by decide) ?_
              obtain ⟨n20, ln20, iI7⟩ := h
              exact rI7 n20 ln20 x19 M12 iI7 H locs hG ls (lv_sub hl [1, 2, 0] rfl)
            · have h := h.2 c15
              refine lv_aload_n hx hb dX10_sortKeys_24 rfl (lv_at hl 0 rfl) ?_
              refine lv_iload hx hb dX10_sortKeys_25 (lv_at hl 3 rfl) ?_
              obtain ⟨g21, h⟩ := h
              refine j_lald hx hb hK hG (n := 260) ka0 (by decide) g21 dX10_sortKeys_27 ?_
              refine j_topl (fun x22 ex22 => ?_)
              have h := h x22 ex22
              refine lv_lstore (lv' := [(5, .long (JL x22)), (0, .ref (rA o a0)), (2, .int (J x2)), (3, .int (J x5)), (4, .int (J x11))]) hx hb dX10_sortKeys_28 hl (by decide) rfl (fun ls hl => ?_)
              refine lv_iload hx hb dX10_sortKeys_30 (lv_at hl 4 rfl) ?_
              refine lv_istore (lv' := [(7, .int (J x11)), (5, .long (JL x22)), (0, .ref (rA o a0)), (2, .int (J x2)), (3, .int (J x5)), (4, .int (J x11))]) hx hb dX10_sortKeys_32 hl (by decide) rfl (fun ls hl => ?_)
              obtain ⟨I25, ⟨n26s, iI25⟩, qI25⟩ := h
              have lI25 : ∀ (n26 : Nat) (x23 : Int) (M24 : jT), I25 n26 x23 M24 → ∀ (H : Heap) (locs : List Loc), GM D cy o M24 s.heap H locs → ∀ ls : Array Slot, lv_has ls 8 [(0, .ref (rA o a0)), (2, .int (J x2)), (3, .int (J x5)), (4, .int (J x11)), (5, .long (JL x22)), (7, .int (J x23))] → W p l e rm_X10_sortKeys s m args below meth c H locs 0 0 Qf (F0 m 34 ls []) := by
                intro n26
                induction n26 using Nat.strongRecOn with
                | ind n26 rI25 =>
                  intro x23 M24 iI25 H locs hG ls hl
                  have h := qI25 n26 x23 M24 iI25
                  refine lv_iload hx hb dX10_sortKeys_34 (lv_at hl 5 rfl) ?_
                  refine lv_iload_n hx hb dX10_sortKeys_36 rfl (lv_at hl 2 rfl) ?_
                  obtain ⟨K37, hK37, h⟩ := h
                  have jK37 : K37 → ∀ (H : Heap) (locs : List Loc), GM D cy o M24 s.heap H locs → ∀ ls : Array Slot, lv_has ls 8 [(0, .ref (rA o a0)), (2, .int (J x2)), (3, .int (J x5)), (4, .int (J x11)), (5, .long (JL x22)), (7, .int (J x23))] → W p l e rm_X10_sortKeys s m args below meth c H locs 0 0 Qf (F0 m 71 ls []) := by
                    intro hcK37 H locs hG ls hl
                    have h := hK37 hcK37
                    refine lv_aload_n hx hb dX10_sortKeys_71 rfl (lv_at hl 0 rfl) ?_
                    refine lv_iload hx hb dX10_sortKeys_72 (lv_at hl 5 rfl) ?_
                    refine lv_lload hx hb dX10_sortKeys_74 (lv_at hl 4 rfl) ?_
                    obtain ⟨g38, h⟩ := h
                    refine j_last hx hb hK hG (n := 260) ka0 (by decide) g38 dX10_sortKeys_76 (fun M39 eM39 H locs hG => ?_)
                    have h := h M39 eM39
                    refine j_iinc hx hb dX10_sortKeys_77 hl (k := 3) rfl (by decide) (fun x40 ex40 ls hl => ?_)
                    have h := h x40 ex40
                    have hl : lv_has ls 8 [(4, .int (J x40)), (0, .ref (rA o a0)), (2, .int (J x2)), (3, .int (J x5)), (5, .long (JL x22)), (7, .int (J x23))] := hl
                    refine lv_goto (tgt := 18) hx hb dX10_sortKeys_80 (by decide) ?_
                    obtain ⟨n41, ln41, iI13⟩ := h
                    exact rI13 n41 ln41 x40 M39 iI13 H locs hG ls (lv_sub hl [1, 2, 3, 0] rfl)
                  obtain ⟨g43, h⟩ := h
                  refine j_icmp_lt (tgt := 71) hx hb dX10_sortKeys_37 (by decide) g43 g10 (fun c42 => ?_) (fun c42 => ?_)
                  · have h := h.1 c42
                    exact jK37 h H locs hG ls (lv_sub hl [0, 1, 2, 3, 4, 5] rfl)
                  · have h := h.2 c42
                    refine lv_aload_n hx hb dX10_sortKeys_40 rfl (lv_at hl 0 rfl) ?_
                    refine lv_iload hx hb dX10_sortKeys_41 (lv_at hl 5 rfl) ?_
                    refine lv_iload_n hx hb dX10_sortKeys_43 rfl (lv_at hl 2 rfl) ?_
                    refine j_isub hx hb dX10_sortKeys_44 ?_
                    obtain ⟨g44, h⟩ := h
                    refine j_lald hx hb hK hG (n := 260) ka0 (by decide) g44 dX10_sortKeys_45 ?_
                    refine lv_lload hx hb dX10_sortKeys_46 (lv_at hl 4 rfl) ?_
                    obtain ⟨g46, h⟩ := h
                    obtain ⟨g47, h⟩ := h
                    refine j_lcmp_le (tgt := 71) hx hb dX10_sortKeys_48 dX10_sortKeys_49 (by decide) g46 g47 (fun c45 => ?_) (fun c45 => ?_)
                    · have h := h.1 c45
                      exact jK37 h H locs hG ls (lv_sub hl [0, 1, 2, 3, 4, 5] rfl)
                    · have h := h.2 c45
                      refine lv_aload_n hx hb dX10_sortKeys_52 rfl (lv_at hl 0 rfl) ?_
                      refine lv_iload hx hb dX10_sortKeys_53 (lv_at hl 5 rfl) ?_
                      refine lv_aload_n hx hb dX10_sortKeys_55 rfl (lv_at hl 0 rfl) ?_
                      refine lv_iload hx hb dX10_sortKeys_56 (lv_at hl 5 rfl) ?_
                      refine lv_iload_n hx hb dX10_sortKeys_58 rfl (lv_at hl 2 rfl) ?_
                      refine j_isub hx hb dX10_sortKeys_59 ?_
                      refine j_lald hx hb hK hG (n := 260) ka0 (by decide) g44 dX10_sortKeys_60 ?_
                      obtain ⟨g48, h⟩ := h
                      refine j_last hx hb hK hG (n := 260) ka0 (by decide) g48 dX10_sortKeys_61 (fun M49 eM49 H locs hG => ?_)
                      have h := h M49 eM49
                      refine lv_iload hx hb dX10_sortKeys_62 (lv_at hl 5 rfl) ?_
                      refine lv_iload_n hx hb dX10_sortKeys_64 rfl (lv_at hl 2 rfl) ?_
                      refine j_isub hx hb dX10_sortKeys_65 ?_
                      refine j_topi (fun x50 ex50 => ?_)
                      have h := h x50 ex50
                      refine lv_istore (lv' := [(7, .int (J x50)), (0, .ref (rA o a0)), (2, .int (J x2)), (3, .int (J x5)), (4, .int (J x11)), (5, .long (JL x22))]) hx hb dX10_sortKeys_66 hl (by decide) rfl (fun ls hl => ?_)
                      refine lv_goto (tgt := 34) hx hb dX10_sortKeys_68 (by decide) ?_
                      obtain ⟨n51, ln51, iI25⟩ := h
                      exact rI25 n51 ln51 x50 M49 iI25 H locs hG ls (lv_sub hl [1, 2, 3, 4, 5, 0] rfl)
              exact lI25 n26s x11 M12 iI25 H locs hG ls (lv_sub hl [2, 3, 4, 5, 1, 0] rfl)
        exact lI13 n14s x5 M6 iI13 H locs hG ls (lv_sub hl [1, 2, 3, 0] rfl)
  exact lI7 n8s x4 M iI7 H locs hG ls (lv_sub hl [2, 1, 0] rfl)
abbrev rm_X10_sortKeys_b : Room := { frames := 1, cells := 0, slots := 0, locals := 21 }
set_option maxRecDepth 100000 in
set_option maxHeartbeats 4000000 in
theorem A_X10_sortKeys_b (l : Launch) {D : va_G} {cy : Nat → ClassId} {o : Nat} {sK sV : Nat → Nat} {M : jT} {a0 : Int} {a1 : Int} (ka0 : kd a0 = 100400) {Q : jT → Prop} (h : wp_X10_sortKeys_b M a0 a1 Q) : CoV l yX10_sortKeys (wj yX10_sortKeys cX10_sortKeys 8 none) rm_X10_sortKeys_b D cy o sK sV M [.ref (rA o a0), .int (J a1)] Q := by
  refine j_ofW (cc := cX10_sortKeys) (maxL := 8) (ret := none) (by decide) rfl (Nat.le_of_ble_eq_true rfl) ?_
  intro p e s m args below meth c hx hb hr hlocks hml hown hts hK hSX H locs hG ls hl Qf hQf
  have hown : s.vm.findClass RX10 = some m.cls := hown
  have hl : lv_has ls 8 [(0, .ref (rA o a0)), (1, .int (J a1))] := hl
  unfold wp_X10_sortKeys_b at h
  refine lv_iload_n hx hb dX10_sortKeys_0 rfl (lv_at hl 1 rfl) ?_
  refine lv_aload_n hx hb dX10_sortKeys_1 rfl (lv_at hl 0 rfl) ?_
  refine j_alenz_l hx hb hK hG (n := 400) (nz := 400) rfl ka0 (by decide) dX10_sortKeys_2 ?_
  obtain ⟨g1, h⟩ := h
  refine j_mmin hx hb (hml.trans hl.1.symm) hown (hts _ (List.mem_cons_of_mem _ ml_RX10_538)) (hts _ (List.mem_cons_of_mem _ i_mmin)) (hts _ (List.mem_cons_of_mem _ n_Math)) (hts _ (List.mem_cons_of_mem _ k_mmin)) (by exact Nat.le_of_ble_eq_true rfl) (by exact Nat.le_of_ble_eq_true rfl) (by exact Nat.le_of_ble_eq_true rfl) (by exact Nat.le_of_ble_eq_true rfl) g1 (by decide) dX10_sortKeys_3 ?_
  refine j_topi (fun x2 ex2 => ?_)
  have h := h x2 ex2
  refine lv_istore_n (lv' := [(2, .int (J x2)), (0, .ref (rA o a0)), (1, .int (J a1))]) hx hb dX10_sortKeys_6 rfl hl (by decide) rfl (fun ls hl => ?_)
  refine lv_iload_n hx hb dX10_sortKeys_7 rfl (lv_at hl 0 rfl) ?_
  refine lv_iconst (v := J 2) hx hb dX10_sortKeys_8 (by decide) ?_
  obtain ⟨g3, h⟩ := h
  refine j_idiv hx hb dX10_sortKeys_9 g3 (by decide) ?_
  refine j_topi (fun x4 ex4 => ?_)
  have h := h x4 ex4
  refine lv_istore_n (lv' := [(3, .int (J x4)), (2, .int (J x2)), (0, .ref (rA o a0)), (1, .int (J a1))]) hx hb dX10_sortKeys_10 rfl hl (by decide) rfl (fun ls hl => ?_)
  obtain ⟨I7, ⟨n8s, iI7⟩, qI7⟩ := h
  have lI7 : ∀ (n8 : Nat) (x5 : Int) (M6 : jT), I7 n8 x5 M6 → ∀ (H : Heap) (locs : List Loc), GM D cy o M6 s.heap H locs → ∀ ls : Array Slot, lv_has ls 8 [(0, .ref (rA o a0)), (2, .int (J x2)), (3, .int (J x5))] → W p l e rm_X10_sortKeys_b s m args below meth c H locs 0 0 Qf (F0 m 11 ls []) := by
    intro n8
    induction n8 using Nat.strongRecOn with
    | ind n8 rI7 =>
      intro x5 M6 iI7 H locs hG ls hl
      have h := qI7 n8 x5 M6 iI7
      refine lv_iload_n hx hb dX10_sortKeys_11 rfl (lv_at hl 2 rfl) ?_
      obtain ⟨g10, h⟩ := h
      refine j_if_le (tgt := 90) hx hb dX10_sortKeys_12 (by decide) g10 (fun c9 => ?_) (fun c9 => ?_)
      · have h := h.1 c9
        rw [hQf]
        exact j_vret hx hb hr hlocks hG h (by decide) dX10_sortKeys_90
      · have h := h.2 c9
        refine lv_iload_n hx hb dX10_sortKeys_15 rfl (lv_at hl 2 rfl) ?_
        refine lv_istore (lv' := [(4, .int (J x5)), (0, .ref (rA o a0)), (2, .int (J x2)), (3, .int (J x5))]) hx hb dX10_sortKeys_16 hl (by decide) rfl (fun ls hl => ?_)
        obtain ⟨I13, ⟨n14s, iI13⟩, qI13⟩ := h
        have lI13 : ∀ (n14 : Nat) (x11 : Int) (M12 : jT), I13 n14 x11 M12 → ∀ (H : Heap) (locs : List Loc), GM D cy o M12 s.heap H locs → ∀ ls : Array Slot, lv_has ls 8 [(0, .ref (rA o a0)), (2, .int (J x2)), (3, .int (J x5)), (4, .int (J x11))] → W p l e rm_X10_sortKeys_b s m args below meth c H locs 0 0 Qf (F0 m 18 ls []) := by
          intro n14
          induction n14 using Nat.strongRecOn with
          | ind n14 rI13 =>
            intro x11 M12 iI13 H locs hG ls hl
            have h := qI13 n14 x11 M12 iI13
            refine lv_iload hx hb dX10_sortKeys_18 (lv_at hl 3 rfl) ?_
            refine lv_iload_n hx hb dX10_sortKeys_20 rfl (lv_at hl 1 rfl) ?_
            obtain ⟨g16, h⟩ := h
            obtain ⟨g17, h⟩ := h
            refine j_icmp_ge (tgt := 83) hx hb dX10_sortKeys_21 (by decide) g16 g17 (fun c15 => ?_) (fun c15 => ?_)
            · have h := h.1 c15
              refine lv_iload_n hx hb dX10_sortKeys_83 rfl (lv_at hl 2 rfl) ?_
              refine lv_iconst (v := J 2) hx hb dX10_sortKeys_84 (by decide) ?_
              obtain ⟨g18, h⟩ := h
              refine j_idiv hx hb dX10_sortKeys_85 g18 (by decide) ?_
              refine j_topi (fun x19 ex19 => ?_)
              have h := h x19 ex19
              refine lv_istore_n (lv' := [(3, .int (J x19)), (0, .ref (rA o a0)), (2, .int (J x2)), (4, .int (J x11))]) hx hb dX10_sortKeys_86 rfl hl (by decide) rfl (fun ls hl => ?_)
              refine lv_goto (tgt := 11) hx hb dX10_sortKeys_87 (by decide) ?_
              obtain ⟨n20, ln20, iI7⟩ := h
              exact rI7 n20 ln20 x19 M12 iI7 H locs hG ls (lv_sub hl [1, 2, 0] rfl)
            · have h := h.2 c15
              refine lv_aload_n hx hb dX10_sortKeys_24 rfl (lv_at hl 0 rfl) ?_
              refine lv_iload hx hb dX10_sortKeys_25 (lv_at hl 3 rfl) ?_
              obtain ⟨g21, h⟩ := h
              refine j_lald hx hb hK hG (n := 400) ka0 (by decide) g21 dX10_sortKeys_27 ?_
              refine j_topl (fun x22 ex22 => ?_)
              have h := h x22 ex22
              refine lv_lstore (lv' := [(5, .long (JL x22)), (0, .ref (rA o a0)), (2, .int (J x2)), (3, .int (J x5)), (4, .int (J x11))]) hx hb dX10_sortKeys_28 hl (by decide) rfl (fun ls hl => ?_)
              refine lv_iload hx hb dX10_sortKeys_30 (lv_at hl 4 rfl) ?_
              refine lv_istore (lv' := [(7, .int (J x11)), (5, .long (JL x22)), (0, .ref (rA o a0)), (2, .int (J x2)), (3, .int (J x5)), (4, .int (J x11))]) hx hb dX10_sortKeys_32 hl (by decide) rfl (fun ls hl => ?_)
              obtain ⟨I25, ⟨n26s, iI25⟩, qI25⟩ := h
              have lI25 : ∀ (n26 : Nat) (x23 : Int) (M24 : jT), I25 n26 x23 M24 → ∀ (H : Heap) (locs : List Loc), GM D cy o M24 s.heap H locs → ∀ ls : Array Slot, lv_has ls 8 [(0, .ref (rA o a0)), (2, .int (J x2)), (3, .int (J x5)), (4, .int (J x11)), (5, .long (JL x22)), (7, .int (J x23))] → W p l e rm_X10_sortKeys_b s m args below meth c H locs 0 0 Qf (F0 m 34 ls []) := by
                intro n26
                induction n26 using Nat.strongRecOn with
                | ind n26 rI25 =>
                  intro x23 M24 iI25 H locs hG ls hl
                  have h := qI25 n26 x23 M24 iI25
                  refine lv_iload hx hb dX10_sortKeys_34 (lv_at hl 5 rfl) ?_
                  refine lv_iload_n hx hb dX10_sortKeys_36 rfl (lv_at hl 2 rfl) ?_
                  obtain ⟨K37, hK37, h⟩ := h
                  have jK37 : K37 → ∀ (H : Heap) (locs : List Loc), GM D cy o M24 s.heap H locs → ∀ ls : Array Slot, lv_has ls 8 [(0, .ref (rA o a0)), (2, .int (J x2)), (3, .int (J x5)), (4, .int (J x11)), (5, .long (JL x22)), (7, .int (J x23))] → W p l e rm_X10_sortKeys_b s m args below meth c H locs 0 0 Qf (F0 m 71 ls []) := by
                    intro hcK37 H locs hG ls hl
                    have h := hK37 hcK37
                    refine lv_aload_n hx hb dX10_sortKeys_71 rfl (lv_at hl 0 rfl) ?_
                    refine lv_iload hx hb dX10_sortKeys_72 (lv_at hl 5 rfl) ?_
                    refine lv_lload hx hb dX10_sortKeys_74 (lv_at hl 4 rfl) ?_
                    obtain ⟨g38, h⟩ := h
                    refine j_last hx hb hK hG (n := 400) ka0 (by decide) g38 dX10_sortKeys_76 (fun M39 eM39 H locs hG => ?_)
                    have h := h M39 eM39
                    refine j_iinc hx hb dX10_sortKeys_77 hl (k := 3) rfl (by decide) (fun x40 ex40 ls hl => ?_)
                    have h := h x40 ex40
                    have hl : lv_has ls 8 [(4, .int (J x40)), (0, .ref (rA o a0)), (2, .int (J x2)), (3, .int (J x5)), (5, .long (JL x22)), (7, .int (J x23))] := hl
                    refine lv_goto (tgt := 18) hx hb dX10_sortKeys_80 (by decide) ?_
                    obtain ⟨n41, ln41, iI13⟩ := h
                    exact rI13 n41 ln41 x40 M39 iI13 H locs hG ls (lv_sub hl [1, 2, 3, 0] rfl)
                  obtain ⟨g43, h⟩ := h
                  refine j_icmp_lt (tgt := 71) hx hb dX10_sortKeys_37 (by decide) g43 g10 (fun c42 => ?_) (fun c42 => ?_)
                  · have h := h.1 c42
                    exact jK37 h H locs hG ls (lv_sub hl [0, 1, 2, 3, 4, 5] rfl)
                  · have h := h.2 c42
                    refine lv_aload_n hx hb dX10_sortKeys_40 rfl (lv_at hl 0 rfl) ?_
                    refine lv_iload hx hb dX10_sortKeys_41 (lv_at hl 5 rfl) ?_
                    refine lv_iload_n hx hb dX10_sortKeys_43 rfl (lv_at hl 2 rfl) ?_
                    refine j_isub hx hb dX10_sortKeys_44 ?_
                    obtain ⟨g44, h⟩ := h
                    refine j_lald hx hb hK hG (n := 400) ka0 (by decide) g44 dX10_sortKeys_45 ?_
                    refine lv_lload hx hb dX10_sortKeys_46 (lv_at hl 4 rfl) ?_
                    obtain ⟨g46, h⟩ := h
                    obtain ⟨g47, h⟩ := h
                    refine j_lcmp_le (tgt := 71) hx hb dX10_sortKeys_48 dX10_sortKeys_49 (by decide) g46 g47 (fun c45 => ?_) (fun c45 => ?_)
                    · have h := h.1 c45
                      exact jK37 h H locs hG ls (lv_sub hl [0, 1, 2, 3, 4, 5] rfl)
                    · have h := h.2 c45
                      refine lv_aload_n hx hb dX10_sortKeys_52 rfl (lv_at hl 0 rfl) ?_
                      refine lv_iload hx hb dX10_sortKeys_53 (lv_at hl 5 rfl) ?_
                      refine lv_aload_n hx hb dX10_sortKeys_55 rfl (lv_at hl 0 rfl) ?_
                      refine lv_iload hx hb dX10_sortKeys_56 (lv_at hl 5 rfl) ?_
                      refine lv_iload_n hx hb dX10_sortKeys_58 rfl (lv_at hl 2 rfl) ?_
                      refine j_isub hx hb dX10_sortKeys_59 ?_
                      refine j_lald hx hb hK hG (n := 400) ka0 (by decide) g44 dX10_sortKeys_60 ?_
                      obtain ⟨g48, h⟩ := h
                      refine j_last hx hb hK hG (n := 400) ka0 (by decide) g48 dX10_sortKeys_61 (fun M49 eM49 H locs hG => ?_)
                      have h := h M49 eM49
                      refine lv_iload hx hb dX10_sortKeys_62 (lv_at hl 5 rfl) ?_
                      refine lv_iload_n hx hb dX10_sortKeys_64 rfl (lv_at hl 2 rfl) ?_
                      refine j_isub hx hb dX10_sortKeys_65 ?_
                      refine j_topi (fun x50 ex50 => ?_)
                      have h := h x50 ex50
                      refine lv_istore (lv' := [(7, .int (J x50)), (0, .ref (rA o a0)), (2, .int (J x2)), (3, .int (J x5)), (4, .int (J x11)), (5, .long (JL x22))]) hx hb dX10_sortKeys_66 hl (by decide) rfl (fun ls hl => ?_)
                      refine lv_goto (tgt := 34) hx hb dX10_sortKeys_68 (by decide) ?_
                      obtain ⟨n51, ln51, iI25⟩ := h
                      exact rI25 n51 ln51 x50 M49 iI25 H locs hG ls (lv_sub hl [1, 2, 3, 4, 5, 0] rfl)
              exact lI25 n26s x11 M12 iI25 H locs hG ls (lv_sub hl [2, 3, 4, 5, 1, 0] rfl)
        exact lI13 n14s x5 M6 iI13 H locs hG ls (lv_sub hl [1, 2, 3, 0] rfl)
  exact lI7 n8s x4 M iI7 H locs hG ls (lv_sub hl [2, 1, 0] rfl)

abbrev rm_X2_begin : Room := { frames := 0, cells := 0, slots := 0, locals := 0 }
set_option maxRecDepth 100000 in
set_option maxHeartbeats 4000000 in
theorem A_X2_begin (l : Launch) {D : va_G} {cy : Nat → ClassId} {o : Nat} {sK sV : Nat → Nat} {M : jT} {a0 : Int} {a1 : Int} (ka0 : kd a0 = 2) {Q : jT → Prop} (h : wp_X2_begin M a0 a1 Q) : CoV l yX2_begin (wj yX2_begin cX2_begin 2 none) rm_X2_begin D cy o sK sV M [.ref (rA o a0), .int (J a1)] Q := by
  refine j_ofW (cc := cX2_begin) (maxL := 2) (ret := none) (by decide) rfl (Nat.le_of_ble_eq_true rfl) ?_
  intro p e s m args below meth c hx hb hr hlocks hml hown hts hK hSX H locs hG ls hl Qf hQf
  have hown : s.vm.findClass RX2 = some m.cls := hown
  have hl : lv_has ls 2 [(0, .ref (rA o a0)), (1, .int (J a1))] := hl
  have w_fl_RX2_9 := hts _ (List.mem_cons_of_mem _ fl_RX2_9)
  have w_fl_RX2_15 := hts _ (List.mem_cons_of_mem _ fl_RX2_15)
  have w_fl_RX2_18 := hts _ (List.mem_cons_of_mem _ fl_RX2_18)
  unfold wp_X2_begin at h
  refine lv_aload_n hx hb dX2_begin_0 rfl (lv_at hl 0 rfl) ?_
  refine lv_iload_n hx hb dX2_begin_1 rfl (lv_at hl 1 rfl) ?_
  refine j_puti hx hb hts hown hK hG (k := a0) (fun w h => List.mem_cons_of_mem _ (u_X2 w h)) tyX2 tyX2_ok nmX2 (ci := 1) rfl ka0 0 (by decide) (jz := 0) rfl w_fl_RX2_9 (hd := rfl) (hn := rfl) (hfit := rfl) (hdg := dX2_begin_2) (fun M1 eM1 H locs hG => ?_)
  have h := h M1 eM1
  refine lv_aload_n hx hb dX2_begin_5 rfl (lv_at hl 0 rfl) ?_
  refine lv_iconst (v := J 0) hx hb dX2_begin_6 (by decide) ?_
  refine j_puti hx hb hts hown hK hG (k := a0) (fun w h => List.mem_cons_of_mem _ (u_X2 w h)) tyX2 tyX2_ok nmX2 (ci := 1) rfl ka0 1 (by decide) (jz := 1) rfl w_fl_RX2_15 (hd := rfl) (hn := rfl) (hfit := rfl) (hdg := dX2_begin_7) (fun M2 eM2 H locs hG => ?_)
  have h := h M2 eM2
  refine lv_aload_n hx hb dX2_begin_10 rfl (lv_at hl 0 rfl) ?_
  refine lv_iconst (v := J 0) hx hb dX2_begin_11 (by decide) ?_
  refine j_puti hx hb hts hown hK hG (k := a0) (fun w h => List.mem_cons_of_mem _ (u_X2 w h)) tyX2 tyX2_ok nmX2 (ci := 1) rfl ka0 3 (by decide) (jz := 3) rfl w_fl_RX2_18 (hd := rfl) (hn := nar_b (by decide)) (hfit := fit_b (by decide)) (hdg := dX2_begin_12) (fun M3 eM3 H locs hG => ?_)
  have h := h M3 eM3
  rw [hQf]
  exact j_vret hx hb hr hlocks hG h (by decide) dX2_begin_15

abbrev rm_X2_take : Room := { frames := 1, cells := 0, slots := 0, locals := 22 }
set_option maxRecDepth 100000 in
set_option maxHeartbeats 4000000 in
theorem A_X2_take (l : Launch) {D : va_G} {cy : Nat → ClassId} {o : Nat} {sK sV : Nat → Nat} {M : jT} {a0 : Int} {a1 : Int} {a2 : Int} (ka0 : kd a0 = 2) (ka1 : kd a1 = 9) {Q : Int → jT → Prop} (h : wp_X2_take M a0 a1 a2 Q) : CoI l yX2_take (wj yX2_take cX2_take 8 (some .int)) rm_X2_take D cy o sK sV M [.ref (rA o a0), .ref (rA o a1), .long (JL a2)] Q := by
  refine j_ofW (cc := cX2_take) (maxL := 8) (ret := (some .int)) (by decide) rfl (Nat.le_of_ble_eq_true rfl) ?_
  intro p e s m args below meth c hx hb hr hlocks hml hown hts hK hSX H locs hG ls hl Qf hQf
  have hown : s.vm.findClass RX2 = some m.cls := hown
  have hl : lv_has ls 8 [(0, .ref (rA o a0)), (1, .ref (rA o a1)), (2, .long (JL a2))] := hl
  have w_cl_RX2_22 := hts _ (List.mem_cons_of_mem _ cl_RX2_22)
  have w_fl_RX2_9 := hts _ (List.mem_cons_of_mem _ fl_RX2_9)
  have w_fl_RX2_15 := hts _ (List.mem_cons_of_mem _ fl_RX2_15)
  have w_fl_RX2_30 := hts _ (List.mem_cons_of_mem _ fl_RX2_30)
  have w_fl_RX2_18 := hts _ (List.mem_cons_of_mem _ fl_RX2_18)
  have w_fl_RX2_33 := hts _ (List.mem_cons_of_mem _ fl_RX2_33)
  have w_fl_RX2_36 := hts _ (List.mem_cons_of_mem _ fl_RX2_36)
  unfold wp_X2_take at h
  refine lv_lload_n hx hb dX2_take_0 rfl (lv_at hl 2 rfl) ?_
  refine lv_ldc2 (v := JL 16) hx hb hown (show (Cond.constantLong RX2 22 (JL 16)).before args s = true from w_cl_RX2_22) dX2_take_1 ?_
  obtain ⟨g1, h⟩ := h
  refine j_lrem hx hb dX2_take_4 g1 (by decide) ?_
  refine j_l2i hx hb dX2_take_5 ?_
  refine j_topi (fun x2 ex2 => ?_)
  have h := h x2 ex2
  refine lv_istore (lv' := [(4, .int (J x2)), (0, .ref (rA o a0)), (1, .ref (rA o a1)), (2, .long (JL a2))]) hx hb dX2_take_6 hl (by decide) rfl (fun ls hl => ?_)
  refine lv_iload hx hb dX2_take_8 (lv_at hl 0 rfl) ?_
  refine lv_iconst (v := J 4) hx hb dX2_take_10 (by decide) ?_
  obtain ⟨hg, h⟩ := h
  have jK6 : ∀ x5 : Int, x5 = b2i (x2 < 4) → ∀ (H : Heap) (locs : List Loc), GM D cy o M s.heap H locs → ∀ ls : Array Slot, lv_has ls 8 [(0, .ref (rA o a0)), (1, .ref (rA o a1)), (2, .long (JL a2)), (4, .int (J x2))] → W p l e rm_X2_take s m args below meth c H locs 0 0 Qf (F0 m 19 ls [.int (J x5)]) := by
    intro x5 ex5 H locs hG ls hl
    subst ex5
    refine lv_istore (lv' := [(5, .int (J (b2i (x2 < 4)))), (0, .ref (rA o a0)), (1, .ref (rA o a1)), (2, .long (JL a2)), (4, .int (J x2))]) hx hb dX2_take_19 hl (by decide) rfl (fun ls hl => ?_)
    refine lv_iload hx hb dX2_take_21 (lv_at hl 0 rfl) ?_
    obtain ⟨hg, h⟩ := h
    have jK14 : ∀ x13 : Int, (¬ (x2 < 4) → x13 = pf_X9_ruleNumber M a1 (x2 - 4) 5) → (x2 < 4 → x13 = 0) → ∀ (H : Heap) (locs : List Loc), GM D cy o M s.heap H locs → ∀ ls : Array Slot, lv_has ls 8 [(0, .ref (rA o a0)), (1, .ref (rA o a1)), (2, .long (JL a2)), (4, .int (J x2)), (5, .int (J (b2i (x2 < 4))))] → W p l e rm_X2_take s m args below meth c H locs 0 0 Qf (F0 m 39 ls [.int (J x13)]) := by
      intro x13 qx13_0 qx13_1 H locs hG ls hl
      have h := h x13 qx13_0 qx13_1
      refine lv_istore (lv' := [(6, .int (J x13)), (0, .ref (rA o a0)), (1, .ref (rA o a1)), (2, .long (JL a2)), (4, .int (J x2)), (5, .int (J (b2i (x2 < 4))))]) hx hb dX2_take_39 hl (by decide) rfl (fun ls hl => ?_)
      refine lv_aload_n hx hb dX2_take_41 rfl (lv_at hl 1 rfl) ?_
      refine lv_lload_n hx hb dX2_take_42 rfl (lv_at hl 3 rfl) ?_
      refine lv_ldc2 (v := JL 16) hx hb hown (show (Cond.constantLong RX2 22 (JL 16)).before args s = true from w_cl_RX2_22) dX2_take_43 ?_
      refine j_ldiv hx hb dX2_take_46 g1 (by decide) ?_
      refine j_l2i hx hb dX2_take_47 ?_
      refine lv_iload hx hb dX2_take_48 (lv_at hl 0 rfl) ?_
      refine lv_iconst (v := J 2) hx hb dX2_take_50 (by decide) ?_
      obtain ⟨hg, h⟩ := h
      have jK22 : ∀ x21 : Int, (x13 ≠ 2 → x21 = M a0 0) → (x13 = 2 → x21 = 0) → ∀ (H : Heap) (locs : List Loc), GM D cy o M s.heap H locs → ∀ ls : Array Slot, lv_has ls 8 [(0, .ref (rA o a0)), (1, .ref (rA o a1)), (4, .int (J x2)), (5, .int (J (b2i (x2 < 4)))), (6, .int (J x13))] → W p l e rm_X2_take s m args below meth c H locs 0 0 Qf (F0 m 62 ls [.int (J x21), .int (J (a2 / 16)), .ref (rA o a0)]) := by
        intro x21 qx21_0 qx21_1 H locs hG ls hl
        have h := h x21 qx21_0 qx21_1
        refine j_isub hx hb dX2_take_62 ?_
        refine lv_iload hx hb dX2_take_63 (lv_at hl 4 rfl) ?_
        obtain ⟨hg, h⟩ := h
        have jK28 : ∀ x27 : Int, (x13 ≠ 0 → x27 = 0) → (x13 = 0 → x27 = M a0 1) → ∀ (H : Heap) (locs : List Loc), GM D cy o M s.heap H locs → ∀ ls : Array Slot, lv_has ls 8 [(0, .ref (rA o a0)), (1, .ref (rA o a1)), (4, .int (J x2)), (5, .int (J (b2i (x2 < 4))))] → W p l e rm_X2_take s m args below meth c H locs 0 0 Qf (F0 m 76 ls [.int (J x27), .int (J ((a2 / 16) - x21)), .ref (rA o a0)]) := by
          intro x27 qx27_0 qx27_1 H locs hG ls hl
          have h := h x27 qx27_0 qx27_1
          refine j_isub hx hb dX2_take_76 ?_
          refine j_puti hx hb hts hown hK hG (k := a0) (fun w h => List.mem_cons_of_mem _ (u_X2 w h)) tyX2 tyX2_ok nmX2 (ci := 1) rfl ka0 2 (by decide) (jz := 2) rfl w_fl_RX2_30 (hd := rfl) (hn := rfl) (hfit := rfl) (hdg := dX2_take_77) (fun M31 eM31 H locs hG => ?_)
          have h := h M31 eM31
          refine lv_aload_n hx hb dX2_take_80 rfl (lv_at hl 0 rfl) ?_
          refine j_geti hx hb hts hown hK hG (k := a0) (fun w h => List.mem_cons_of_mem _ (u_X2 w h)) (ci := 1) rfl ka0 3 (by decide) (jz := 3) rfl w_fl_RX2_18 dX2_take_81 ?_
          obtain ⟨K37, hK37, h⟩ := h
          have jK37 : K37 → ∀ (H : Heap) (locs : List Loc), GM D cy o M31 s.heap H locs → ∀ ls : Array Slot, lv_has ls 8 [(0, .ref (rA o a0)), (1, .ref (rA o a1)), (4, .int (J x2)), (5, .int (J (b2i (x2 < 4))))] → W p l e rm_X2_take s m args below meth c H locs 0 0 Qf (F0 m 100 ls []) := by
            intro hcK37 H locs hG ls hl
            have h := hK37 hcK37
            refine lv_aload_n hx hb dX2_take_100 rfl (lv_at hl 0 rfl) ?_
            refine j_geti hx hb hts hown hK hG (k := a0) (fun w h => List.mem_cons_of_mem _ (u_X2 w h)) (ci := 1) rfl ka0 0 (by decide) (jz := 0) rfl w_fl_RX2_9 dX2_take_101 ?_
            refine lv_aload_n hx hb dX2_take_104 rfl (lv_at hl 0 rfl) ?_
            refine j_geti hx hb hts hown hK hG (k := a0) (fun w h => List.mem_cons_of_mem _ (u_X2 w h)) (ci := 1) rfl ka0 1 (by decide) (jz := 1) rfl w_fl_RX2_15 dX2_take_105 ?_
            refine j_iadd hx hb dX2_take_108 ?_
            refine j_topi (fun x38 ex38 => ?_)
            have h := h x38 ex38
            refine lv_istore (lv' := [(7, .int (J x38)), (0, .ref (rA o a0)), (1, .ref (rA o a1)), (4, .int (J x2)), (5, .int (J (b2i (x2 < 4))))]) hx hb dX2_take_109 hl (by decide) rfl (fun ls hl => ?_)
            refine lv_iload hx hb dX2_take_111 (lv_at hl 4 rfl) ?_
            obtain ⟨K47, hK47, h⟩ := h
            have jK47 : ∀ (M46 : jT), K47 M46 → ∀ (H : Heap) (locs : List Loc), GM D cy o M46 s.heap H locs → ∀ ls : Array Slot, lv_has ls 8 [(0, .ref (rA o a0)), (7, .int (J x38))] → W p l e rm_X2_take s m args below meth c H locs 0 0 Qf (F0 m 144 ls []) := by
              intro M46 hcK47 H locs hG ls hl
              have h := hK47 M46 hcK47
              refine lv_aload_n hx hb dX2_take_144 rfl (lv_at hl 0 rfl) ?_
              refine j_geti hx hb hts hown hK hG (k := a0) (fun w h => List.mem_cons_of_mem _ (u_X2 w h)) (ci := 1) rfl ka0 0 (by decide) (jz := 0) rfl w_fl_RX2_9 dX2_take_145 ?_
              refine lv_aload_n hx hb dX2_take_148 rfl (lv_at hl 0 rfl) ?_
              refine j_geti hx hb hts hown hK hG (k := a0) (fun w h => List.mem_cons_of_mem _ (u_X2 w h)) (ci := 1) rfl ka0 1 (by decide) (jz := 1) rfl w_fl_RX2_15 dX2_take_149 ?_
              refine j_iadd hx hb dX2_take_152 ?_
              refine lv_iload hx hb dX2_take_153 (lv_at hl 1 rfl) ?_
              obtain ⟨g49, h⟩ := h
              obtain ⟨g50, h⟩ := h
              refine j_icmp_ne (tgt := 160) hx hb dX2_take_155 (by decide) g49 g50 (fun c48 => ?_) (fun c48 => ?_)
              · have h := h.1 c48
                refine lv_aload_n hx hb dX2_take_160 rfl (lv_at hl 0 rfl) ?_
                refine lv_iconst (v := J 1) hx hb dX2_take_161 (by decide) ?_
                refine j_puti hx hb hts hown hK hG (k := a0) (fun w h => List.mem_cons_of_mem _ (u_X2 w h)) tyX2 tyX2_ok nmX2 (ci := 1) rfl ka0 3 (by decide) (jz := 3) rfl w_fl_RX2_18 (hd := rfl) (hn := nar_b (by decide)) (hfit := fit_b (by decide)) (hdg := dX2_take_162) (fun M51 eM51 H locs hG => ?_)
                have h := h M51 eM51
                refine lv_aload_n hx hb dX2_take_165 rfl (lv_at hl 0 rfl) ?_
                refine lv_aload_n hx hb dX2_take_166 rfl (lv_at hl 0 rfl) ?_
                refine j_geti hx hb hts hown hK hG (k := a0) (fun w h => List.mem_cons_of_mem _ (u_X2 w h)) (ci := 1) rfl ka0 2 (by decide) (jz := 2) rfl w_fl_RX2_30 dX2_take_167 ?_
                refine j_puti hx hb hts hown hK hG (k := a0) (fun w h => List.mem_cons_of_mem _ (u_X2 w h)) tyX2 tyX2_ok nmX2 (ci := 1) rfl ka0 4 (by decide) (jz := 4) rfl w_fl_RX2_33 (hd := rfl) (hn := rfl) (hfit := rfl) (hdg := dX2_take_170) (fun M52 eM52 H locs hG => ?_)
                have h := h M52 eM52
                refine lv_iconst (v := J 2) hx hb dX2_take_173 (by decide) ?_
                rw [hQf]
                exact j_ireti hx hb hr hlocks hG h (by decide) dX2_take_174
              · have h := h.2 c48
                refine lv_iconst (v := J 1) hx hb dX2_take_158 (by decide) ?_
                rw [hQf]
                exact j_ireti hx hb hr hlocks hG h (by decide) dX2_take_159
            refine j_if_eq_b (tgt := 130) hx hb dX2_take_113 (by decide) (fun c53 => ?_) (fun c53 => ?_)
            · have h := h.1 c53
              refine lv_aload_n hx hb dX2_take_130 rfl (lv_at hl 1 rfl) ?_
              refine lv_aload_n hx hb dX2_take_131 rfl (lv_at hl 2 rfl) ?_
              refine lv_iload hx hb dX2_take_132 (lv_at hl 3 rfl) ?_
              refine lv_iconst (v := J 4) hx hb dX2_take_134 (by decide) ?_
              refine j_isub hx hb dX2_take_135 ?_
              refine lv_bipush (v := J 6) hx hb dX2_take_136 (by decide) ?_
              obtain ⟨g54, h⟩ := h
              refine j_conti (va_runV (As := [.int (J (x2 - 4)), .int (J 6)]) (rest := [.ref (rA o a0)]) ⟨hx, hb, hml, hown, hts⟩ (A_X9_ruleNumber l ka1 g54) (cwV 2 hts (gj_V ml_RX2_24 i_X9_ruleNumber s_X9_ruleNumber n_RX9 k_X9_ruleNumber) rfl rfl rfl (by decide +kernel) ⟨by exact Nat.le_of_ble_eq_true rfl, by exact Nat.le_of_ble_eq_true rfl⟩) (j_preV hK hSX hG (ci := 8) rfl ka1 (by decide)) rfl rfl hl.1 rfl (lv_room (Nat.le_of_ble_eq_true rfl)) dX2_take_138 ⟨by exact Nat.le_of_ble_eq_true rfl, by exact Nat.le_of_ble_eq_true rfl⟩) hG (c2 := 0) (s2 := 0) ⟨by exact Nat.le_of_ble_eq_true rfl, by exact Nat.le_of_ble_eq_true rfl⟩ (fun z55 M56 ez55 H locs hG => ?_)
              obtain ⟨ez55, eM56⟩ := ez55
              subst ez55
              rw [eM56] at hG
              refine j_puti hx hb hts hown hK hG (k := a0) (fun w h => List.mem_cons_of_mem _ (u_X2 w h)) tyX2 tyX2_ok nmX2 (ci := 1) rfl ka0 1 (by decide) (jz := 1) rfl w_fl_RX2_15 (hd := rfl) (hn := rfl) (hfit := rfl) (hdg := dX2_take_141) (fun M57 eM57 H locs hG => ?_)
              have h := h M57 eM57
              exact jK47 M57 h H locs hG ls (lv_sub hl [1, 0] rfl)
            · have h := h.2 c53
              refine lv_aload_n hx hb dX2_take_116 rfl (lv_at hl 1 rfl) ?_
              refine lv_aload_n hx hb dX2_take_117 rfl (lv_at hl 2 rfl) ?_
              refine j_getr hx hb hts hown hK hG (k := a1) (fun w h => List.mem_cons_of_mem _ (u_X9 w h)) (ci := 8) rfl ka1 5 (k2 := a1 + 3) (by decide) (by show a1 + (3 : Int) = a1 + 3; omega) w_fl_RX2_36 dX2_take_118 ?_
              refine lv_iload hx hb dX2_take_121 (lv_at hl 3 rfl) ?_
              obtain ⟨g58, h⟩ := h
              refine j_iald hx hb hK hG (n := 4) (kf_9_5 ka1) (by decide) g58 dX2_take_123 ?_
              refine j_puti hx hb hts hown hK hG (k := a0) (fun w h => List.mem_cons_of_mem _ (u_X2 w h)) tyX2 tyX2_ok nmX2 (ci := 1) rfl ka0 0 (by decide) (jz := 0) rfl w_fl_RX2_9 (hd := rfl) (hn := rfl) (hfit := rfl) (hdg := dX2_take_124) (fun M59 eM59 H locs hG => ?_)
              have h := h M59 eM59
              refine lv_goto (tgt := 144) hx hb dX2_take_127 (by decide) ?_
              exact jK47 M59 h H locs hG ls (lv_sub hl [1, 0] rfl)
          obtain ⟨g61, h⟩ := h
          refine j_if_eq (tgt := 100) hx hb dX2_take_84 (by decide) g61 (fun c60 => ?_) (fun c60 => ?_)
          · have h := h.1 c60
            exact jK37 h H locs hG ls (lv_sub hl [0, 1, 2, 3] rfl)
          · have h := h.2 c60
            refine lv_aload_n hx hb dX2_take_87 rfl (lv_at hl 0 rfl) ?_
            refine j_geti hx hb hts hown hK hG (k := a0) (fun w h => List.mem_cons_of_mem _ (u_X2 w h)) (ci := 1) rfl ka0 4 (by decide) (jz := 4) rfl w_fl_RX2_33 dX2_take_88 ?_
            refine lv_aload_n hx hb dX2_take_91 rfl (lv_at hl 0 rfl) ?_
            refine j_geti hx hb hts hown hK hG (k := a0) (fun w h => List.mem_cons_of_mem _ (u_X2 w h)) (ci := 1) rfl ka0 2 (by decide) (jz := 2) rfl w_fl_RX2_30 dX2_take_92 ?_
            obtain ⟨g63, h⟩ := h
            obtain ⟨g64, h⟩ := h
            refine j_icmp_lt (tgt := 100) hx hb dX2_take_95 (by decide) g63 g64 (fun c62 => ?_) (fun c62 => ?_)
            · have h := h.1 c62
              exact jK37 h H locs hG ls (lv_sub hl [0, 1, 2, 3] rfl)
            · have h := h.2 c62
              refine lv_iconst (v := J 0) hx hb dX2_take_98 (by decide) ?_
              rw [hQf]
              exact j_ireti hx hb hr hlocks hG h (by decide) dX2_take_99
        have h := hg
        obtain ⟨g30, h⟩ := h
        refine j_if_ne (tgt := 75) hx hb dX2_take_65 (by decide) g30 (fun c29 => ?_) (fun c29 => ?_)
        · have h := h.1 c29
          refine lv_iconst (v := J 0) hx hb dX2_take_75 (by decide) ?_
          exact jK28 0 (fun _ => rfl) (fun q => absurd q (by omega)) H locs hG ls (lv_sub hl [0, 1, 2, 3] rfl)
        · have h := h.2 c29
          refine lv_aload_n hx hb dX2_take_68 rfl (lv_at hl 0 rfl) ?_
          refine j_geti hx hb hts hown hK hG (k := a0) (fun w h => List.mem_cons_of_mem _ (u_X2 w h)) (ci := 1) rfl ka0 1 (by decide) (jz := 1) rfl w_fl_RX2_15 dX2_take_69 ?_
          refine lv_goto (tgt := 76) hx hb dX2_take_72 (by decide) ?_
          exact jK28 (M a0 1) (fun q => absurd q (by omega)) (fun _ => rfl) H locs hG ls (lv_sub hl [0, 1, 2, 3] rfl)
      have h := hg
      obtain ⟨g24, h⟩ := h
      refine j_icmp_ne (tgt := 58) hx hb dX2_take_51 (by decide) g24 (by decide) (fun c23 => ?_) (fun c23 => ?_)
      · have h := h.1 c23
        refine lv_aload_n hx hb dX2_take_58 rfl (lv_at hl 1 rfl) ?_
        refine j_geti hx hb hts hown hK hG (k := a0) (fun w h => List.mem_cons_of_mem _ (u_X2 w h)) (ci := 1) rfl ka0 0 (by decide) (jz := 0) rfl w_fl_RX2_9 dX2_take_59 ?_
        exact jK22 (M a0 0) (fun _ => rfl) (fun q => absurd q (by omega)) H locs hG ls (lv_sub hl [1, 2, 4, 5, 0] rfl)
      · have h := h.2 c23
        refine lv_iconst (v := J 0) hx hb dX2_take_54 (by decide) ?_
        refine lv_goto (tgt := 62) hx hb dX2_take_55 (by decide) ?_
        exact jK22 0 (fun q => absurd q (by omega)) (fun _ => rfl) H locs hG ls (lv_sub hl [1, 2, 4, 5, 0] rfl)
    have h := hg
    refine j_if_eq_b (tgt := 30) hx hb dX2_take_23 (by decide) (fun c15 => ?_) (fun c15 => ?_)
    · have h := h.1 c15
      refine lv_aload_n hx hb dX2_take_30 rfl (lv_at hl 2 rfl) ?_
      refine lv_iload hx hb dX2_take_31 (lv_at hl 4 rfl) ?_
      refine lv_iconst (v := J 4) hx hb dX2_take_33 (by decide) ?_
      refine j_isub hx hb dX2_take_34 ?_
      refine lv_iconst (v := J 5) hx hb dX2_take_35 (by decide) ?_
      obtain ⟨g16, h⟩ := h
      refine j_conti (va_runV (As := [.int (J (x2 - 4)), .int (J 5)]) (rest := []) ⟨hx, hb, hml, hown, hts⟩ (A_X9_ruleNumber l ka1 g16) (cwV 2 hts (gj_V ml_RX2_24 i_X9_ruleNumber s_X9_ruleNumber n_RX9 k_X9_ruleNumber) rfl rfl rfl (by decide +kernel) ⟨by exact Nat.le_of_ble_eq_true rfl, by exact Nat.le_of_ble_eq_true rfl⟩) (j_preV hK hSX hG (ci := 8) rfl ka1 (by decide)) rfl rfl hl.1 rfl (lv_room (Nat.le_of_ble_eq_true rfl)) dX2_take_36 ⟨by exact Nat.le_of_ble_eq_true rfl, by exact Nat.le_of_ble_eq_true rfl⟩) hG (c2 := 0) (s2 := 0) ⟨by exact Nat.le_of_ble_eq_true rfl, by exact Nat.le_of_ble_eq_true rfl⟩ (fun z17 M18 ez17 H locs hG => ?_)
      obtain ⟨ez17, eM18⟩ := ez17
      subst ez17
      rw [eM18] at hG
      exact jK14 (pf_X9_ruleNumber M a1 (x2 - 4) 5) (fun _ => rfl) (fun q => absurd q c15) H locs hG ls (lv_sub hl [1, 2, 3, 4, 0] rfl)
    · have h := h.2 c15
      refine lv_iconst (v := J 0) hx hb dX2_take_26 (by decide) ?_
      refine lv_goto (tgt := 39) hx hb dX2_take_27 (by decide) ?_
      exact jK14 0 (fun q => absurd c15 q) (fun _ => rfl) H locs hG ls (lv_sub hl [1, 2, 3, 4, 0] rfl)
  have h := hg
  obtain ⟨g8, h⟩ := h
  refine j_icmp_ge (tgt := 18) hx hb dX2_take_11 (by decide) g8 (by decide) (fun c7 => ?_) (fun c7 => ?_)
  · have h := h.1 c7
    refine lv_iconst (v := J 0) hx hb dX2_take_18 (by decide) ?_
    exact jK6 0 (b2i_iff0 (iff_of_false (show ¬ (x2 < 4) from by omega) id)) H locs hG ls (lv_sub hl [1, 2, 3, 0] rfl)
  · have h := h.2 c7
    refine lv_iconst (v := J 1) hx hb dX2_take_14 (by decide) ?_
    refine lv_goto (tgt := 19) hx hb dX2_take_15 (by decide) ?_
    exact jK6 1 (b2i_iff1 (iff_of_true c7 trivial)) H locs hG ls (lv_sub hl [1, 2, 3, 0] rfl)

abbrev rm_X7_sourceOf : Room := { frames := 0, cells := 0, slots := 0, locals := 0 }
set_option maxRecDepth 100000 in
set_option maxHeartbeats 4000000 in
theorem A_X7_sourceOf (l : Launch) {D : va_G} {cy : Nat → ClassId} {o : Nat} {sK sV : Nat → Nat} {M : jT} {a0 : Int} (h : pg_X7_sourceOf a0) : CoI l yX7_sourceOf (wj yX7_sourceOf cX7_sourceOf 3 (some .int)) rm_X7_sourceOf D cy o sK sV M [.long (JL a0)] (fun z M9 => z = pf_X7_sourceOf a0 ∧ M9 = M) := by
  refine j_ofW (cc := cX7_sourceOf) (maxL := 3) (ret := (some .int)) (by decide) rfl (Nat.le_of_ble_eq_true rfl) ?_
  intro p e s m args below meth c hx hb hr hlocks hml hown hts hK hSX H locs hG ls hl Qf hQf
  have hown : s.vm.findClass RX7 = some m.cls := hown
  have hl : lv_has ls 3 [(0, .long (JL a0))] := hl
  have w_cl_RX7_75 := hts _ (List.mem_cons_of_mem _ cl_RX7_75)
  unfold pg_X7_sourceOf at h
  refine lv_lload_n hx hb dX7_sourceOf_0 rfl (lv_at hl 0 rfl) ?_
  refine lv_ldc2 (v := JL 16) hx hb hown (show (Cond.constantLong RX7 75 (JL 16)).before args s = true from w_cl_RX7_75) dX7_sourceOf_1 ?_
  obtain ⟨g1, h⟩ := h
  refine j_lrem hx hb dX7_sourceOf_4 g1 (by decide) ?_
  refine j_l2i hx hb dX7_sourceOf_5 ?_
  refine lv_istore_n (lv' := [(2, .int (J (a0 % 16))), (0, .long (JL a0))]) hx hb dX7_sourceOf_6 rfl hl (by decide) rfl (fun ls hl => ?_)
  refine lv_iload_n hx hb dX7_sourceOf_7 rfl (lv_at hl 0 rfl) ?_
  refine lv_iconst (v := J 4) hx hb dX7_sourceOf_8 (by decide) ?_
  obtain ⟨g3, h⟩ := h
  refine j_icmp_ge (tgt := 19) hx hb dX7_sourceOf_9 (by decide) g3 (by decide) (fun c2 => ?_) (fun c2 => ?_)
  · have h := h.1 c2
    refine lv_iload_n hx hb dX7_sourceOf_19 rfl (lv_at hl 0 rfl) ?_
    refine lv_iconst (v := J 4) hx hb dX7_sourceOf_20 (by decide) ?_
    refine j_isub hx hb dX7_sourceOf_21 ?_
    rw [hQf]
    exact j_ireti hx hb hr hlocks hG ⟨(by unfold pf_X7_sourceOf; rw [if_pos c2]), rfl⟩ (by decide) dX7_sourceOf_22
  · have h := h.2 c2
    refine lv_bipush (v := J 100) hx hb dX7_sourceOf_12 (by decide) ?_
    refine lv_iload_n hx hb dX7_sourceOf_14 rfl (lv_at hl 0 rfl) ?_
    refine j_iadd hx hb dX7_sourceOf_15 ?_
    refine lv_goto (tgt := 22) hx hb dX7_sourceOf_16 (by decide) ?_
    rw [hQf]
    exact j_ireti hx hb hr hlocks hG ⟨(by unfold pf_X7_sourceOf; rw [if_neg (show ¬ (4 ≤ a0 % 16) from by omega)]), rfl⟩ (by decide) dX7_sourceOf_22

abbrev rm_X7_putVoid : Room := { frames := 1, cells := 0, slots := 0, locals := 22 }
set_option maxRecDepth 100000 in
set_option maxHeartbeats 4000000 in
theorem A_X7_putVoid (l : Launch) {D : va_G} {cy : Nat → ClassId} {o : Nat} {sK sV : Nat → Nat} {M : jT} {a0 : Int} {a1 : Int} {a2 : Int} (ka0 : kd a0 = 7) (ka2 : kd a2 = 2) {Q : jT → Prop} (h : wp_X7_putVoid M a0 a1 a2 Q) : CoV l yX7_putVoid (wj yX7_putVoid cX7_putVoid 4 none) rm_X7_putVoid D cy o sK sV M [.ref (rA o a0), .long (JL a1), .ref (rA o a2)] Q := by
  refine j_ofW (cc := cX7_putVoid) (maxL := 4) (ret := none) (by decide) rfl (Nat.le_of_ble_eq_true rfl) ?_
  intro p e s m args below meth c hx hb hr hlocks hml hown hts hK hSX H locs hG ls hl Qf hQf
  have hown : s.vm.findClass RX7 = some m.cls := hown
  have hl : lv_has ls 4 [(0, .ref (rA o a0)), (1, .long (JL a1)), (3, .ref (rA o a2))] := hl
  have w_fl_RX7_21 := hts _ (List.mem_cons_of_mem _ fl_RX7_21)
  have w_fl_RX7_40 := hts _ (List.mem_cons_of_mem _ fl_RX7_40)
  have w_cl_RX7_75 := hts _ (List.mem_cons_of_mem _ cl_RX7_75)
  have w_fl_RX7_24 := hts _ (List.mem_cons_of_mem _ fl_RX7_24)
  have w_fl_RX7_77 := hts _ (List.mem_cons_of_mem _ fl_RX7_77)
  have w_fl_RX7_27 := hts _ (List.mem_cons_of_mem _ fl_RX7_27)
  unfold wp_X7_putVoid at h
  refine lv_aload_n hx hb dX7_putVoid_0 rfl (lv_at hl 0 rfl) ?_
  refine j_getr hx hb hts hown hK hG (k := a0) (fun w h => List.mem_cons_of_mem _ (u_X7 w h)) (ci := 6) rfl ka0 9 (k2 := a0 + 4) (by decide) (by show a0 + (4 : Int) = a0 + 4; omega) w_fl_RX7_21 dX7_putVoid_1 ?_
  refine lv_aload_n hx hb dX7_putVoid_4 rfl (lv_at hl 0 rfl) ?_
  refine j_geti hx hb hts hown hK hG (k := a0) (fun w h => List.mem_cons_of_mem _ (u_X7 w h)) (ci := 6) rfl ka0 3 (by decide) (jz := 3) rfl w_fl_RX7_40 dX7_putVoid_5 ?_
  refine lv_lload_n hx hb dX7_putVoid_8 rfl (lv_at hl 1 rfl) ?_
  refine lv_ldc2 (v := JL 16) hx hb hown (show (Cond.constantLong RX7 75 (JL 16)).before args s = true from w_cl_RX7_75) dX7_putVoid_9 ?_
  obtain ⟨g1, h⟩ := h
  refine j_ldiv hx hb dX7_putVoid_12 g1 (by decide) ?_
  refine j_l2i hx hb dX7_putVoid_13 ?_
  obtain ⟨g2, h⟩ := h
  refine j_iast hx hb hK hG (n := 260) (kf_7_9 ka0) (by decide) g2 dX7_putVoid_14 (fun M3 eM3 H locs hG => ?_)
  have h := h M3 eM3
  refine lv_aload_n hx hb dX7_putVoid_15 rfl (lv_at hl 0 rfl) ?_
  refine j_getr hx hb hts hown hK hG (k := a0) (fun w h => List.mem_cons_of_mem _ (u_X7 w h)) (ci := 6) rfl ka0 10 (k2 := a0 + 5) (by decide) (by show a0 + (5 : Int) = a0 + 5; omega) w_fl_RX7_24 dX7_putVoid_16 ?_
  refine lv_aload_n hx hb dX7_putVoid_19 rfl (lv_at hl 0 rfl) ?_
  refine j_geti hx hb hts hown hK hG (k := a0) (fun w h => List.mem_cons_of_mem _ (u_X7 w h)) (ci := 6) rfl ka0 3 (by decide) (jz := 3) rfl w_fl_RX7_40 dX7_putVoid_20 ?_
  refine lv_aload_n hx hb dX7_putVoid_23 rfl (lv_at hl 2 rfl) ?_
  refine j_geti hx hb hts hown hK hG (k := a2) (fun w h => List.mem_cons_of_mem _ (u_X2 w h)) (ci := 1) rfl ka2 2 (by decide) (jz := 2) rfl w_fl_RX7_77 dX7_putVoid_24 ?_
  obtain ⟨g4, h⟩ := h
  refine j_iast hx hb hK hG (n := 260) (kf_7_10 ka0) (by decide) g4 dX7_putVoid_27 (fun M5 eM5 H locs hG => ?_)
  have h := h M5 eM5
  refine lv_aload_n hx hb dX7_putVoid_28 rfl (lv_at hl 0 rfl) ?_
  refine j_getr hx hb hts hown hK hG (k := a0) (fun w h => List.mem_cons_of_mem _ (u_X7 w h)) (ci := 6) rfl ka0 11 (k2 := a0 + 6) (by decide) (by show a0 + (6 : Int) = a0 + 6; omega) w_fl_RX7_27 dX7_putVoid_29 ?_
  refine lv_aload_n hx hb dX7_putVoid_32 rfl (lv_at hl 0 rfl) ?_
  refine j_geti hx hb hts hown hK hG (k := a0) (fun w h => List.mem_cons_of_mem _ (u_X7 w h)) (ci := 6) rfl ka0 3 (by decide) (jz := 3) rfl w_fl_RX7_40 dX7_putVoid_33 ?_
  refine lv_lload_n hx hb dX7_putVoid_36 rfl (lv_at hl 1 rfl) ?_
  obtain ⟨g6, h⟩ := h
  refine j_conti (va_runS (As := [.long (JL a1)]) (rest := [.int (J (M5 a0 3)), .ref (rA o (a0 + 6))]) ⟨hx, hb, hml, hown, hts⟩ (A_X7_sourceOf l g6) (va_cwS 1 hts (gj_S ml_RX7_80 i_X7_sourceOf n_RX7 k_X7_sourceOf) rfl rfl rfl (by decide +kernel) ⟨by exact Nat.le_of_ble_eq_true rfl, by exact Nat.le_of_ble_eq_true rfl⟩) (j_preS hK hSX hG) rfl rfl hl.1 rfl (lv_room (Nat.le_of_ble_eq_true rfl)) dX7_putVoid_37 ⟨by exact Nat.le_of_ble_eq_true rfl, by exact Nat.le_of_ble_eq_true rfl⟩) hG (c2 := 0) (s2 := 0) ⟨by exact Nat.le_of_ble_eq_true rfl, by exact Nat.le_of_ble_eq_true rfl⟩ (fun z7 M8 ez7 H locs hG => ?_)
  obtain ⟨ez7, eM8⟩ := ez7
  subst ez7
  rw [eM8] at hG
  obtain ⟨g9, h⟩ := h
  refine j_iast hx hb hK hG (n := 260) (kf_7_11 ka0) (by decide) g9 dX7_putVoid_40 (fun M10 eM10 H locs hG => ?_)
  have h := h M10 eM10
  refine lv_aload_n hx hb dX7_putVoid_41 rfl (lv_at hl 0 rfl) ?_
  refine lv_dup hx hb dX7_putVoid_42 rfl ?_
  refine j_geti hx hb hts hown hK hG (k := a0) (fun w h => List.mem_cons_of_mem _ (u_X7 w h)) (ci := 6) rfl ka0 3 (by decide) (jz := 3) rfl w_fl_RX7_40 dX7_putVoid_43 ?_
  refine lv_iconst (v := J 1) hx hb dX7_putVoid_46 (by decide) ?_
  refine j_iadd hx hb dX7_putVoid_47 ?_
  refine j_puti hx hb hts hown hK hG (k := a0) (fun w h => List.mem_cons_of_mem _ (u_X7 w h)) tyX7 tyX7_ok nmX7 (ci := 6) rfl ka0 3 (by decide) (jz := 3) rfl w_fl_RX7_40 (hd := rfl) (hn := rfl) (hfit := rfl) (hdg := dX7_putVoid_48) (fun M11 eM11 H locs hG => ?_)
  have h := h M11 eM11
  rw [hQf]
  exact j_vret hx hb hr hlocks hG h (by decide) dX7_putVoid_51

abbrev rm_X7_putTransition : Room := { frames := 1, cells := 0, slots := 0, locals := 22 }
set_option maxRecDepth 100000 in
set_option maxHeartbeats 4000000 in
theorem A_X7_putTransition (l : Launch) {D : va_G} {cy : Nat → ClassId} {o : Nat} {sK sV : Nat → Nat} {M : jT} {a0 : Int} {a1 : Int} {a2 : Int} (ka0 : kd a0 = 7) (ka2 : kd a2 = 2) {Q : jT → Prop} (h : wp_X7_putTransition M a0 a1 a2 Q) : CoV l yX7_putTransition (wj yX7_putTransition cX7_putTransition 5 none) rm_X7_putTransition D cy o sK sV M [.ref (rA o a0), .long (JL a1), .ref (rA o a2)] Q := by
  refine j_ofW (cc := cX7_putTransition) (maxL := 5) (ret := none) (by decide) rfl (Nat.le_of_ble_eq_true rfl) ?_
  intro p e s m args below meth c hx hb hr hlocks hml hown hts hK hSX H locs hG ls hl Qf hQf
  have hown : s.vm.findClass RX7 = some m.cls := hown
  have hl : lv_has ls 5 [(0, .ref (rA o a0)), (1, .long (JL a1)), (3, .ref (rA o a2))] := hl
  have w_fl_RX7_84 := hts _ (List.mem_cons_of_mem _ fl_RX7_84)
  have w_fl_RX7_85 := hts _ (List.mem_cons_of_mem _ fl_RX7_85)
  have w_fl_RX7_9 := hts _ (List.mem_cons_of_mem _ fl_RX7_9)
  have w_fl_RX7_37 := hts _ (List.mem_cons_of_mem _ fl_RX7_37)
  have w_fl_RX7_77 := hts _ (List.mem_cons_of_mem _ fl_RX7_77)
  have w_fl_RX7_15 := hts _ (List.mem_cons_of_mem _ fl_RX7_15)
  have w_fl_RX7_18 := hts _ (List.mem_cons_of_mem _ fl_RX7_18)
  have w_fl_RX7_30 := hts _ (List.mem_cons_of_mem _ fl_RX7_30)
  have w_fl_RX7_48 := hts _ (List.mem_cons_of_mem _ fl_RX7_48)
  have w_fl_RX7_51 := hts _ (List.mem_cons_of_mem _ fl_RX7_51)
  unfold wp_X7_putTransition at h
  refine lv_aload_n hx hb dX7_putTransition_0 rfl (lv_at hl 2 rfl) ?_
  refine j_geti hx hb hts hown hK hG (k := a2) (fun w h => List.mem_cons_of_mem _ (u_X2 w h)) (ci := 1) rfl ka2 0 (by decide) (jz := 0) rfl w_fl_RX7_84 dX7_putTransition_1 ?_
  refine lv_aload_n hx hb dX7_putTransition_4 rfl (lv_at hl 2 rfl) ?_
  refine j_geti hx hb hts hown hK hG (k := a2) (fun w h => List.mem_cons_of_mem _ (u_X2 w h)) (ci := 1) rfl ka2 1 (by decide) (jz := 1) rfl w_fl_RX7_85 dX7_putTransition_5 ?_
  refine j_iadd hx hb dX7_putTransition_8 ?_
  refine j_topi (fun x1 ex1 => ?_)
  have h := h x1 ex1
  refine lv_istore (lv' := [(4, .int (J x1)), (0, .ref (rA o a0)), (1, .long (JL a1)), (3, .ref (rA o a2))]) hx hb dX7_putTransition_9 hl (by decide) rfl (fun ls hl => ?_)
  refine lv_aload_n hx hb dX7_putTransition_11 rfl (lv_at hl 1 rfl) ?_
  refine j_getr hx hb hts hown hK hG (k := a0) (fun w h => List.mem_cons_of_mem _ (u_X7 w h)) (ci := 6) rfl ka0 6 (k2 := a0 + 1) (by decide) (by show a0 + (1 : Int) = a0 + 1; omega) w_fl_RX7_9 dX7_putTransition_12 ?_
  refine lv_aload_n hx hb dX7_putTransition_15 rfl (lv_at hl 1 rfl) ?_
  refine j_geti hx hb hts hown hK hG (k := a0) (fun w h => List.mem_cons_of_mem _ (u_X7 w h)) (ci := 6) rfl ka0 2 (by decide) (jz := 2) rfl w_fl_RX7_37 dX7_putTransition_16 ?_
  refine lv_aload_n hx hb dX7_putTransition_19 rfl (lv_at hl 3 rfl) ?_
  refine j_geti hx hb hts hown hK hG (k := a2) (fun w h => List.mem_cons_of_mem _ (u_X2 w h)) (ci := 1) rfl ka2 2 (by decide) (jz := 2) rfl w_fl_RX7_77 dX7_putTransition_20 ?_
  obtain ⟨g2, h⟩ := h
  refine j_iast hx hb hK hG (n := 260) (kf_7_6 ka0) (by decide) g2 dX7_putTransition_23 (fun M3 eM3 H locs hG => ?_)
  have h := h M3 eM3
  refine lv_aload_n hx hb dX7_putTransition_24 rfl (lv_at hl 1 rfl) ?_
  refine j_getr hx hb hts hown hK hG (k := a0) (fun w h => List.mem_cons_of_mem _ (u_X7 w h)) (ci := 6) rfl ka0 7 (k2 := a0 + 2) (by decide) (by show a0 + (2 : Int) = a0 + 2; omega) w_fl_RX7_15 dX7_putTransition_25 ?_
  refine lv_aload_n hx hb dX7_putTransition_28 rfl (lv_at hl 1 rfl) ?_
  refine j_geti hx hb hts hown hK hG (k := a0) (fun w h => List.mem_cons_of_mem _ (u_X7 w h)) (ci := 6) rfl ka0 2 (by decide) (jz := 2) rfl w_fl_RX7_37 dX7_putTransition_29 ?_
  refine lv_aload_n hx hb dX7_putTransition_32 rfl (lv_at hl 3 rfl) ?_
  refine j_geti hx hb hts hown hK hG (k := a2) (fun w h => List.mem_cons_of_mem _ (u_X2 w h)) (ci := 1) rfl ka2 1 (by decide) (jz := 1) rfl w_fl_RX7_85 dX7_putTransition_33 ?_
  obtain ⟨g4, h⟩ := h
  refine j_iast hx hb hK hG (n := 260) (kf_7_7 ka0) (by decide) g4 dX7_putTransition_36 (fun M5 eM5 H locs hG => ?_)
  have h := h M5 eM5
  refine lv_aload_n hx hb dX7_putTransition_37 rfl (lv_at hl 1 rfl) ?_
  refine j_getr hx hb hts hown hK hG (k := a0) (fun w h => List.mem_cons_of_mem _ (u_X7 w h)) (ci := 6) rfl ka0 8 (k2 := a0 + 3) (by decide) (by show a0 + (3 : Int) = a0 + 3; omega) w_fl_RX7_18 dX7_putTransition_38 ?_
  refine lv_aload_n hx hb dX7_putTransition_41 rfl (lv_at hl 1 rfl) ?_
  refine j_geti hx hb hts hown hK hG (k := a0) (fun w h => List.mem_cons_of_mem _ (u_X7 w h)) (ci := 6) rfl ka0 2 (by decide) (jz := 2) rfl w_fl_RX7_37 dX7_putTransition_42 ?_
  refine lv_lload_n hx hb dX7_putTransition_45 rfl (lv_at hl 2 rfl) ?_
  obtain ⟨g6, h⟩ := h
  refine j_conti (va_runS (As := [.long (JL a1)]) (rest := [.int (J (M5 a0 2)), .ref (rA o (a0 + 3))]) ⟨hx, hb, hml, hown, hts⟩ (A_X7_sourceOf l g6) (va_cwS 1 hts (gj_S ml_RX7_80 i_X7_sourceOf n_RX7 k_X7_sourceOf) rfl rfl rfl (by decide +kernel) ⟨by exact Nat.le_of_ble_eq_true rfl, by exact Nat.le_of_ble_eq_true rfl⟩) (j_preS hK hSX hG) rfl rfl hl.1 rfl (lv_room (Nat.le_of_ble_eq_true rfl)) dX7_putTransition_46 ⟨by exact Nat.le_of_ble_eq_true rfl, by exact Nat.le_of_ble_eq_true rfl⟩) hG (c2 := 0) (s2 := 0) ⟨by exact Nat.le_of_ble_eq_true rfl, by exact Nat.le_of_ble_eq_true rfl⟩ (fun z7 M8 ez7 H locs hG => ?_)
  obtain ⟨ez7, eM8⟩ := ez7
  subst ez7
  rw [eM8] at hG
  obtain ⟨g9, h⟩ := h
  refine j_iast hx hb hK hG (n := 260) (kf_7_8 ka0) (by decide) g9 dX7_putTransition_49 (fun M10 eM10 H locs hG => ?_)
  have h := h M10 eM10
  refine lv_aload_n hx hb dX7_putTransition_50 rfl (lv_at hl 1 rfl) ?_
  refine lv_dup hx hb dX7_putTransition_51 rfl ?_
  refine j_geti hx hb hts hown hK hG (k := a0) (fun w h => List.mem_cons_of_mem _ (u_X7 w h)) (ci := 6) rfl ka0 2 (by decide) (jz := 2) rfl w_fl_RX7_37 dX7_putTransition_52 ?_
  refine lv_iconst (v := J 1) hx hb dX7_putTransition_55 (by decide) ?_
  refine j_iadd hx hb dX7_putTransition_56 ?_
  refine j_puti hx hb hts hown hK hG (k := a0) (fun w h => List.mem_cons_of_mem _ (u_X7 w h)) tyX7 tyX7_ok nmX7 (ci := 6) rfl ka0 2 (by decide) (jz := 2) rfl w_fl_RX7_37 (hd := rfl) (hn := rfl) (hfit := rfl) (hdg := dX7_putTransition_57) (fun M11 eM11 H locs hG => ?_)
  have h := h M11 eM11
  refine lv_aload_n hx hb dX7_putTransition_60 rfl (lv_at hl 1 rfl) ?_
  refine j_getr hx hb hts hown hK hG (k := a0) (fun w h => List.mem_cons_of_mem _ (u_X7 w h)) (ci := 6) rfl ka0 12 (k2 := a0 + 7) (by decide) (by show a0 + (7 : Int) = a0 + 7; omega) w_fl_RX7_30 dX7_putTransition_61 ?_
  refine lv_aload_n hx hb dX7_putTransition_64 rfl (lv_at hl 1 rfl) ?_
  refine j_geti hx hb hts hown hK hG (k := a0) (fun w h => List.mem_cons_of_mem _ (u_X7 w h)) (ci := 6) rfl ka0 2 (by decide) (jz := 2) rfl w_fl_RX7_37 dX7_putTransition_65 ?_
  refine lv_iload hx hb dX7_putTransition_68 (lv_at hl 0 rfl) ?_
  obtain ⟨g12, h⟩ := h
  refine j_iast hx hb hK hG (n := 261) (kf_7_12 ka0) (by decide) g12 dX7_putTransition_70 (fun M13 eM13 H locs hG => ?_)
  have h := h M13 eM13
  refine lv_aload_n hx hb dX7_putTransition_71 rfl (lv_at hl 1 rfl) ?_
  refine lv_aload_n hx hb dX7_putTransition_72 rfl (lv_at hl 1 rfl) ?_
  refine j_geti hx hb hts hown hK hG (k := a0) (fun w h => List.mem_cons_of_mem _ (u_X7 w h)) (ci := 6) rfl ka0 4 (by decide) (jz := 4) rfl w_fl_RX7_48 dX7_putTransition_73 ?_
  refine lv_iload hx hb dX7_putTransition_76 (lv_at hl 0 rfl) ?_
  obtain ⟨g14, h⟩ := h
  obtain ⟨g15, h⟩ := h
  refine j_mmax hx hb (hml.trans hl.1.symm) hown (hts _ (List.mem_cons_of_mem _ ml_RX7_88)) (hts _ (List.mem_cons_of_mem _ i_mmax)) (hts _ (List.mem_cons_of_mem _ n_Math)) (hts _ (List.mem_cons_of_mem _ k_mmax)) (by exact Nat.le_of_ble_eq_true rfl) (by exact Nat.le_of_ble_eq_true rfl) (by exact Nat.le_of_ble_eq_true rfl) (by exact Nat.le_of_ble_eq_true rfl) g14 g15 dX7_putTransition_78 ?_
  refine j_puti hx hb hts hown hK hG (k := a0) (fun w h => List.mem_cons_of_mem _ (u_X7 w h)) tyX7 tyX7_ok nmX7 (ci := 6) rfl ka0 4 (by decide) (jz := 4) rfl w_fl_RX7_48 (hd := rfl) (hn := rfl) (hfit := rfl) (hdg := dX7_putTransition_81) (fun M16 eM16 H locs hG => ?_)
  have h := h M16 eM16
  refine lv_aload_n hx hb dX7_putTransition_84 rfl (lv_at hl 1 rfl) ?_
  refine lv_aload_n hx hb dX7_putTransition_85 rfl (lv_at hl 1 rfl) ?_
  refine j_geti hx hb hts hown hK hG (k := a0) (fun w h => List.mem_cons_of_mem _ (u_X7 w h)) (ci := 6) rfl ka0 5 (by decide) (jz := 5) rfl w_fl_RX7_51 dX7_putTransition_86 ?_
  refine lv_iload hx hb dX7_putTransition_89 (lv_at hl 0 rfl) ?_
  obtain ⟨g17, h⟩ := h
  refine j_mmin hx hb (hml.trans hl.1.symm) hown (hts _ (List.mem_cons_of_mem _ ml_RX7_94)) (hts _ (List.mem_cons_of_mem _ i_mmin)) (hts _ (List.mem_cons_of_mem _ n_Math)) (hts _ (List.mem_cons_of_mem _ k_mmin)) (by exact Nat.le_of_ble_eq_true rfl) (by exact Nat.le_of_ble_eq_true rfl) (by exact Nat.le_of_ble_eq_true rfl) (by exact Nat.le_of_ble_eq_true rfl) g17 g15 dX7_putTransition_91 ?_
  refine j_puti hx hb hts hown hK hG (k := a0) (fun w h => List.mem_cons_of_mem _ (u_X7 w h)) tyX7 tyX7_ok nmX7 (ci := 6) rfl ka0 5 (by decide) (jz := 5) rfl w_fl_RX7_51 (hd := rfl) (hn := rfl) (hfit := rfl) (hdg := dX7_putTransition_94) (fun M18 eM18 H locs hG => ?_)
  have h := h M18 eM18
  rw [hQf]
  exact j_vret hx hb hr hlocks hG h (by decide) dX7_putTransition_97

abbrev rm_X7_compile : Room := { frames := 2, cells := 0, slots := 0, locals := 49 }
set_option maxRecDepth 100000 in
set_option maxHeartbeats 4000000 in
theorem A_X7_compile (l : Launch) {D : va_G} {cy : Nat → ClassId} {o : Nat} {sK sV : Nat → Nat} {M : jT} {a0 : Int} {a1 : Int} {a2 : Int} {a3 : Int} {a4 : Int} (ka0 : kd a0 = 7) (ka1 : kd a1 = 9) (ka2 : kd a2 = 100260) (ka4 : kd a4 = 2) {Q : jT → Prop} (h : wp_X7_compile M a0 a1 a2 a3 a4 Q) : CoV l yX7_compile (wj yX7_compile cX7_compile 7 none) rm_X7_compile D cy o sK sV M [.ref (rA o a0), .ref (rA o a1), .ref (rA o a2), .int (J a3), .ref (rA o a4)] Q := by
  refine j_ofW (cc := cX7_compile) (maxL := 7) (ret := none) (by decide) rfl (Nat.le_of_ble_eq_true rfl) ?_
  intro p e s m args below meth c hx hb hr hlocks hml hown hts hK hSX H locs hG ls hl Qf hQf
  have hown : s.vm.findClass RX7 = some m.cls := hown
  have hl : lv_has ls 7 [(0, .ref (rA o a0)), (1, .ref (rA o a1)), (2, .ref (rA o a2)), (3, .int (J a3)), (4, .ref (rA o a4))] := hl
  have w_fl_RX7_33 := hts _ (List.mem_cons_of_mem _ fl_RX7_33)
  have w_fl_RX7_37 := hts _ (List.mem_cons_of_mem _ fl_RX7_37)
  have w_fl_RX7_40 := hts _ (List.mem_cons_of_mem _ fl_RX7_40)
  have w_fl_RX7_43 := hts _ (List.mem_cons_of_mem _ fl_RX7_43)
  have w_fl_RX7_48 := hts _ (List.mem_cons_of_mem _ fl_RX7_48)
  have w_fl_RX7_51 := hts _ (List.mem_cons_of_mem _ fl_RX7_51)
  have w_fl_RX7_30 := hts _ (List.mem_cons_of_mem _ fl_RX7_30)
  have w_fl_RX7_71 := hts _ (List.mem_cons_of_mem _ fl_RX7_71)
  unfold wp_X7_compile at h
  refine lv_aload_n hx hb dX7_compile_0 rfl (lv_at hl 0 rfl) ?_
  refine lv_iload_n hx hb dX7_compile_1 rfl (lv_at hl 3 rfl) ?_
  refine j_puti hx hb hts hown hK hG (k := a0) (fun w h => List.mem_cons_of_mem _ (u_X7 w h)) tyX7 tyX7_ok nmX7 (ci := 6) rfl ka0 1 (by decide) (jz := 1) rfl w_fl_RX7_33 (hd := rfl) (hn := rfl) (hfit := rfl) (hdg := dX7_compile_2) (fun M1 eM1 H locs hG => ?_)
  have h := h M1 eM1
  refine lv_aload_n hx hb dX7_compile_5 rfl (lv_at hl 0 rfl) ?_
  refine lv_iconst (v := J 0) hx hb dX7_compile_6 (by decide) ?_
  refine j_puti hx hb hts hown hK hG (k := a0) (fun w h => List.mem_cons_of_mem _ (u_X7 w h)) tyX7 tyX7_ok nmX7 (ci := 6) rfl ka0 2 (by decide) (jz := 2) rfl w_fl_RX7_37 (hd := rfl) (hn := rfl) (hfit := rfl) (hdg := dX7_compile_7) (fun M2 eM2 H locs hG => ?_)
  have h := h M2 eM2
  refine lv_aload_n hx hb dX7_compile_10 rfl (lv_at hl 0 rfl) ?_
  refine lv_iconst (v := J 0) hx hb dX7_compile_11 (by decide) ?_
  refine j_puti hx hb hts hown hK hG (k := a0) (fun w h => List.mem_cons_of_mem _ (u_X7 w h)) tyX7 tyX7_ok nmX7 (ci := 6) rfl ka0 3 (by decide) (jz := 3) rfl w_fl_RX7_40 (hd := rfl) (hn := rfl) (hfit := rfl) (hdg := dX7_compile_12) (fun M3 eM3 H locs hG => ?_)
  have h := h M3 eM3
  refine lv_aload_n hx hb dX7_compile_15 rfl (lv_at hl 0 rfl) ?_
  refine lv_aload_n hx hb dX7_compile_16 rfl (lv_at hl 1 rfl) ?_
  refine j_geti hx hb hts hown hK hG (k := a1) (fun w h => List.mem_cons_of_mem _ (u_X9 w h)) (ci := 8) rfl ka1 0 (by decide) (jz := 0) rfl w_fl_RX7_43 dX7_compile_17 ?_
  refine j_puti hx hb hts hown hK hG (k := a0) (fun w h => List.mem_cons_of_mem _ (u_X7 w h)) tyX7 tyX7_ok nmX7 (ci := 6) rfl ka0 4 (by decide) (jz := 4) rfl w_fl_RX7_48 (hd := rfl) (hn := rfl) (hfit := rfl) (hdg := dX7_compile_20) (fun M4 eM4 H locs hG => ?_)
  have h := h M4 eM4
  refine lv_aload_n hx hb dX7_compile_23 rfl (lv_at hl 0 rfl) ?_
  refine lv_aload_n hx hb dX7_compile_24 rfl (lv_at hl 1 rfl) ?_
  refine j_geti hx hb hts hown hK hG (k := a1) (fun w h => List.mem_cons_of_mem _ (u_X9 w h)) (ci := 8) rfl ka1 0 (by decide) (jz := 0) rfl w_fl_RX7_43 dX7_compile_25 ?_
  refine j_puti hx hb hts hown hK hG (k := a0) (fun w h => List.mem_cons_of_mem _ (u_X7 w h)) tyX7 tyX7_ok nmX7 (ci := 6) rfl ka0 5 (by decide) (jz := 5) rfl w_fl_RX7_51 (hd := rfl) (hn := rfl) (hfit := rfl) (hdg := dX7_compile_28) (fun M5 eM5 H locs hG => ?_)
  have h := h M5 eM5
  refine lv_aload_n hx hb dX7_compile_31 rfl (lv_at hl 0 rfl) ?_
  refine j_getr hx hb hts hown hK hG (k := a0) (fun w h => List.mem_cons_of_mem _ (u_X7 w h)) (ci := 6) rfl ka0 12 (k2 := a0 + 7) (by decide) (by show a0 + (7 : Int) = a0 + 7; omega) w_fl_RX7_30 dX7_compile_32 ?_
  refine lv_iconst (v := J 0) hx hb dX7_compile_35 (by decide) ?_
  refine lv_aload_n hx hb dX7_compile_36 rfl (lv_at hl 1 rfl) ?_
  refine j_geti hx hb hts hown hK hG (k := a1) (fun w h => List.mem_cons_of_mem _ (u_X9 w h)) (ci := 8) rfl ka1 0 (by decide) (jz := 0) rfl w_fl_RX7_43 dX7_compile_37 ?_
  refine j_iast hx hb hK hG (n := 261) (kf_7_12 ka0) (by decide) (by decide) dX7_compile_40 (fun M6 eM6 H locs hG => ?_)
  have h := h M6 eM6
  refine lv_aload hx hb dX7_compile_41 (lv_at hl 4 rfl) ?_
  refine lv_aload_n hx hb dX7_compile_43 rfl (lv_at hl 1 rfl) ?_
  refine j_geti hx hb hts hown hK hG (k := a1) (fun w h => List.mem_cons_of_mem _ (u_X9 w h)) (ci := 8) rfl ka1 0 (by decide) (jz := 0) rfl w_fl_RX7_43 dX7_compile_44 ?_
  refine j_contv (va_runV (As := [.int (J (M6 a1 0))]) (rest := []) ⟨hx, hb, hml, hown, hts⟩ (A_X2_begin l ka4 h) (cwV 1 hts (gj_V ml_RX7_54 i_X2_begin s_X2_begin n_RX2 k_X2_begin) rfl rfl rfl (by decide +kernel) ⟨by exact Nat.le_of_ble_eq_true rfl, by exact Nat.le_of_ble_eq_true rfl⟩) (j_preV hK hSX hG (ci := 1) rfl ka4 (by decide)) rfl rfl hl.1 rfl (lv_room (Nat.le_of_ble_eq_true rfl)) dX7_compile_47 ⟨by exact Nat.le_of_ble_eq_true rfl, by exact Nat.le_of_ble_eq_true rfl⟩) hG (c2 := 0) (s2 := 0) ⟨by exact Nat.le_of_ble_eq_true rfl, by exact Nat.le_of_ble_eq_true rfl⟩ (fun M8 h H locs hG => ?_)
  refine lv_iconst (v := J 0) hx hb dX7_compile_50 (by decide) ?_
  refine lv_istore (lv' := [(5, .int (J 0)), (0, .ref (rA o a0)), (1, .ref (rA o a1)), (2, .ref (rA o a2)), (3, .int (J a3)), (4, .ref (rA o a4))]) hx hb dX7_compile_51 hl (by decide) rfl (fun ls hl => ?_)
  obtain ⟨I11, ⟨n12s, iI11⟩, qI11⟩ := h
  have lI11 : ∀ (n12 : Nat) (x9 : Int) (M10 : jT), I11 n12 x9 M10 → ∀ (H : Heap) (locs : List Loc), GM D cy o M10 s.heap H locs → ∀ ls : Array Slot, lv_has ls 7 [(0, .ref (rA o a0)), (1, .ref (rA o a1)), (2, .ref (rA o a2)), (3, .int (J a3)), (4, .ref (rA o a4)), (5, .int (J x9))] → W p l e rm_X7_compile s m args below meth c H locs 0 0 Qf (F0 m 53 ls []) := by
    intro n12
    induction n12 using Nat.strongRecOn with
    | ind n12 rI11 =>
      intro x9 M10 iI11 H locs hG ls hl
      have h := qI11 n12 x9 M10 iI11
      refine lv_iload hx hb dX7_compile_53 (lv_at hl 5 rfl) ?_
      refine lv_iload_n hx hb dX7_compile_55 rfl (lv_at hl 3 rfl) ?_
      obtain ⟨g14, h⟩ := h
      obtain ⟨g15, h⟩ := h
      refine j_icmp_ge (tgt := 111) hx hb dX7_compile_56 (by decide) g14 g15 (fun c13 => ?_) (fun c13 => ?_)
      · have h := h.1 c13
        refine lv_aload_n hx hb dX7_compile_111 rfl (lv_at hl 0 rfl) ?_
        refine lv_iconst (v := J 1) hx hb dX7_compile_112 (by decide) ?_
        refine j_puti hx hb hts hown hK hG (k := a0) (fun w h => List.mem_cons_of_mem _ (u_X7 w h)) tyX7 tyX7_ok nmX7 (ci := 6) rfl ka0 0 (by decide) (jz := 0) rfl w_fl_RX7_71 (hd := rfl) (hn := nar_b (by decide)) (hfit := fit_b (by decide)) (hdg := dX7_compile_113) (fun M16 eM16 H locs hG => ?_)
        have h := h M16 eM16
        rw [hQf]
        exact j_vret hx hb hr hlocks hG h (by decide) dX7_compile_116
      · have h := h.2 c13
        refine lv_aload hx hb dX7_compile_59 (lv_at hl 4 rfl) ?_
        refine lv_aload_n hx hb dX7_compile_61 rfl (lv_at hl 1 rfl) ?_
        refine lv_aload_n hx hb dX7_compile_62 rfl (lv_at hl 2 rfl) ?_
        refine lv_iload hx hb dX7_compile_63 (lv_at hl 5 rfl) ?_
        obtain ⟨g17, h⟩ := h
        refine j_lald hx hb hK hG (n := 260) ka2 (by decide) g17 dX7_compile_65 ?_
        refine j_conti (va_runV (As := [.ref (rA o a1), .long (JL (M10 a2 x9))]) (rest := []) ⟨hx, hb, hml, hown, hts⟩ (A_X2_take l ka4 ka1 h) (cwV 2 hts (gj_V ml_RX7_60 i_X2_take s_X2_take n_RX2 k_X2_take) rfl rfl rfl (by decide +kernel) ⟨by exact Nat.le_of_ble_eq_true rfl, by exact Nat.le_of_ble_eq_true rfl⟩) (j_preV hK hSX hG (ci := 1) rfl ka4 (by decide)) rfl rfl hl.1 rfl (lv_room (Nat.le_of_ble_eq_true rfl)) dX7_compile_66 ⟨by exact Nat.le_of_ble_eq_true rfl, by exact Nat.le_of_ble_eq_true rfl⟩) hG (c2 := 0) (s2 := 0) ⟨by exact Nat.le_of_ble_eq_true rfl, by exact Nat.le_of_ble_eq_true rfl⟩ (fun z18 M19 h H locs hG => ?_)
        refine lv_istore (lv' := [(6, .int (J z18)), (0, .ref (rA o a0)), (1, .ref (rA o a1)), (2, .ref (rA o a2)), (3, .int (J a3)), (4, .ref (rA o a4)), (5, .int (J x9))]) hx hb dX7_compile_69 hl (by decide) rfl (fun ls hl => ?_)
        refine lv_iload hx hb dX7_compile_71 (lv_at hl 0 rfl) ?_
        obtain ⟨K28, hK28, h⟩ := h
        have jK28 : ∀ (M27 : jT), K28 M27 → ∀ (H : Heap) (locs : List Loc), GM D cy o M27 s.heap H locs → ∀ ls : Array Slot, lv_has ls 7 [(0, .ref (rA o a0)), (1, .ref (rA o a1)), (2, .ref (rA o a2)), (3, .int (J a3)), (4, .ref (rA o a4)), (5, .int (J x9))] → W p l e rm_X7_compile s m args below meth c H locs 0 0 Qf (F0 m 105 ls []) := by
          intro M27 hcK28 H locs hG ls hl
          have h := hK28 M27 hcK28
          refine j_iinc hx hb dX7_compile_105 hl (k := 5) rfl (by decide) (fun x29 ex29 ls hl => ?_)
          have h := h x29 ex29
          have hl : lv_has ls 7 [(5, .int (J x29)), (0, .ref (rA o a0)), (1, .ref (rA o a1)), (2, .ref (rA o a2)), (3, .int (J a3)), (4, .ref (rA o a4))] := hl
          refine lv_goto (tgt := 53) hx hb dX7_compile_108 (by decide) ?_
          obtain ⟨n30, ln30, iI11⟩ := h
          exact rI11 n30 ln30 x29 M27 iI11 H locs hG ls (lv_sub hl [1, 2, 3, 4, 5, 0] rfl)
        obtain ⟨g32, h⟩ := h
        refine j_if_ne (tgt := 89) hx hb dX7_compile_73 (by decide) g32 (fun c31 => ?_) (fun c31 => ?_)
        · have h := h.1 c31
          refine lv_iload hx hb dX7_compile_89 (lv_at hl 0 rfl) ?_
          refine lv_iconst (v := J 2) hx hb dX7_compile_91 (by decide) ?_
          refine j_icmp_ne (tgt := 105) hx hb dX7_compile_92 (by decide) g32 (by decide) (fun c33 => ?_) (fun c33 => ?_)
          · have h := h.1 c33
            exact jK28 M19 h H locs hG ls (lv_sub hl [1, 2, 3, 4, 5, 6] rfl)
          · have h := h.2 c33
            refine lv_aload_n hx hb dX7_compile_95 rfl (lv_at hl 1 rfl) ?_
            refine lv_aload_n hx hb dX7_compile_96 rfl (lv_at hl 3 rfl) ?_
            refine lv_iload hx hb dX7_compile_97 (lv_at hl 6 rfl) ?_
            refine j_lald hx hb hK hG (n := 260) ka2 (by decide) g17 dX7_compile_99 ?_
            refine lv_aload hx hb dX7_compile_100 (lv_at hl 5 rfl) ?_
            refine j_contv (va_runV (As := [.long (JL (M19 a2 x9)), .ref (rA o a4)]) (rest := []) ⟨hx, hb, hml, hown, hts⟩ (A_X7_putTransition l ka0 ka4 h) (cwV 2 hts (gj_V ml_RX7_68 i_X7_putTransition s_X7_putTransition n_RX7 k_X7_putTransition) rfl rfl rfl (by decide +kernel) ⟨by exact Nat.le_of_ble_eq_true rfl, by exact Nat.le_of_ble_eq_true rfl⟩) (j_preV hK hSX hG (ci := 6) rfl ka0 (by decide)) rfl rfl hl.1 rfl (lv_room (Nat.le_of_ble_eq_true rfl)) dX7_compile_102 ⟨by exact Nat.le_of_ble_eq_true rfl, by exact Nat.le_of_ble_eq_true rfl⟩) hG (c2 := 0) (s2 := 0) ⟨by exact Nat.le_of_ble_eq_true rfl, by exact Nat.le_of_ble_eq_true rfl⟩ (fun M35 h H locs hG => ?_)
            exact jK28 M35 h H locs hG ls (lv_sub hl [1, 2, 3, 4, 5, 6] rfl)
        · have h := h.2 c31
          refine lv_aload_n hx hb dX7_compile_76 rfl (lv_at hl 1 rfl) ?_
          refine lv_aload_n hx hb dX7_compile_77 rfl (lv_at hl 3 rfl) ?_
          refine lv_iload hx hb dX7_compile_78 (lv_at hl 6 rfl) ?_
          refine j_lald hx hb hK hG (n := 260) ka2 (by decide) g17 dX7_compile_80 ?_
          refine lv_aload hx hb dX7_compile_81 (lv_at hl 5 rfl) ?_
          refine j_contv (va_runV (As := [.long (JL (M19 a2 x9)), .ref (rA o a4)]) (rest := []) ⟨hx, hb, hml, hown, hts⟩ (A_X7_putVoid l ka0 ka4 h) (cwV 2 hts (gj_V ml_RX7_64 i_X7_putVoid s_X7_putVoid n_RX7 k_X7_putVoid) rfl rfl rfl (by decide +kernel) ⟨by exact Nat.le_of_ble_eq_true rfl, by exact Nat.le_of_ble_eq_true rfl⟩) (j_preV hK hSX hG (ci := 6) rfl ka0 (by decide)) rfl rfl hl.1 rfl (lv_room (Nat.le_of_ble_eq_true rfl)) dX7_compile_83 ⟨by exact Nat.le_of_ble_eq_true rfl, by exact Nat.le_of_ble_eq_true rfl⟩) hG (c2 := 0) (s2 := 0) ⟨by exact Nat.le_of_ble_eq_true rfl, by exact Nat.le_of_ble_eq_true rfl⟩ (fun M37 h H locs hG => ?_)
          refine lv_goto (tgt := 105) hx hb dX7_compile_86 (by decide) ?_
          exact jK28 M37 h H locs hG ls (lv_sub hl [1, 2, 3, 4, 5, 6] rfl)
  exact lI11 n12s 0 M8 iI11 H locs hG ls (lv_sub hl [1, 2, 3, 4, 5, 0] rfl)

abbrev rm_X10_compiled : Room := { frames := 3, cells := 0, slots := 0, locals := 75 }
set_option maxRecDepth 100000 in
set_option maxHeartbeats 4000000 in
theorem A_X10_compiled (l : Launch) {D : va_G} {cy : Nat → ClassId} {o : Nat} {sK sV : Nat → Nat} {M : jT} {a0 : Int} {a1 : Int} (ka0 : kd a0 = 10) {Q : Int → jT → Prop} (h : wp_X10_compiled M a0 a1 Q) : CoR l yX10_compiled (wj yX10_compiled cX10_compiled 5 (some (.object "ZoneCompiler$Timeline"))) rm_X10_compiled D cy o sK sV M [.ref (rA o a0), .int (J a1)] 7 Q := by
  refine j_ofW (cc := cX10_compiled) (maxL := 5) (ret := (some (.object "ZoneCompiler$Timeline"))) (by decide) rfl (Nat.le_of_ble_eq_true rfl) ?_
  intro p e s m args below meth c hx hb hr hlocks hml hown hts hK hSX H locs hG ls hl Qf hQf
  have hown : s.vm.findClass RX10 = some m.cls := hown
  have hl : lv_has ls 5 [(0, .ref (rA o a0)), (1, .int (J a1))] := hl
  have w_fl_RX10_25 := hts _ (List.mem_cons_of_mem _ fl_RX10_25)
  have w_fl_RX10_516 := hts _ (List.mem_cons_of_mem _ fl_RX10_516)
  have w_fl_RX10_12 := hts _ (List.mem_cons_of_mem _ fl_RX10_12)
  have w_fl_RX10_140 := hts _ (List.mem_cons_of_mem _ fl_RX10_140)
  have w_fl_RX10_58 := hts _ (List.mem_cons_of_mem _ fl_RX10_58)
  have w_fl_RX10_40 := hts _ (List.mem_cons_of_mem _ fl_RX10_40)
  unfold wp_X10_compiled at h
  refine lv_aload_n hx hb dX10_compiled_0 rfl (lv_at hl 0 rfl) ?_
  refine j_getr hx hb hts hown hK hG (k := a0) (fun w h => List.mem_cons_of_mem _ (u_X10 w h)) (ci := 9) rfl ka0 2 (k2 := a0 + 520) (by decide) (by show a0 + (520 : Int) = a0 + 520; omega) w_fl_RX10_25 dX10_compiled_1 ?_
  refine lv_iload_n hx hb dX10_compiled_4 rfl (lv_at hl 1 rfl) ?_
  obtain ⟨g1, h⟩ := h
  refine j_aald hx hb hK hG (t := 23) (t0 := 6) (k2 := a0 + 8 * a1 + 521) (kf_10_2 ka0) (by decide) rfl g1 (by simp only [ra_23]; omega) dX10_compiled_5 ?_
  have k2 : kd (a0 + 8 * a1 + 521) = 7 := by have q9 := (ka_23 (kf_10_2 ka0) g1); rwa [show (a0 + 520) + 1 + 8 * a1 = a0 + 8 * a1 + 521 from by omega] at q9
  refine lv_astore_n (lv' := [(2, .ref (rA o (a0 + 8 * a1 + 521))), (0, .ref (rA o a0)), (1, .int (J a1))]) hx hb dX10_compiled_6 rfl hl (by decide) rfl (fun ls hl => ?_)
  refine lv_aload_n hx hb dX10_compiled_7 rfl (lv_at hl 0 rfl) ?_
  refine j_geti hx hb hts hown hK hG (k := a0 + 8 * a1 + 521) (fun w h => List.mem_cons_of_mem _ (u_X7 w h)) (ci := 6) rfl k2 0 (by decide) (jz := 0) rfl w_fl_RX10_516 dX10_compiled_8 ?_
  obtain ⟨K13, hK13, h⟩ := h
  have jK13 : ∀ (M12 : jT), K13 M12 → ∀ (H : Heap) (locs : List Loc), GM D cy o M12 s.heap H locs → ∀ ls : Array Slot, lv_has ls 5 [(2, .ref (rA o (a0 + 8 * a1 + 521)))] → W p l e rm_X10_compiled s m args below meth c H locs 0 0 Qf (F0 m 58 ls []) := by
    intro M12 hcK13 H locs hG ls hl
    have h := hK13 M12 hcK13
    refine lv_aload_n hx hb dX10_compiled_58 rfl (lv_at hl 0 rfl) ?_
    rw [hQf]
    exact j_aretr hx hb hr (Or.inl ⟨_, rfl⟩) hlocks hG k2 h (by decide) dX10_compiled_59
  obtain ⟨g15, h⟩ := h
  refine j_if_ne (tgt := 58) hx hb dX10_compiled_11 (by decide) g15 (fun c14 => ?_) (fun c14 => ?_)
  · have h := h.1 c14
    exact jK13 M h H locs hG ls (lv_sub hl [0] rfl)
  · have h := h.2 c14
    refine lv_aload_n hx hb dX10_compiled_14 rfl (lv_at hl 1 rfl) ?_
    refine j_getr hx hb hts hown hK hG (k := a0) (fun w h => List.mem_cons_of_mem _ (u_X10 w h)) (ci := 9) rfl ka0 0 (k2 := a0 + 1) (by decide) (by show a0 + (1 : Int) = a0 + 1; omega) w_fl_RX10_12 dX10_compiled_15 ?_
    refine j_getr hx hb hts hown hK hG (k := a0 + 1) (fun w h => List.mem_cons_of_mem _ (u_X0 w h)) (ci := 0) rfl (kf_10_0 ka0) 2 (k2 := a0 + 2) (by decide) (by show (a0 + 1) + (1 : Int) = a0 + 2; omega) w_fl_RX10_140 dX10_compiled_18 ?_
    refine lv_iload_n hx hb dX10_compiled_21 rfl (lv_at hl 2 rfl) ?_
    refine j_aald hx hb hK hG (t := 20) (t0 := 3) (k2 := a0 + 4 * a1 + 4) (show kd (a0 + 2) = 20 from (show (a0 + 1) + 1 = a0 + 2 from by omega) ▸ (kf_1_2 (kf_10_0 ka0))) (by decide) rfl g1 (by simp only [ra_20]; omega) dX10_compiled_22 ?_
    have k16 : kd (a0 + 4 * a1 + 4) = 9 := by have q9 := (ka_20 (show kd (a0 + 2) = 20 from (show (a0 + 1) + 1 = a0 + 2 from by omega) ▸ (kf_1_2 (kf_10_0 ka0))) g1); rwa [show (a0 + 2) + 2 + 4 * a1 = a0 + 4 * a1 + 4 from by omega] at q9
    refine lv_astore_n (lv' := [(3, .ref (rA o (a0 + 4 * a1 + 4))), (2, .ref (rA o (a0 + 8 * a1 + 521))), (0, .ref (rA o a0)), (1, .int (J a1))]) hx hb dX10_compiled_23 rfl hl (by decide) rfl (fun ls hl => ?_)
    refine lv_aload_n hx hb dX10_compiled_24 rfl (lv_at hl 0 rfl) ?_
    refine lv_aload_n hx hb dX10_compiled_25 rfl (lv_at hl 2 rfl) ?_
    refine j_getr hx hb hts hown hK hG (k := a0) (fun w h => List.mem_cons_of_mem _ (u_X10 w h)) (ci := 9) rfl ka0 7 (k2 := a0 + 606) (by decide) (by show a0 + (606 : Int) = a0 + 606; omega) w_fl_RX10_58 dX10_compiled_26 ?_
    refine j_conti (va_runV (As := [.ref (rA o (a0 + 606))]) (rest := []) ⟨hx, hb, hml, hown, hts⟩ (A_X9_listEvents l k16 (kf_10_7 ka0) h) (cwV 1 hts (gj_V ml_RX10_519 i_X9_listEvents s_X9_listEvents n_RX9 k_X9_listEvents) rfl rfl rfl (by decide +kernel) ⟨by exact Nat.le_of_ble_eq_true rfl, by exact Nat.le_of_ble_eq_true rfl⟩) (j_preV hK hSX hG (ci := 8) rfl k16 (by decide)) rfl rfl hl.1 rfl (lv_room (Nat.le_of_ble_eq_true rfl)) dX10_compiled_29 ⟨by exact Nat.le_of_ble_eq_true rfl, by exact Nat.le_of_ble_eq_true rfl⟩) hG (c2 := 0) (s2 := 0) ⟨by exact Nat.le_of_ble_eq_true rfl, by exact Nat.le_of_ble_eq_true rfl⟩ (fun z17 M18 h H locs hG => ?_)
    refine lv_istore (lv' := [(4, .int (J z17)), (3, .ref (rA o (a0 + 4 * a1 + 4))), (2, .ref (rA o (a0 + 8 * a1 + 521))), (0, .ref (rA o a0)), (1, .int (J a1))]) hx hb dX10_compiled_32 hl (by decide) rfl (fun ls hl => ?_)
    refine lv_aload_n hx hb dX10_compiled_34 rfl (lv_at hl 3 rfl) ?_
    refine j_getr hx hb hts hown hK hG (k := a0) (fun w h => List.mem_cons_of_mem _ (u_X10 w h)) (ci := 9) rfl ka0 7 (k2 := a0 + 606) (by decide) (by show a0 + (606 : Int) = a0 + 606; omega) w_fl_RX10_58 dX10_compiled_35 ?_
    refine lv_iload hx hb dX10_compiled_38 (lv_at hl 0 rfl) ?_
    refine j_contv (va_runS (As := [.ref (rA o (a0 + 606)), .int (J z17)]) (rest := []) ⟨hx, hb, hml, hown, hts⟩ (A_X10_sortKeys l (kf_10_7 ka0) h) (va_cwS 2 hts (gj_S ml_RX10_219 i_X10_sortKeys n_RX10 k_X10_sortKeys) rfl rfl rfl (by decide +kernel) ⟨by exact Nat.le_of_ble_eq_true rfl, by exact Nat.le_of_ble_eq_true rfl⟩) (j_preS hK hSX hG) rfl rfl hl.1 rfl (lv_room (Nat.le_of_ble_eq_true rfl)) dX10_compiled_40 ⟨by exact Nat.le_of_ble_eq_true rfl, by exact Nat.le_of_ble_eq_true rfl⟩) hG (c2 := 0) (s2 := 0) ⟨by exact Nat.le_of_ble_eq_true rfl, by exact Nat.le_of_ble_eq_true rfl⟩ (fun M20 h H locs hG => ?_)
    refine lv_aload_n hx hb dX10_compiled_43 rfl (lv_at hl 2 rfl) ?_
    refine lv_aload_n hx hb dX10_compiled_44 rfl (lv_at hl 1 rfl) ?_
    refine lv_aload_n hx hb dX10_compiled_45 rfl (lv_at hl 3 rfl) ?_
    refine j_getr hx hb hts hown hK hG (k := a0) (fun w h => List.mem_cons_of_mem _ (u_X10 w h)) (ci := 9) rfl ka0 7 (k2 := a0 + 606) (by decide) (by show a0 + (606 : Int) = a0 + 606; omega) w_fl_RX10_58 dX10_compiled_46 ?_
    refine lv_iload hx hb dX10_compiled_49 (lv_at hl 0 rfl) ?_
    refine lv_aload_n hx hb dX10_compiled_51 rfl (lv_at hl 3 rfl) ?_
    refine j_getr hx hb hts hown hK hG (k := a0) (fun w h => List.mem_cons_of_mem _ (u_X10 w h)) (ci := 9) rfl ka0 4 (k2 := a0 + 600) (by decide) (by show a0 + (600 : Int) = a0 + 600; omega) w_fl_RX10_40 dX10_compiled_52 ?_
    refine j_contv (va_runV (As := [.ref (rA o (a0 + 4 * a1 + 4)), .ref (rA o (a0 + 606)), .int (J z17), .ref (rA o (a0 + 600))]) (rest := []) ⟨hx, hb, hml, hown, hts⟩ (A_X7_compile l k2 k16 (kf_10_7 ka0) (kf_10_4 ka0) h) (cwV 4 hts (gj_V ml_RX10_523 i_X7_compile s_X7_compile n_RX7 k_X7_compile) rfl rfl rfl (by decide +kernel) ⟨by exact Nat.le_of_ble_eq_true rfl, by exact Nat.le_of_ble_eq_true rfl⟩) (j_preV hK hSX hG (ci := 6) rfl k2 (by decide)) rfl rfl hl.1 rfl (lv_room (Nat.le_of_ble_eq_true rfl)) dX10_compiled_55 ⟨by exact Nat.le_of_ble_eq_true rfl, by exact Nat.le_of_ble_eq_true rfl⟩) hG (c2 := 0) (s2 := 0) ⟨by exact Nat.le_of_ble_eq_true rfl, by exact Nat.le_of_ble_eq_true rfl⟩ (fun M22 h H locs hG => ?_)
    exact jK13 M22 h H locs hG ls (lv_sub hl [2] rfl)

abbrev rm_X7_offsetIn : Room := { frames := 0, cells := 0, slots := 0, locals := 0 }
set_option maxRecDepth 100000 in
set_option maxHeartbeats 4000000 in
theorem A_X7_offsetIn (l : Launch) {D : va_G} {cy : Nat → ClassId} {o : Nat} {sK sV : Nat → Nat} {M : jT} {a0 : Int} {a1 : Int} (ka0 : kd a0 = 7) (h : pg_X7_offsetIn M a0 a1) : CoI l yX7_offsetIn (wj yX7_offsetIn cX7_offsetIn 2 (some .int)) rm_X7_offsetIn D cy o sK sV M [.ref (rA o a0), .int (J a1)] (fun z M9 => z = pf_X7_offsetIn M a0 a1 ∧ M9 = M) := by
  refine j_ofW (cc := cX7_offsetIn) (maxL := 2) (ret := (some .int)) (by decide) rfl (Nat.le_of_ble_eq_true rfl) ?_
  intro p e s m args below meth c hx hb hr hlocks hml hown hts hK hSX H locs hG ls hl Qf hQf
  have hown : s.vm.findClass RX7 = some m.cls := hown
  have hl : lv_has ls 2 [(0, .ref (rA o a0)), (1, .int (J a1))] := hl
  have w_fl_RX7_30 := hts _ (List.mem_cons_of_mem _ fl_RX7_30)
  unfold pg_X7_offsetIn at h
  refine lv_aload_n hx hb dX7_offsetIn_0 rfl (lv_at hl 0 rfl) ?_
  refine j_getr hx hb hts hown hK hG (k := a0) (fun w h => List.mem_cons_of_mem _ (u_X7 w h)) (ci := 6) rfl ka0 12 (k2 := a0 + 7) (by decide) (by show a0 + (7 : Int) = a0 + 7; omega) w_fl_RX7_30 dX7_offsetIn_1 ?_
  refine lv_iload_n hx hb dX7_offsetIn_4 rfl (lv_at hl 1 rfl) ?_
  obtain ⟨g1, h⟩ := h
  refine j_iald hx hb hK hG (n := 261) (kf_7_12 ka0) (by decide) g1 dX7_offsetIn_5 ?_
  rw [hQf]
  exact j_ireti hx hb hr hlocks hG ⟨rfl, rfl⟩ (by decide) dX7_offsetIn_6

abbrev rom_X10_zone : Room := { frames := 4, cells := 0, slots := 0, locals := 99 }
set_option maxRecDepth 100000 in
set_option maxHeartbeats 4000000 in
theorem Ao_X10_zone (l : Launch) {D : va_G} {cy : Nat → ClassId} {o : Nat} {sK sV : Nat → Nat} {M : jT} {a0 : Int} {a1 : Int} {a2 : Int} (ka0 : kd a0 = 10) {Q : Int → jT → Prop} (h : wo_X10_zone M a0 a1 a2 Q) : CoI l yX10_zone (wj yX10_zone cX10_zone 5 (some .int)) rom_X10_zone D cy o sK sV M [.ref (rA o a0), .int (J a1), .int (J a2)] Q := by
  refine j_ofW (cc := cX10_zone) (maxL := 5) (ret := (some .int)) (by decide) rfl (Nat.le_of_ble_eq_true rfl) ?_
  intro p e s m args below meth c hx hb hr hlocks hml hown hts hK hSX H locs hG ls hl Qf hQf
  have hown : s.vm.findClass RX10 = some m.cls := hown
  have hl : lv_has ls 5 [(0, .ref (rA o a0)), (1, .int (J a1)), (2, .int (J a2))] := hl
  have w_fl_RX10_12 := hts _ (List.mem_cons_of_mem _ fl_RX10_12)
  have w_fl_RX10_140 := hts _ (List.mem_cons_of_mem _ fl_RX10_140)
  have w_fl_RX10_148 := hts _ (List.mem_cons_of_mem _ fl_RX10_148)
  have w_fl_RX10_154 := hts _ (List.mem_cons_of_mem _ fl_RX10_154)
  have w_fl_RX10_157 := hts _ (List.mem_cons_of_mem _ fl_RX10_157)
  have w_fl_RX10_160 := hts _ (List.mem_cons_of_mem _ fl_RX10_160)
  have w_fl_RX10_163 := hts _ (List.mem_cons_of_mem _ fl_RX10_163)
  have w_fl_RX10_166 := hts _ (List.mem_cons_of_mem _ fl_RX10_166)
  have w_fl_RX10_172 := hts _ (List.mem_cons_of_mem _ fl_RX10_172)
  have w_fl_RX10_175 := hts _ (List.mem_cons_of_mem _ fl_RX10_175)
  unfold wo_X10_zone at h
  refine lv_aload_n hx hb dX10_zone_0 rfl (lv_at hl 0 rfl) ?_
  refine lv_iload_n hx hb dX10_zone_1 rfl (lv_at hl 1 rfl) ?_
  refine j_contv (va_runV (As := [.int (J a1)]) (rest := []) ⟨hx, hb, hml, hown, hts⟩ (Ao_X10_needZone l ka0 h) (cwV 1 hts (gj_V ml_RX10_137 i_X10_needZone s_X10_needZone n_RX10 k_X10_needZone) rfl rfl rfl (by decide +kernel) ⟨by exact Nat.le_of_ble_eq_true rfl, by exact Nat.le_of_ble_eq_true rfl⟩) (j_preV hK hSX hG (ci := 9) rfl ka0 (by decide)) rfl rfl hl.1 rfl (lv_room (Nat.le_of_ble_eq_true rfl)) dX10_zone_2 ⟨by exact Nat.le_of_ble_eq_true rfl, by exact Nat.le_of_ble_eq_true rfl⟩) hG (c2 := 0) (s2 := 0) ⟨by exact Nat.le_of_ble_eq_true rfl, by exact Nat.le_of_ble_eq_true rfl⟩ (fun M2 h H locs hG => ?_)
  obtain ⟨h, eM2⟩ := h
  rw [eM2] at hG
  refine lv_iload_n hx hb dX10_zone_5 rfl (lv_at hl 2 rfl) ?_
  obtain ⟨K11, hK11, h⟩ := h
  have jK11 : ∀ (x10 : Int), K11 x10 → ∀ (H : Heap) (locs : List Loc), GM D cy o M s.heap H locs → ∀ ls : Array Slot, lv_has ls 5 [(0, .ref (rA o a0)), (1, .int (J a1)), (2, .int (J a2))] → W p l e rom_X10_zone s m args below meth c H locs 0 0 Qf (F0 m 20 ls [.int (J x10)]) := by
    intro x10 hcK11 H locs hG ls hl
    have h := hK11 x10 hcK11
    refine j_contv (va_runS (As := [.int (J x10)]) (rest := []) ⟨hx, hb, hml, hown, hts⟩ (Ao_X10_needArgument l h) (va_cwS 1 hts (gj_S ml_RX10_72 i_X10_needArgument n_RX10 k_X10_needArgument) rfl rfl rfl (by decide +kernel) ⟨by exact Nat.le_of_ble_eq_true rfl, by exact Nat.le_of_ble_eq_true rfl⟩) (j_preS hK hSX hG) rfl rfl hl.1 rfl (lv_room (Nat.le_of_ble_eq_true rfl)) dX10_zone_20 ⟨by exact Nat.le_of_ble_eq_true rfl, by exact Nat.le_of_ble_eq_true rfl⟩) hG (c2 := 0) (s2 := 0) ⟨by exact Nat.le_of_ble_eq_true rfl, by exact Nat.le_of_ble_eq_true rfl⟩ (fun M13 h H locs hG => ?_)
    obtain ⟨h, eM13⟩ := h
    rw [eM13] at hG
    refine lv_aload_n hx hb dX10_zone_23 rfl (lv_at hl 0 rfl) ?_
    refine j_getr hx hb hts hown hK hG (k := a0) (fun w h => List.mem_cons_of_mem _ (u_X10 w h)) (ci := 9) rfl ka0 0 (k2 := a0 + 1) (by decide) (by show a0 + (1 : Int) = a0 + 1; omega) w_fl_RX10_12 dX10_zone_24 ?_
    refine j_getr hx hb hts hown hK hG (k := a0 + 1) (fun w h => List.mem_cons_of_mem _ (u_X0 w h)) (ci := 0) rfl (kf_10_0 ka0) 2 (k2 := a0 + 2) (by decide) (by show (a0 + 1) + (1 : Int) = a0 + 2; omega) w_fl_RX10_140 dX10_zone_27 ?_
    refine lv_iload_n hx hb dX10_zone_30 rfl (lv_at hl 1 rfl) ?_
    obtain ⟨g14, h⟩ := h
    refine j_aald hx hb hK hG (t := 20) (t0 := 3) (k2 := a0 + 4 * a1 + 4) (show kd (a0 + 2) = 20 from (show (a0 + 1) + 1 = a0 + 2 from by omega) ▸ (kf_1_2 (kf_10_0 ka0))) (by decide) rfl g14 (by simp only [ra_20]; omega) dX10_zone_31 ?_
    have k15 : kd (a0 + 4 * a1 + 4) = 9 := by have q9 := (ka_20 (show kd (a0 + 2) = 20 from (show (a0 + 1) + 1 = a0 + 2 from by omega) ▸ (kf_1_2 (kf_10_0 ka0))) g14); rwa [show (a0 + 2) + 2 + 4 * a1 = a0 + 4 * a1 + 4 from by omega] at q9
    refine lv_astore_n (lv' := [(3, .ref (rA o (a0 + 4 * a1 + 4))), (0, .ref (rA o a0)), (1, .int (J a1)), (2, .int (J a2))]) hx hb dX10_zone_32 rfl hl (by decide) rfl (fun ls hl => ?_)
    refine lv_aload_n hx hb dX10_zone_33 rfl (lv_at hl 1 rfl) ?_
    refine lv_iload_n hx hb dX10_zone_34 rfl (lv_at hl 2 rfl) ?_
    refine j_contr (va_runV (As := [.int (J a1)]) (rest := []) ⟨hx, hb, hml, hown, hts⟩ (A_X10_compiled l ka0 h) (cwV 1 hts (gj_V ml_RX10_144 i_X10_compiled s_X10_compiled n_RX10 k_X10_compiled) rfl rfl rfl (by decide +kernel) ⟨by exact Nat.le_of_ble_eq_true rfl, by exact Nat.le_of_ble_eq_true rfl⟩) (j_preV hK hSX hG (ci := 9) rfl ka0 (by decide)) rfl rfl hl.1 rfl (lv_room (Nat.le_of_ble_eq_true rfl)) dX10_zone_35 ⟨by exact Nat.le_of_ble_eq_true rfl, by exact Nat.le_of_ble_eq_true rfl⟩) hG (c2 := 0) (s2 := 0) ⟨by exact Nat.le_of_ble_eq_true rfl, by exact Nat.le_of_ble_eq_true rfl⟩ (fun k16 M17 h hk16 H locs hG => ?_)
    refine lv_astore (lv' := [(4, .ref (rA o k16)), (3, .ref (rA o (a0 + 4 * a1 + 4))), (0, .ref (rA o a0)), (1, .int (J a1)), (2, .int (J a2))]) hx hb dX10_zone_38 hl (by decide) rfl (fun ls hl => ?_)
    refine lv_iload_n hx hb dX10_zone_40 rfl (lv_at hl 4 rfl) ?_
    obtain ⟨g18, h⟩ := h
    rcases em_eqI (a2) 0 with c19 | c19_0
    · refine j_tsw hx hb dX10_zone_41 g18 (k := 0) (tgt := 88) c19 ⟨by decide, by decide, rfl⟩ (by decide) ?_
      have h := h.1 c19
      refine lv_aload_n hx hb dX10_zone_88 rfl (lv_at hl 1 rfl) ?_
      refine j_geti hx hb hts hown hK hG (k := a0 + 4 * a1 + 4) (fun w h => List.mem_cons_of_mem _ (u_X9 w h)) (ci := 8) rfl k15 0 (by decide) (jz := 0) rfl w_fl_RX10_148 dX10_zone_89 ?_
      rw [hQf]
      exact j_ireti hx hb hr hlocks hG h (by decide) dX10_zone_92
    · rcases em_eqI (a2) 1 with c19 | c19_1
      · refine j_tsw hx hb dX10_zone_41 g18 (k := 1) (tgt := 93) c19 ⟨by decide, by decide, rfl⟩ (by decide) ?_
        have h := h.2.1 c19
        refine lv_aload_n hx hb dX10_zone_93 rfl (lv_at hl 1 rfl) ?_
        refine j_geti hx hb hts hown hK hG (k := a0 + 4 * a1 + 4) (fun w h => List.mem_cons_of_mem _ (u_X9 w h)) (ci := 8) rfl k15 1 (by decide) (jz := 1) rfl w_fl_RX10_154 dX10_zone_94 ?_
        rw [hQf]
        exact j_ireti hx hb hr hlocks hG h (by decide) dX10_zone_97
      · rcases em_eqI (a2) 2 with c19 | c19_2
        · refine j_tsw hx hb dX10_zone_41 g18 (k := 2) (tgt := 98) c19 ⟨by decide, by decide, rfl⟩ (by decide) ?_
          have h := h.2.2.1 c19
          refine lv_aload_n hx hb dX10_zone_98 rfl (lv_at hl 1 rfl) ?_
          refine j_geti hx hb hts hown hK hG (k := a0 + 4 * a1 + 4) (fun w h => List.mem_cons_of_mem _ (u_X9 w h)) (ci := 8) rfl k15 2 (by decide) (jz := 2) rfl w_fl_RX10_157 dX10_zone_99 ?_
          rw [hQf]
          exact j_ireti hx hb hr hlocks hG h (by decide) dX10_zone_102
        · rcases em_eqI (a2) 3 with c19 | c19_3
          · refine j_tsw hx hb dX10_zone_41 g18 (k := 3) (tgt := 103) c19 ⟨by decide, by decide, rfl⟩ (by decide) ?_
            have h := h.2.2.2.1 c19
            refine lv_aload hx hb dX10_zone_103 (lv_at hl 0 rfl) ?_
            refine j_geti hx hb hts hown hK hG (k := k16) (fun w h => List.mem_cons_of_mem _ (u_X7 w h)) (ci := 6) rfl hk16 2 (by decide) (jz := 2) rfl w_fl_RX10_160 dX10_zone_105 ?_
            rw [hQf]
            exact j_ireti hx hb hr hlocks hG h (by decide) dX10_zone_108
          · rcases em_eqI (a2) 4 with c19 | c19_4
            · refine j_tsw hx hb dX10_zone_41 g18 (k := 4) (tgt := 109) c19 ⟨by decide, by decide, rfl⟩ (by decide) ?_
              have h := h.2.2.2.2.1 c19
              refine lv_aload hx hb dX10_zone_109 (lv_at hl 0 rfl) ?_
              refine j_geti hx hb hts hown hK hG (k := k16) (fun w h => List.mem_cons_of_mem _ (u_X7 w h)) (ci := 6) rfl hk16 3 (by decide) (jz := 3) rfl w_fl_RX10_163 dX10_zone_111 ?_
              rw [hQf]
              exact j_ireti hx hb hr hlocks hG h (by decide) dX10_zone_114
            · rcases em_eqI (a2) 5 with c19 | c19_5
              · refine j_tsw hx hb dX10_zone_41 g18 (k := 5) (tgt := 115) c19 ⟨by decide, by decide, rfl⟩ (by decide) ?_
                have h := h.2.2.2.2.2.1 c19
                refine lv_aload hx hb dX10_zone_115 (lv_at hl 0 rfl) ?_
                refine j_geti hx hb hts hown hK hG (k := k16) (fun w h => List.mem_cons_of_mem _ (u_X7 w h)) (ci := 6) rfl hk16 1 (by decide) (jz := 1) rfl w_fl_RX10_166 dX10_zone_117 ?_
                rw [hQf]
                exact j_ireti hx hb hr hlocks hG h (by decide) dX10_zone_120
              · rcases em_eqI (a2) 6 with c19 | c19_6
                · refine j_tsw hx hb dX10_zone_41 g18 (k := 6) (tgt := 121) c19 ⟨by decide, by decide, rfl⟩ (by decide) ?_
                  have h := h.2.2.2.2.2.2.1 c19
                  refine lv_aload hx hb dX10_zone_121 (lv_at hl 0 rfl) ?_
                  refine lv_aload hx hb dX10_zone_123 (lv_at hl 0 rfl) ?_
                  refine j_geti hx hb hts hown hK hG (k := k16) (fun w h => List.mem_cons_of_mem _ (u_X7 w h)) (ci := 6) rfl hk16 2 (by decide) (jz := 2) rfl w_fl_RX10_160 dX10_zone_125 ?_
                  obtain ⟨g20, h⟩ := h
                  refine j_conti (va_runV (As := [.int (J (M17 k16 2))]) (rest := []) ⟨hx, hb, hml, hown, hts⟩ (A_X7_offsetIn l hk16 g20) (cwV 1 hts (gj_V ml_RX10_169 i_X7_offsetIn s_X7_offsetIn n_RX7 k_X7_offsetIn) rfl rfl rfl (by decide +kernel) ⟨by exact Nat.le_of_ble_eq_true rfl, by exact Nat.le_of_ble_eq_true rfl⟩) (j_preV hK hSX hG (ci := 6) rfl hk16 (by decide)) rfl rfl hl.1 rfl (lv_room (Nat.le_of_ble_eq_true rfl)) dX10_zone_128 ⟨by exact Nat.le_of_ble_eq_true rfl, by exact Nat.le_of_ble_eq_true rfl⟩) hG (c2 := 0) (s2 := 0) ⟨by exact Nat.le_of_ble_eq_true rfl, by exact Nat.le_of_ble_eq_true rfl⟩ (fun z21 M22 ez21 H locs hG => ?_)
                  obtain ⟨ez21, eM22⟩ := ez21
                  subst ez21
                  rw [eM22] at hG
                  rw [hQf]
                  exact j_ireti hx hb hr hlocks hG h (by decide) dX10_zone_131
                · rcases em_eqI (a2) 7 with c19 | c19_7
                  · refine j_tsw hx hb dX10_zone_41 g18 (k := 7) (tgt := 132) c19 ⟨by decide, by decide, rfl⟩ (by decide) ?_
                    have h := h.2.2.2.2.2.2.2.1 c19
                    refine lv_aload hx hb dX10_zone_132 (lv_at hl 0 rfl) ?_
                    refine j_geti hx hb hts hown hK hG (k := k16) (fun w h => List.mem_cons_of_mem _ (u_X7 w h)) (ci := 6) rfl hk16 4 (by decide) (jz := 4) rfl w_fl_RX10_172 dX10_zone_134 ?_
                    rw [hQf]
                    exact j_ireti hx hb hr hlocks hG h (by decide) dX10_zone_137
                  · have c19 : a2 ≠ 0 ∧ a2 ≠ 1 ∧ a2 ≠ 2 ∧ a2 ≠ 3 ∧ a2 ≠ 4 ∧ a2 ≠ 5 ∧ a2 ≠ 6 ∧ a2 ≠ 7 := ⟨c19_0, c19_1, c19_2, c19_3, c19_4, c19_5, c19_6, c19_7⟩
                    have h := h.2.2.2.2.2.2.2.2 c19
                    refine j_tswd hx hb dX10_zone_41 g18 (tgt := 138) (by omega) (by decide) ?_
                    refine lv_aload hx hb dX10_zone_138 (lv_at hl 0 rfl) ?_
                    refine j_geti hx hb hts hown hK hG (k := k16) (fun w h => List.mem_cons_of_mem _ (u_X7 w h)) (ci := 6) rfl hk16 5 (by decide) (jz := 5) rfl w_fl_RX10_175 dX10_zone_140 ?_
                    rw [hQf]
                    exact j_ireti hx hb hr hlocks hG h (by decide) dX10_zone_143
  obtain ⟨K26, hK26, h⟩ := h
  have jK26 : K26 → ∀ (H : Heap) (locs : List Loc), GM D cy o M s.heap H locs → ∀ ls : Array Slot, lv_has ls 5 [(0, .ref (rA o a0)), (1, .int (J a1)), (2, .int (J a2))] → W p l e rom_X10_zone s m args below meth c H locs 0 0 Qf (F0 m 19 ls []) := by
    intro hcK26 H locs hG ls hl
    have h := hK26 hcK26
    refine lv_iconst (v := J 0) hx hb dX10_zone_19 (by decide) ?_
    exact jK11 0 h H locs hG ls (lv_sub hl [0, 1, 2] rfl)
  obtain ⟨g28, h⟩ := h
  refine j_if_lt (tgt := 19) hx hb dX10_zone_6 (by decide) g28 (fun c27 => ?_) (fun c27 => ?_)
  · have h := h.1 c27
    exact jK26 h H locs hG ls (lv_sub hl [0, 1, 2] rfl)
  · have h := h.2 c27
    refine lv_iload_n hx hb dX10_zone_9 rfl (lv_at hl 2 rfl) ?_
    refine lv_bipush (v := J 8) hx hb dX10_zone_10 (by decide) ?_
    refine j_icmp_gt (tgt := 19) hx hb dX10_zone_12 (by decide) g28 (by decide) (fun c29 => ?_) (fun c29 => ?_)
    · have h := h.1 c29
      exact jK26 h H locs hG ls (lv_sub hl [0, 1, 2] rfl)
    · have h := h.2 c29
      refine lv_iconst (v := J 1) hx hb dX10_zone_15 (by decide) ?_
      refine lv_goto (tgt := 20) hx hb dX10_zone_16 (by decide) ?_
      exact jK11 1 h H locs hG ls (lv_sub hl [0, 1, 2] rfl)
abbrev rm_X10_zone : Room := { frames := 8, cells := 1, slots := 6, locals := 131 }
set_option maxRecDepth 100000 in
set_option maxHeartbeats 4000000 in
theorem A_X10_zone (l : Launch) (hst : l.stackTraces = false) {D : va_G} {cy : Nat → ClassId} {o : Nat} {sK sV : Nat → Nat} {M : jT} {a0 : Int} {a1 : Int} {a2 : Int} (ka0 : kd a0 = 10) {Q : Int → jT → Prop} {X : Nat → jT → Prop} (h : wp_X10_zone M a0 a1 a2 Q X) : CxI l yX10_zone (wj yX10_zone cX10_zone 5 (some .int)) rm_X10_zone D cy o sK sV M [.ref (rA o a0), .int (J a1), .int (J a2)] Q X := by
  refine j_ofWx (cc := cX10_zone) (maxL := 5) (ret := (some .int)) (by decide) rfl (Nat.le_of_ble_eq_true rfl) ?_
  intro p e s m args below meth c hx hb hr hlocks hout hml hown hts hK hSX H locs hsz hG ls hl Qf hQf
  have hown : s.vm.findClass RX10 = some m.cls := hown
  have hl : lv_has ls 5 [(0, .ref (rA o a0)), (1, .int (J a1)), (2, .int (J a2))] := hl
  have w_fl_RX10_12 := hts _ (List.mem_cons_of_mem _ fl_RX10_12)
  have w_fl_RX10_140 := hts _ (List.mem_cons_of_mem _ fl_RX10_140)
  have w_fl_RX10_148 := hts _ (List.mem_cons_of_mem _ fl_RX10_148)
  have w_fl_RX10_154 := hts _ (List.mem_cons_of_mem _ fl_RX10_154)
  have w_fl_RX10_157 := hts _ (List.mem_cons_of_mem _ fl_RX10_157)
  have w_fl_RX10_160 := hts _ (List.mem_cons_of_mem _ fl_RX10_160)
  have w_fl_RX10_163 := hts _ (List.mem_cons_of_mem _ fl_RX10_163)
  have w_fl_RX10_166 := hts _ (List.mem_cons_of_mem _ fl_RX10_166)
  have w_fl_RX10_172 := hts _ (List.mem_cons_of_mem _ fl_RX10_172)
  have w_fl_RX10_175 := hts _ (List.mem_cons_of_mem _ fl_RX10_175)
  unfold wp_X10_zone at h
  refine lv_aload_n hx hb dX10_zone_0 rfl (lv_at hl 0 rfl) ?_
  refine lv_iload_n hx hb dX10_zone_1 rfl (lv_at hl 1 rfl) ?_
  rcases h with h | h
  · refine j_contv (va_runV (As := [.int (J a1)]) (rest := []) ⟨hx, hb, hml, hown, hts⟩ (Ao_X10_needZone l ka0 h) (cwV 1 hts (gj_V ml_RX10_137 i_X10_needZone s_X10_needZone n_RX10 k_X10_needZone) rfl rfl rfl (by decide +kernel) ⟨by exact Nat.le_of_ble_eq_true rfl, by exact Nat.le_of_ble_eq_true rfl⟩) (j_preV hK hSX hG (ci := 9) rfl ka0 (by decide)) rfl rfl hl.1 rfl (lv_room (Nat.le_of_ble_eq_true rfl)) dX10_zone_2 ⟨by exact Nat.le_of_ble_eq_true rfl, by exact Nat.le_of_ble_eq_true rfl⟩) hG (c2 := 0) (s2 := 0) ⟨by exact Nat.le_of_ble_eq_true rfl, by exact Nat.le_of_ble_eq_true rfl⟩ (fun M2 h H locs hG => ?_)
    obtain ⟨h, eM2⟩ := h
    rw [eM2] at hG
    refine lv_iload_n hx hb dX10_zone_5 rfl (lv_at hl 2 rfl) ?_
    obtain ⟨K11, hK11, h⟩ := h
    have jK11 : ∀ (x10 : Int), K11 x10 → ∀ (H : Heap) (locs : List Loc), GM D cy o M s.heap H locs → ∀ ls : Array Slot, lv_has ls 5 [(0, .ref (rA o a0)), (1, .int (J a1)), (2, .int (J a2))] → W p l e rm_X10_zone s m args below meth c H locs 0 0 Qf (F0 m 20 ls [.int (J x10)]) := by
      intro x10 hcK11 H locs hG ls hl
      have h := hK11 x10 hcK11
      rcases h with h | h
      · refine j_contv (va_runS (As := [.int (J x10)]) (rest := []) ⟨hx, hb, hml, hown, hts⟩ (Ao_X10_needArgument l h) (va_cwS 1 hts (gj_S ml_RX10_72 i_X10_needArgument n_RX10 k_X10_needArgument) rfl rfl rfl (by decide +kernel) ⟨by exact Nat.le_of_ble_eq_true rfl, by exact Nat.le_of_ble_eq_true rfl⟩) (j_preS hK hSX hG) rfl rfl hl.1 rfl (lv_room (Nat.le_of_ble_eq_true rfl)) dX10_zone_20 ⟨by exact Nat.le_of_ble_eq_true rfl, by exact Nat.le_of_ble_eq_true rfl⟩) hG (c2 := 0) (s2 := 0) ⟨by exact Nat.le_of_ble_eq_true rfl, by exact Nat.le_of_ble_eq_true rfl⟩ (fun M13 h H locs hG => ?_)
        obtain ⟨h, eM13⟩ := h
        rw [eM13] at hG
        refine lv_aload_n hx hb dX10_zone_23 rfl (lv_at hl 0 rfl) ?_
        refine j_getr hx hb hts hown hK hG (k := a0) (fun w h => List.mem_cons_of_mem _ (u_X10 w h)) (ci := 9) rfl ka0 0 (k2 := a0 + 1) (by decide) (by show a0 + (1 : Int) = a0 + 1; omega) w_fl_RX10_12 dX10_zone_24 ?_
        refine j_getr hx hb hts hown hK hG (k := a0 + 1) (fun w h => List.mem_cons_of_mem _ (u_X0 w h)) (ci := 0) rfl (kf_10_0 ka0) 2 (k2 := a0 + 2) (by decide) (by show (a0 + 1) + (1 : Int) = a0 + 2; omega) w_fl_RX10_140 dX10_zone_27 ?_
        refine lv_iload_n hx hb dX10_zone_30 rfl (lv_at hl 1 rfl) ?_
        obtain ⟨g14, h⟩ := h
        refine j_aald hx hb hK hG (t := 20) (t0 := 3) (k2 := a0 + 4 * a1 + 4) (show kd (a0 + 2) = 20 from (show (a0 + 1) + 1 = a0 + 2 from by omega) ▸ (kf_1_2 (kf_10_0 ka0))) (by decide) rfl g14 (by simp only [ra_20]; omega) dX10_zone_31 ?_
        have k15 : kd (a0 + 4 * a1 + 4) = 9 := by have q9 := (ka_20 (show kd (a0 + 2) = 20 from (show (a0 + 1) + 1 = a0 + 2 from by omega) ▸ (kf_1_2 (kf_10_0 ka0))) g14); rwa [show (a0 + 2) + 2 + 4 * a1 = a0 + 4 * a1 + 4 from by omega] at q9
        refine lv_astore_n (lv' := [(3, .ref (rA o (a0 + 4 * a1 + 4))), (0, .ref (rA o a0)), (1, .int (J a1)), (2, .int (J a2))]) hx hb dX10_zone_32 rfl hl (by decide) rfl (fun ls hl => ?_)
        refine lv_aload_n hx hb dX10_zone_33 rfl (lv_at hl 1 rfl) ?_
        refine lv_iload_n hx hb dX10_zone_34 rfl (lv_at hl 2 rfl) ?_
        refine j_contr (va_runV (As := [.int (J a1)]) (rest := []) ⟨hx, hb, hml, hown, hts⟩ (A_X10_compiled l ka0 h) (cwV 1 hts (gj_V ml_RX10_144 i_X10_compiled s_X10_compiled n_RX10 k_X10_compiled) rfl rfl rfl (by decide +kernel) ⟨by exact Nat.le_of_ble_eq_true rfl, by exact Nat.le_of_ble_eq_true rfl⟩) (j_preV hK hSX hG (ci := 9) rfl ka0 (by decide)) rfl rfl hl.1 rfl (lv_room (Nat.le_of_ble_eq_true rfl)) dX10_zone_35 ⟨by exact Nat.le_of_ble_eq_true rfl, by exact Nat.le_of_ble_eq_true rfl⟩) hG (c2 := 0) (s2 := 0) ⟨by exact Nat.le_of_ble_eq_true rfl, by exact Nat.le_of_ble_eq_true rfl⟩ (fun k16 M17 h hk16 H locs hG => ?_)
        refine lv_astore (lv' := [(4, .ref (rA o k16)), (3, .ref (rA o (a0 + 4 * a1 + 4))), (0, .ref (rA o a0)), (1, .int (J a1)), (2, .int (J a2))]) hx hb dX10_zone_38 hl (by decide) rfl (fun ls hl => ?_)
        refine lv_iload_n hx hb dX10_zone_40 rfl (lv_at hl 4 rfl) ?_
        obtain ⟨g18, h⟩ := h
        rcases em_eqI (a2) 0 with c19 | c19_0
        · refine j_tsw hx hb dX10_zone_41 g18 (k := 0) (tgt := 88) c19 ⟨by decide, by decide, rfl⟩ (by decide) ?_
          have h := h.1 c19
          refine lv_aload_n hx hb dX10_zone_88 rfl (lv_at hl 1 rfl) ?_
          refine j_geti hx hb hts hown hK hG (k := a0 + 4 * a1 + 4) (fun w h => List.mem_cons_of_mem _ (u_X9 w h)) (ci := 8) rfl k15 0 (by decide) (jz := 0) rfl w_fl_RX10_148 dX10_zone_89 ?_
          rw [hQf]
          exact vx_ret (j_ireti hx hb hr hlocks hG h (by decide) dX10_zone_92)
        · rcases em_eqI (a2) 1 with c19 | c19_1
          · refine j_tsw hx hb dX10_zone_41 g18 (k := 1) (tgt := 93) c19 ⟨by decide, by decide, rfl⟩ (by decide) ?_
            have h := h.2.1 c19
            refine lv_aload_n hx hb dX10_zone_93 rfl (lv_at hl 1 rfl) ?_
            refine j_geti hx hb hts hown hK hG (k := a0 + 4 * a1 + 4) (fun w h => List.mem_cons_of_mem _ (u_X9 w h)) (ci := 8) rfl k15 1 (by decide) (jz := 1) rfl w_fl_RX10_154 dX10_zone_94 ?_
            rw [hQf]
            exact vx_ret (j_ireti hx hb hr hlocks hG h (by decide) dX10_zone_97)
          · rcases em_eqI (a2) 2 with c19 | c19_2
            · refine j_tsw hx hb dX10_zone_41 g18 (k := 2) (tgt := 98) c19 ⟨by decide, by decide, rfl⟩ (by decide) ?_
              have h := h.2.2.1 c19
              refine lv_aload_n hx hb dX10_zone_98 rfl (lv_at hl 1 rfl) ?_
              refine j_geti hx hb hts hown hK hG (k := a0 + 4 * a1 + 4) (fun w h => List.mem_cons_of_mem _ (u_X9 w h)) (ci := 8) rfl k15 2 (by decide) (jz := 2) rfl w_fl_RX10_157 dX10_zone_99 ?_
              rw [hQf]
              exact vx_ret (j_ireti hx hb hr hlocks hG h (by decide) dX10_zone_102)
            · rcases em_eqI (a2) 3 with c19 | c19_3
              · refine j_tsw hx hb dX10_zone_41 g18 (k := 3) (tgt := 103) c19 ⟨by decide, by decide, rfl⟩ (by decide) ?_
                have h := h.2.2.2.1 c19
                refine lv_aload hx hb dX10_zone_103 (lv_at hl 0 rfl) ?_
                refine j_geti hx hb hts hown hK hG (k := k16) (fun w h => List.mem_cons_of_mem _ (u_X7 w h)) (ci := 6) rfl hk16 2 (by decide) (jz := 2) rfl w_fl_RX10_160 dX10_zone_105 ?_
                rw [hQf]
                exact vx_ret (j_ireti hx hb hr hlocks hG h (by decide) dX10_zone_108)
              · rcases em_eqI (a2) 4 with c19 | c19_4
                · refine j_tsw hx hb dX10_zone_41 g18 (k := 4) (tgt := 109) c19 ⟨by decide, by decide, rfl⟩ (by decide) ?_
                  have h := h.2.2.2.2.1 c19
                  refine lv_aload hx hb dX10_zone_109 (lv_at hl 0 rfl) ?_
                  refine j_geti hx hb hts hown hK hG (k := k16) (fun w h => List.mem_cons_of_mem _ (u_X7 w h)) (ci := 6) rfl hk16 3 (by decide) (jz := 3) rfl w_fl_RX10_163 dX10_zone_111 ?_
                  rw [hQf]
                  exact vx_ret (j_ireti hx hb hr hlocks hG h (by decide) dX10_zone_114)
                · rcases em_eqI (a2) 5 with c19 | c19_5
                  · refine j_tsw hx hb dX10_zone_41 g18 (k := 5) (tgt := 115) c19 ⟨by decide, by decide, rfl⟩ (by decide) ?_
                    have h := h.2.2.2.2.2.1 c19
                    refine lv_aload hx hb dX10_zone_115 (lv_at hl 0 rfl) ?_
                    refine j_geti hx hb hts hown hK hG (k := k16) (fun w h => List.mem_cons_of_mem _ (u_X7 w h)) (ci := 6) rfl hk16 1 (by decide) (jz := 1) rfl w_fl_RX10_166 dX10_zone_117 ?_
                    rw [hQf]
                    exact vx_ret (j_ireti hx hb hr hlocks hG h (by decide) dX10_zone_120)
                  · rcases em_eqI (a2) 6 with c19 | c19_6
                    · refine j_tsw hx hb dX10_zone_41 g18 (k := 6) (tgt := 121) c19 ⟨by decide, by decide, rfl⟩ (by decide) ?_
                      have h := h.2.2.2.2.2.2.1 c19
                      refine lv_aload hx hb dX10_zone_121 (lv_at hl 0 rfl) ?_
                      refine lv_aload hx hb dX10_zone_123 (lv_at hl 0 rfl) ?_
                      refine j_geti hx hb hts hown hK hG (k := k16) (fun w h => List.mem_cons_of_mem _ (u_X7 w h)) (ci := 6) rfl hk16 2 (by decide) (jz := 2) rfl w_fl_RX10_160 dX10_zone_125 ?_
                      obtain ⟨g20, h⟩ := h
                      refine j_conti (va_runV (As := [.int (J (M17 k16 2))]) (rest := []) ⟨hx, hb, hml, hown, hts⟩ (A_X7_offsetIn l hk16 g20) (cwV 1 hts (gj_V ml_RX10_169 i_X7_offsetIn s_X7_offsetIn n_RX7 k_X7_offsetIn) rfl rfl rfl (by decide +kernel) ⟨by exact Nat.le_of_ble_eq_true rfl, by exact Nat.le_of_ble_eq_true rfl⟩) (j_preV hK hSX hG (ci := 6) rfl hk16 (by decide)) rfl rfl hl.1 rfl (lv_room (Nat.le_of_ble_eq_true rfl)) dX10_zone_128 ⟨by exact Nat.le_of_ble_eq_true rfl, by exact Nat.le_of_ble_eq_true rfl⟩) hG (c2 := 0) (s2 := 0) ⟨by exact Nat.le_of_ble_eq_true rfl, by exact Nat.le_of_ble_eq_true rfl⟩ (fun z21 M22 ez21 H locs hG => ?_)
                      obtain ⟨ez21, eM22⟩ := ez21
                      subst ez21
                      rw [eM22] at hG
                      rw [hQf]
                      exact vx_ret (j_ireti hx hb hr hlocks hG h (by decide) dX10_zone_131)
                    · rcases em_eqI (a2) 7 with c19 | c19_7
                      · refine j_tsw hx hb dX10_zone_41 g18 (k := 7) (tgt := 132) c19 ⟨by decide, by decide, rfl⟩ (by decide) ?_
                        have h := h.2.2.2.2.2.2.2.1 c19
                        refine lv_aload hx hb dX10_zone_132 (lv_at hl 0 rfl) ?_
                        refine j_geti hx hb hts hown hK hG (k := k16) (fun w h => List.mem_cons_of_mem _ (u_X7 w h)) (ci := 6) rfl hk16 4 (by decide) (jz := 4) rfl w_fl_RX10_172 dX10_zone_134 ?_
                        rw [hQf]
                        exact vx_ret (j_ireti hx hb hr hlocks hG h (by decide) dX10_zone_137)
                      · have c19 : a2 ≠ 0 ∧ a2 ≠ 1 ∧ a2 ≠ 2 ∧ a2 ≠ 3 ∧ a2 ≠ 4 ∧ a2 ≠ 5 ∧ a2 ≠ 6 ∧ a2 ≠ 7 := ⟨c19_0, c19_1, c19_2, c19_3, c19_4, c19_5, c19_6, c19_7⟩
                        have h := h.2.2.2.2.2.2.2.2 c19
                        refine j_tswd hx hb dX10_zone_41 g18 (tgt := 138) (by omega) (by decide) ?_
                        refine lv_aload hx hb dX10_zone_138 (lv_at hl 0 rfl) ?_
                        refine j_geti hx hb hts hown hK hG (k := k16) (fun w h => List.mem_cons_of_mem _ (u_X7 w h)) (ci := 6) rfl hk16 5 (by decide) (jz := 5) rfl w_fl_RX10_175 dX10_zone_140 ?_
                        rw [hQf]
                        exact vx_ret (j_ireti hx hb hr hlocks hG h (by decide) dX10_zone_143)
      · refine j_contxv (vx_runS (As := [.int (J x10)]) (rest := []) ⟨hx, hb, hml, hown, hts⟩ (A_X10_needArgument l hst h) (va_cwS 1 hts (gj_S ml_RX10_72 i_X10_needArgument n_RX10 k_X10_needArgument) rfl rfl rfl (by decide +kernel) ⟨by exact Nat.le_of_ble_eq_true rfl, by exact Nat.le_of_ble_eq_true rfl⟩) (j_preS hK hSX hG) rfl rfl hl.1 rfl (lv_room (Nat.le_of_ble_eq_true rfl)) dX10_zone_20 ⟨by exact Nat.le_of_ble_eq_true rfl, by exact Nat.le_of_ble_eq_true rfl⟩) hG (c2 := 1) (s2 := 6) ⟨by exact Nat.le_of_ble_eq_true rfl, by exact Nat.le_of_ble_eq_true rfl⟩ (fun x M h ce q H locs hG h1 h2 h3 => ?_) (fun M h H locs hG => h.elim)
        rw [hQf]
        exact j_xout hlocks hout hG h h1 h2 h3 (by decide)
    obtain ⟨K26, hK26, h⟩ := h
    have jK26 : K26 → ∀ (H : Heap) (locs : List Loc), GM D cy o M s.heap H locs → ∀ ls : Array Slot, lv_has ls 5 [(0, .ref (rA o a0)), (1, .int (J a1)), (2, .int (J a2))] → W p l e rm_X10_zone s m args below meth c H locs 0 0 Qf (F0 m 19 ls []) := by
      intro hcK26 H locs hG ls hl
      have h := hK26 hcK26
      refine lv_iconst (v := J 0) hx hb dX10_zone_19 (by decide) ?_
      exact jK11 0 h H locs hG ls (lv_sub hl [0, 1, 2] rfl)
    obtain ⟨g28, h⟩ := h
    refine j_if_lt (tgt := 19) hx hb dX10_zone_6 (by decide) g28 (fun c27 => ?_) (fun c27 => ?_)
    · have h := h.1 c27
      exact jK26 h H locs hG ls (lv_sub hl [0, 1, 2] rfl)
    · have h := h.2 c27
      refine lv_iload_n hx hb dX10_zone_9 rfl (lv_at hl 2 rfl) ?_
      refine lv_bipush (v := J 8) hx hb dX10_zone_10 (by decide) ?_
      refine j_icmp_gt (tgt := 19) hx hb dX10_zone_12 (by decide) g28 (by decide) (fun c29 => ?_) (fun c29 => ?_)
      · have h := h.1 c29
        exact jK26 h H locs hG ls (lv_sub hl [0, 1, 2] rfl)
      · have h := h.2 c29
        refine lv_iconst (v := J 1) hx hb dX10_zone_15 (by decide) ?_
        refine lv_goto (tgt := 20) hx hb dX10_zone_16 (by decide) ?_
        exact jK11 1 h H locs hG ls (lv_sub hl [0, 1, 2] rfl)
  · refine j_contxv (vx_runV (As := [.int (J a1)]) (rest := []) ⟨hx, hb, hml, hown, hts⟩ (A_X10_needZone l hst ka0 h) (cwV 1 hts (gj_V ml_RX10_137 i_X10_needZone s_X10_needZone n_RX10 k_X10_needZone) rfl rfl rfl (by decide +kernel) ⟨by exact Nat.le_of_ble_eq_true rfl, by exact Nat.le_of_ble_eq_true rfl⟩) (j_preV hK hSX hG (ci := 9) rfl ka0 (by decide)) rfl rfl hl.1 rfl (lv_room (Nat.le_of_ble_eq_true rfl)) dX10_zone_2 ⟨by exact Nat.le_of_ble_eq_true rfl, by exact Nat.le_of_ble_eq_true rfl⟩) hG (c2 := 1) (s2 := 6) ⟨by exact Nat.le_of_ble_eq_true rfl, by exact Nat.le_of_ble_eq_true rfl⟩ (fun x M h ce q H locs hG h1 h2 h3 => ?_) (fun M h H locs hG => h.elim)
    rw [hQf]
    exact j_xout hlocks hout hG h h1 h2 h3 (by decide)

abbrev rom_X10_rule : Room := { frames := 2, cells := 0, slots := 0, locals := 43 }
set_option maxRecDepth 100000 in
set_option maxHeartbeats 4000000 in
theorem Ao_X10_rule (l : Launch) {D : va_G} {cy : Nat → ClassId} {o : Nat} {sK sV : Nat → Nat} {M : jT} {a0 : Int} {a1 : Int} {a2 : Int} {a3 : Int} (ka0 : kd a0 = 10) {Q : Int → Prop} (h : wo_X10_rule M a0 a1 a2 a3 Q) : CoI l yX10_rule (wj yX10_rule cX10_rule 4 (some .int)) rom_X10_rule D cy o sK sV M [.ref (rA o a0), .int (J a1), .int (J a2), .int (J a3)] (fun z M9 => Q z ∧ M9 = M) := by
  refine j_ofW (cc := cX10_rule) (maxL := 4) (ret := (some .int)) (by decide) rfl (Nat.le_of_ble_eq_true rfl) ?_
  intro p e s m args below meth c hx hb hr hlocks hml hown hts hK hSX H locs hG ls hl Qf hQf
  have hown : s.vm.findClass RX10 = some m.cls := hown
  have hl : lv_has ls 4 [(0, .ref (rA o a0)), (1, .int (J a1)), (2, .int (J a2)), (3, .int (J a3))] := hl
  have w_fl_RX10_12 := hts _ (List.mem_cons_of_mem _ fl_RX10_12)
  have w_fl_RX10_140 := hts _ (List.mem_cons_of_mem _ fl_RX10_140)
  unfold wo_X10_rule at h
  refine lv_aload_n hx hb dX10_rule_0 rfl (lv_at hl 0 rfl) ?_
  refine lv_iload_n hx hb dX10_rule_1 rfl (lv_at hl 1 rfl) ?_
  refine lv_iload_n hx hb dX10_rule_2 rfl (lv_at hl 2 rfl) ?_
  obtain ⟨g1, h⟩ := h
  refine j_conti (va_runV (As := [.int (J a1), .int (J a2)]) (rest := []) ⟨hx, hb, hml, hown, hts⟩ (A_X10_ruleIndexFault l ka0 g1) (cwV 2 hts (gj_V ml_RX10_131 i_X10_ruleIndexFault s_X10_ruleIndexFault n_RX10 k_X10_ruleIndexFault) rfl rfl rfl (by decide +kernel) ⟨by exact Nat.le_of_ble_eq_true rfl, by exact Nat.le_of_ble_eq_true rfl⟩) (j_preV hK hSX hG (ci := 9) rfl ka0 (by decide)) rfl rfl hl.1 rfl (lv_room (Nat.le_of_ble_eq_true rfl)) dX10_rule_3 ⟨by exact Nat.le_of_ble_eq_true rfl, by exact Nat.le_of_ble_eq_true rfl⟩) hG (c2 := 0) (s2 := 0) ⟨by exact Nat.le_of_ble_eq_true rfl, by exact Nat.le_of_ble_eq_true rfl⟩ (fun z2 M3 ez2 H locs hG => ?_)
  obtain ⟨ez2, eM3⟩ := ez2
  subst ez2
  rw [eM3] at hG
  refine j_contv (va_runS (As := [.int (J (pf_X10_ruleIndexFault M a0 a1 a2))]) (rest := []) ⟨hx, hb, hml, hown, hts⟩ (Ao_X10_refuse l h) (va_cwS 1 hts (gj_S ml_RX10_107 i_X10_refuse n_RX10 k_X10_refuse) rfl rfl rfl (by decide +kernel) ⟨by exact Nat.le_of_ble_eq_true rfl, by exact Nat.le_of_ble_eq_true rfl⟩) (j_preS hK hSX hG) rfl rfl hl.1 rfl (lv_room (Nat.le_of_ble_eq_true rfl)) dX10_rule_6 ⟨by exact Nat.le_of_ble_eq_true rfl, by exact Nat.le_of_ble_eq_true rfl⟩) hG (c2 := 0) (s2 := 0) ⟨by exact Nat.le_of_ble_eq_true rfl, by exact Nat.le_of_ble_eq_true rfl⟩ (fun M5 h H locs hG => ?_)
  obtain ⟨h, eM5⟩ := h
  rw [eM5] at hG
  refine lv_iload_n hx hb dX10_rule_9 rfl (lv_at hl 3 rfl) ?_
  obtain ⟨K14, hK14, h⟩ := h
  have jK14 : ∀ (x13 : Int), K14 x13 → ∀ (H : Heap) (locs : List Loc), GM D cy o M s.heap H locs → ∀ ls : Array Slot, lv_has ls 4 [(0, .ref (rA o a0)), (1, .int (J a1)), (2, .int (J a2)), (3, .int (J a3))] → W p l e rom_X10_rule s m args below meth c H locs 0 0 Qf (F0 m 24 ls [.int (J x13)]) := by
    intro x13 hcK14 H locs hG ls hl
    have h := hK14 x13 hcK14
    refine j_contv (va_runS (As := [.int (J x13)]) (rest := []) ⟨hx, hb, hml, hown, hts⟩ (Ao_X10_needArgument l h) (va_cwS 1 hts (gj_S ml_RX10_72 i_X10_needArgument n_RX10 k_X10_needArgument) rfl rfl rfl (by decide +kernel) ⟨by exact Nat.le_of_ble_eq_true rfl, by exact Nat.le_of_ble_eq_true rfl⟩) (j_preS hK hSX hG) rfl rfl hl.1 rfl (lv_room (Nat.le_of_ble_eq_true rfl)) dX10_rule_24 ⟨by exact Nat.le_of_ble_eq_true rfl, by exact Nat.le_of_ble_eq_true rfl⟩) hG (c2 := 0) (s2 := 0) ⟨by exact Nat.le_of_ble_eq_true rfl, by exact Nat.le_of_ble_eq_true rfl⟩ (fun M16 h H locs hG => ?_)
    obtain ⟨h, eM16⟩ := h
    rw [eM16] at hG
    refine lv_aload_n hx hb dX10_rule_27 rfl (lv_at hl 0 rfl) ?_
    refine j_getr hx hb hts hown hK hG (k := a0) (fun w h => List.mem_cons_of_mem _ (u_X10 w h)) (ci := 9) rfl ka0 0 (k2 := a0 + 1) (by decide) (by show a0 + (1 : Int) = a0 + 1; omega) w_fl_RX10_12 dX10_rule_28 ?_
    refine j_getr hx hb hts hown hK hG (k := a0 + 1) (fun w h => List.mem_cons_of_mem _ (u_X0 w h)) (ci := 0) rfl (kf_10_0 ka0) 2 (k2 := a0 + 2) (by decide) (by show (a0 + 1) + (1 : Int) = a0 + 2; omega) w_fl_RX10_140 dX10_rule_31 ?_
    refine lv_iload_n hx hb dX10_rule_34 rfl (lv_at hl 1 rfl) ?_
    obtain ⟨g17, h⟩ := h
    refine j_aald hx hb hK hG (t := 20) (t0 := 3) (k2 := a0 + 4 * a1 + 4) (show kd (a0 + 2) = 20 from (show (a0 + 1) + 1 = a0 + 2 from by omega) ▸ (kf_1_2 (kf_10_0 ka0))) (by decide) rfl g17 (by simp only [ra_20]; omega) dX10_rule_35 ?_
    have k18 : kd (a0 + 4 * a1 + 4) = 9 := by have q9 := (ka_20 (show kd (a0 + 2) = 20 from (show (a0 + 1) + 1 = a0 + 2 from by omega) ▸ (kf_1_2 (kf_10_0 ka0))) g17); rwa [show (a0 + 2) + 2 + 4 * a1 = a0 + 4 * a1 + 4 from by omega] at q9
    refine lv_iload_n hx hb dX10_rule_36 rfl (lv_at hl 2 rfl) ?_
    refine lv_iload_n hx hb dX10_rule_37 rfl (lv_at hl 3 rfl) ?_
    obtain ⟨g19, h⟩ := h
    refine j_conti (va_runV (As := [.int (J a2), .int (J a3)]) (rest := []) ⟨hx, hb, hml, hown, hts⟩ (A_X9_ruleNumber l k18 g19) (cwV 2 hts (gj_V ml_RX10_178 i_X9_ruleNumber s_X9_ruleNumber n_RX9 k_X9_ruleNumber) rfl rfl rfl (by decide +kernel) ⟨by exact Nat.le_of_ble_eq_true rfl, by exact Nat.le_of_ble_eq_true rfl⟩) (j_preV hK hSX hG (ci := 8) rfl k18 (by decide)) rfl rfl hl.1 rfl (lv_room (Nat.le_of_ble_eq_true rfl)) dX10_rule_38 ⟨by exact Nat.le_of_ble_eq_true rfl, by exact Nat.le_of_ble_eq_true rfl⟩) hG (c2 := 0) (s2 := 0) ⟨by exact Nat.le_of_ble_eq_true rfl, by exact Nat.le_of_ble_eq_true rfl⟩ (fun z20 M21 ez20 H locs hG => ?_)
    obtain ⟨ez20, eM21⟩ := ez20
    subst ez20
    rw [eM21] at hG
    rw [hQf]
    exact j_ireti hx hb hr hlocks hG ⟨h, rfl⟩ (by decide) dX10_rule_41
  obtain ⟨K25, hK25, h⟩ := h
  have jK25 : K25 → ∀ (H : Heap) (locs : List Loc), GM D cy o M s.heap H locs → ∀ ls : Array Slot, lv_has ls 4 [(0, .ref (rA o a0)), (1, .int (J a1)), (2, .int (J a2)), (3, .int (J a3))] → W p l e rom_X10_rule s m args below meth c H locs 0 0 Qf (F0 m 23 ls []) := by
    intro hcK25 H locs hG ls hl
    have h := hK25 hcK25
    refine lv_iconst (v := J 0) hx hb dX10_rule_23 (by decide) ?_
    exact jK14 0 h H locs hG ls (lv_sub hl [0, 1, 2, 3] rfl)
  obtain ⟨g27, h⟩ := h
  refine j_if_lt (tgt := 23) hx hb dX10_rule_10 (by decide) g27 (fun c26 => ?_) (fun c26 => ?_)
  · have h := h.1 c26
    exact jK25 h H locs hG ls (lv_sub hl [0, 1, 2, 3] rfl)
  · have h := h.2 c26
    refine lv_iload_n hx hb dX10_rule_13 rfl (lv_at hl 3 rfl) ?_
    refine lv_bipush (v := J 7) hx hb dX10_rule_14 (by decide) ?_
    refine j_icmp_ge (tgt := 23) hx hb dX10_rule_16 (by decide) g27 (by decide) (fun c28 => ?_) (fun c28 => ?_)
    · have h := h.1 c28
      exact jK25 h H locs hG ls (lv_sub hl [0, 1, 2, 3] rfl)
    · have h := h.2 c28
      refine lv_iconst (v := J 1) hx hb dX10_rule_19 (by decide) ?_
      refine lv_goto (tgt := 24) hx hb dX10_rule_20 (by decide) ?_
      exact jK14 1 h H locs hG ls (lv_sub hl [0, 1, 2, 3] rfl)
abbrev rm_X10_rule : Room := { frames := 8, cells := 1, slots := 6, locals := 130 }
set_option maxRecDepth 100000 in
set_option maxHeartbeats 4000000 in
theorem A_X10_rule (l : Launch) (hst : l.stackTraces = false) {D : va_G} {cy : Nat → ClassId} {o : Nat} {sK sV : Nat → Nat} {M : jT} {a0 : Int} {a1 : Int} {a2 : Int} {a3 : Int} (ka0 : kd a0 = 10) {Q : Int → jT → Prop} {X : Nat → jT → Prop} (h : wp_X10_rule M a0 a1 a2 a3 Q X) : CxI l yX10_rule (wj yX10_rule cX10_rule 4 (some .int)) rm_X10_rule D cy o sK sV M [.ref (rA o a0), .int (J a1), .int (J a2), .int (J a3)] Q X := by
  refine j_ofWx (cc := cX10_rule) (maxL := 4) (ret := (some .int)) (by decide) rfl (Nat.le_of_ble_eq_true rfl) ?_
  intro p e s m args below meth c hx hb hr hlocks hout hml hown hts hK hSX H locs hsz hG ls hl Qf hQf
  have hown : s.vm.findClass RX10 = some m.cls := hown
  have hl : lv_has ls 4 [(0, .ref (rA o a0)), (1, .int (J a1)), (2, .int (J a2)), (3, .int (J a3))] := hl
  have w_fl_RX10_12 := hts _ (List.mem_cons_of_mem _ fl_RX10_12)
  have w_fl_RX10_140 := hts _ (List.mem_cons_of_mem _ fl_RX10_140)
  unfold wp_X10_rule at h
  refine lv_aload_n hx hb dX10_rule_0 rfl (lv_at hl 0 rfl) ?_
  refine lv_iload_n hx hb dX10_rule_1 rfl (lv_at hl 1 rfl) ?_
  refine lv_iload_n hx hb dX10_rule_2 rfl (lv_at hl 2 rfl) ?_
  obtain ⟨g1, h⟩ := h
  refine j_conti (va_runV (As := [.int (J a1), .int (J a2)]) (rest := []) ⟨hx, hb, hml, hown, hts⟩ (A_X10_ruleIndexFault l ka0 g1) (cwV 2 hts (gj_V ml_RX10_131 i_X10_ruleIndexFault s_X10_ruleIndexFault n_RX10 k_X10_ruleIndexFault) rfl rfl rfl (by decide +kernel) ⟨by exact Nat.le_of_ble_eq_true rfl, by exact Nat.le_of_ble_eq_true rfl⟩) (j_preV hK hSX hG (ci := 9) rfl ka0 (by decide)) rfl rfl hl.1 rfl (lv_room (Nat.le_of_ble_eq_true rfl)) dX10_rule_3 ⟨by exact Nat.le_of_ble_eq_true rfl, by exact Nat.le_of_ble_eq_true rfl⟩) hG (c2 := 0) (s2 := 0) ⟨by exact Nat.le_of_ble_eq_true rfl, by exact Nat.le_of_ble_eq_true rfl⟩ (fun z2 M3 ez2 H locs hG => ?_)
  obtain ⟨ez2, eM3⟩ := ez2
  subst ez2
  rw [eM3] at hG
  rcases h with h | h
  · refine j_contv (va_runS (As := [.int (J (pf_X10_ruleIndexFault M a0 a1 a2))]) (rest := []) ⟨hx, hb, hml, hown, hts⟩ (Ao_X10_refuse l h) (va_cwS 1 hts (gj_S ml_RX10_107 i_X10_refuse n_RX10 k_X10_refuse) rfl rfl rfl (by decide +kernel) ⟨by exact Nat.le_of_ble_eq_true rfl, by exact Nat.le_of_ble_eq_true rfl⟩) (j_preS hK hSX hG) rfl rfl hl.1 rfl (lv_room (Nat.le_of_ble_eq_true rfl)) dX10_rule_6 ⟨by exact Nat.le_of_ble_eq_true rfl, by exact Nat.le_of_ble_eq_true rfl⟩) hG (c2 := 0) (s2 := 0) ⟨by exact Nat.le_of_ble_eq_true rfl, by exact Nat.le_of_ble_eq_true rfl⟩ (fun M5 h H locs hG => ?_)
    obtain ⟨h, eM5⟩ := h
    rw [eM5] at hG
    refine lv_iload_n hx hb dX10_rule_9 rfl (lv_at hl 3 rfl) ?_
    obtain ⟨K14, hK14, h⟩ := h
    have jK14 : ∀ (x13 : Int), K14 x13 → ∀ (H : Heap) (locs : List Loc), GM D cy o M s.heap H locs → ∀ ls : Array Slot, lv_has ls 4 [(0, .ref (rA o a0)), (1, .int (J a1)), (2, .int (J a2)), (3, .int (J a3))] → W p l e rm_X10_rule s m args below meth c H locs 0 0 Qf (F0 m 24 ls [.int (J x13)]) := by
      intro x13 hcK14 H locs hG ls hl
      have h := hK14 x13 hcK14
      rcases h with h | h
      · refine j_contv (va_runS (As := [.int (J x13)]) (rest := []) ⟨hx, hb, hml, hown, hts⟩ (Ao_X10_needArgument l h) (va_cwS 1 hts (gj_S ml_RX10_72 i_X10_needArgument n_RX10 k_X10_needArgument) rfl rfl rfl (by decide +kernel) ⟨by exact Nat.le_of_ble_eq_true rfl, by exact Nat.le_of_ble_eq_true rfl⟩) (j_preS hK hSX hG) rfl rfl hl.1 rfl (lv_room (Nat.le_of_ble_eq_true rfl)) dX10_rule_24 ⟨by exact Nat.le_of_ble_eq_true rfl, by exact Nat.le_of_ble_eq_true rfl⟩) hG (c2 := 0) (s2 := 0) ⟨by exact Nat.le_of_ble_eq_true rfl, by exact Nat.le_of_ble_eq_true rfl⟩ (fun M16 h H locs hG => ?_)
        obtain ⟨h, eM16⟩ := h
        rw [eM16] at hG
        refine lv_aload_n hx hb dX10_rule_27 rfl (lv_at hl 0 rfl) ?_
        refine j_getr hx hb hts hown hK hG (k := a0) (fun w h => List.mem_cons_of_mem _ (u_X10 w h)) (ci := 9) rfl ka0 0 (k2 := a0 + 1) (by decide) (by show a0 + (1 : Int) = a0 + 1; omega) w_fl_RX10_12 dX10_rule_28 ?_
        refine j_getr hx hb hts hown hK hG (k := a0 + 1) (fun w h => List.mem_cons_of_mem _ (u_X0 w h)) (ci := 0) rfl (kf_10_0 ka0) 2 (k2 := a0 + 2) (by decide) (by show (a0 + 1) + (1 : Int) = a0 + 2; omega) w_fl_RX10_140 dX10_rule_31 ?_
        refine lv_iload_n hx hb dX10_rule_34 rfl (lv_at hl 1 rfl) ?_
        obtain ⟨g17, h⟩ := h
        refine j_aald hx hb hK hG (t := 20) (t0 := 3) (k2 := a0 + 4 * a1 + 4) (show kd (a0 + 2) = 20 from (show (a0 + 1) + 1 = a0 + 2 from by omega) ▸ (kf_1_2 (kf_10_0 ka0))) (by decide) rfl g17 (by simp only [ra_20]; omega) dX10_rule_35 ?_
        have k18 : kd (a0 + 4 * a1 + 4) = 9 := by have q9 := (ka_20 (show kd (a0 + 2) = 20 from (show (a0 + 1) + 1 = a0 + 2 from by omega) ▸ (kf_1_2 (kf_10_0 ka0))) g17); rwa [show (a0 + 2) + 2 + 4 * a1 = a0 + 4 * a1 + 4 from by omega] at q9
        refine lv_iload_n hx hb dX10_rule_36 rfl (lv_at hl 2 rfl) ?_
        refine lv_iload_n hx hb dX10_rule_37 rfl (lv_at hl 3 rfl) ?_
        obtain ⟨g19, h⟩ := h
        refine j_conti (va_runV (As := [.int (J a2), .int (J a3)]) (rest := []) ⟨hx, hb, hml, hown, hts⟩ (A_X9_ruleNumber l k18 g19) (cwV 2 hts (gj_V ml_RX10_178 i_X9_ruleNumber s_X9_ruleNumber n_RX9 k_X9_ruleNumber) rfl rfl rfl (by decide +kernel) ⟨by exact Nat.le_of_ble_eq_true rfl, by exact Nat.le_of_ble_eq_true rfl⟩) (j_preV hK hSX hG (ci := 8) rfl k18 (by decide)) rfl rfl hl.1 rfl (lv_room (Nat.le_of_ble_eq_true rfl)) dX10_rule_38 ⟨by exact Nat.le_of_ble_eq_true rfl, by exact Nat.le_of_ble_eq_true rfl⟩) hG (c2 := 0) (s2 := 0) ⟨by exact Nat.le_of_ble_eq_true rfl, by exact Nat.le_of_ble_eq_true rfl⟩ (fun z20 M21 ez20 H locs hG => ?_)
        obtain ⟨ez20, eM21⟩ := ez20
        subst ez20
        rw [eM21] at hG
        rw [hQf]
        exact vx_ret (j_ireti hx hb hr hlocks hG h (by decide) dX10_rule_41)
      · refine j_contxv (vx_runS (As := [.int (J x13)]) (rest := []) ⟨hx, hb, hml, hown, hts⟩ (A_X10_needArgument l hst h) (va_cwS 1 hts (gj_S ml_RX10_72 i_X10_needArgument n_RX10 k_X10_needArgument) rfl rfl rfl (by decide +kernel) ⟨by exact Nat.le_of_ble_eq_true rfl, by exact Nat.le_of_ble_eq_true rfl⟩) (j_preS hK hSX hG) rfl rfl hl.1 rfl (lv_room (Nat.le_of_ble_eq_true rfl)) dX10_rule_24 ⟨by exact Nat.le_of_ble_eq_true rfl, by exact Nat.le_of_ble_eq_true rfl⟩) hG (c2 := 1) (s2 := 6) ⟨by exact Nat.le_of_ble_eq_true rfl, by exact Nat.le_of_ble_eq_true rfl⟩ (fun x M h ce q H locs hG h1 h2 h3 => ?_) (fun M h H locs hG => h.elim)
        rw [hQf]
        exact j_xout hlocks hout hG h h1 h2 h3 (by decide)
    obtain ⟨K25, hK25, h⟩ := h
    have jK25 : K25 → ∀ (H : Heap) (locs : List Loc), GM D cy o M s.heap H locs → ∀ ls : Array Slot, lv_has ls 4 [(0, .ref (rA o a0)), (1, .int (J a1)), (2, .int (J a2)), (3, .int (J a3))] → W p l e rm_X10_rule s m args below meth c H locs 0 0 Qf (F0 m 23 ls []) := by
      intro hcK25 H locs hG ls hl
      have h := hK25 hcK25
      refine lv_iconst (v := J 0) hx hb dX10_rule_23 (by decide) ?_
      exact jK14 0 h H locs hG ls (lv_sub hl [0, 1, 2, 3] rfl)
    obtain ⟨g27, h⟩ := h
    refine j_if_lt (tgt := 23) hx hb dX10_rule_10 (by decide) g27 (fun c26 => ?_) (fun c26 => ?_)
    · have h := h.1 c26
      exact jK25 h H locs hG ls (lv_sub hl [0, 1, 2, 3] rfl)
    · have h := h.2 c26
      refine lv_iload_n hx hb dX10_rule_13 rfl (lv_at hl 3 rfl) ?_
      refine lv_bipush (v := J 7) hx hb dX10_rule_14 (by decide) ?_
      refine j_icmp_ge (tgt := 23) hx hb dX10_rule_16 (by decide) g27 (by decide) (fun c28 => ?_) (fun c28 => ?_)
      · have h := h.1 c28
        exact jK25 h H locs hG ls (lv_sub hl [0, 1, 2, 3] rfl)
      · have h := h.2 c28
        refine lv_iconst (v := J 1) hx hb dX10_rule_19 (by decide) ?_
        refine lv_goto (tgt := 24) hx hb dX10_rule_20 (by decide) ?_
        exact jK14 1 h H locs hG ls (lv_sub hl [0, 1, 2, 3] rfl)
  · refine j_contxv (vx_runS (As := [.int (J (pf_X10_ruleIndexFault M a0 a1 a2))]) (rest := []) ⟨hx, hb, hml, hown, hts⟩ (A_X10_refuse l hst h) (va_cwS 1 hts (gj_S ml_RX10_107 i_X10_refuse n_RX10 k_X10_refuse) rfl rfl rfl (by decide +kernel) ⟨by exact Nat.le_of_ble_eq_true rfl, by exact Nat.le_of_ble_eq_true rfl⟩) (j_preS hK hSX hG) rfl rfl hl.1 rfl (lv_room (Nat.le_of_ble_eq_true rfl)) dX10_rule_6 ⟨by exact Nat.le_of_ble_eq_true rfl, by exact Nat.le_of_ble_eq_true rfl⟩) hG (c2 := 1) (s2 := 6) ⟨by exact Nat.le_of_ble_eq_true rfl, by exact Nat.le_of_ble_eq_true rfl⟩ (fun x M h ce q H locs hG h1 h2 h3 => ?_) (fun M h H locs hG => h.elim)
    rw [hQf]
    exact j_xout hlocks hout hG h h1 h2 h3 (by decide)

abbrev rm_X9_dayOfEvent : Room := { frames := 2, cells := 0, slots := 0, locals := 47 }
set_option maxRecDepth 100000 in
set_option maxHeartbeats 4000000 in
theorem A_X9_dayOfEvent (l : Launch) {D : va_G} {cy : Nat → ClassId} {o : Nat} {sK sV : Nat → Nat} {M : jT} {a0 : Int} {a1 : Int} {a2 : Int} (ka0 : kd a0 = 9) (h : pg_X9_dayOfEvent M a0 a1 a2) : CoI l yX9_dayOfEvent (wj yX9_dayOfEvent cX9_dayOfEvent 4 (some .int)) rm_X9_dayOfEvent D cy o sK sV M [.ref (rA o a0), .int (J a1), .int (J a2)] (fun z M9 => z = pf_X9_dayOfEvent M a0 a1 a2 ∧ M9 = M) := by
  refine j_ofW (cc := cX9_dayOfEvent) (maxL := 4) (ret := (some .int)) (by decide) rfl (Nat.le_of_ble_eq_true rfl) ?_
  intro p e s m args below meth c hx hb hr hlocks hml hown hts hK hSX H locs hG ls hl Qf hQf
  have hown : s.vm.findClass RX9 = some m.cls := hown
  have hl : lv_has ls 4 [(0, .ref (rA o a0)), (1, .int (J a1)), (2, .int (J a2))] := hl
  have w_fl_RX9_9 := hts _ (List.mem_cons_of_mem _ fl_RX9_9)
  unfold pg_X9_dayOfEvent at h
  refine lv_iload_n hx hb dX9_dayOfEvent_0 rfl (lv_at hl 1 rfl) ?_
  refine lv_bipush (v := J 7) hx hb dX9_dayOfEvent_1 (by decide) ?_
  refine j_imul hx hb dX9_dayOfEvent_3 ?_
  refine lv_istore_n (lv' := [(3, .int (J (a1 * 7))), (0, .ref (rA o a0)), (1, .int (J a1)), (2, .int (J a2))]) hx hb dX9_dayOfEvent_4 rfl hl (by decide) rfl (fun ls hl => ?_)
  refine lv_iload_n hx hb dX9_dayOfEvent_5 rfl (lv_at hl 3 rfl) ?_
  refine lv_aload_n hx hb dX9_dayOfEvent_6 rfl (lv_at hl 1 rfl) ?_
  refine j_getr hx hb hts hown hK hG (k := a0) (fun w h => List.mem_cons_of_mem _ (u_X9 w h)) (ci := 8) rfl ka0 3 (k2 := a0 + 1) (by decide) (by show a0 + (1 : Int) = a0 + 1; omega) w_fl_RX9_9 dX9_dayOfEvent_7 ?_
  refine lv_iload_n hx hb dX9_dayOfEvent_10 rfl (lv_at hl 0 rfl) ?_
  refine lv_iconst (v := J 0) hx hb dX9_dayOfEvent_11 (by decide) ?_
  refine j_iadd hx hb dX9_dayOfEvent_12 ?_
  obtain ⟨g1, h⟩ := h
  refine j_iald hx hb hK hG (n := 56) (kf_9_3 ka0) (by decide) g1 dX9_dayOfEvent_13 ?_
  obtain ⟨g3, h⟩ := h
  obtain ⟨g4, h⟩ := h
  refine j_icmp_lt (tgt := 29) hx hb dX9_dayOfEvent_14 (by decide) g3 g4 (fun c2 => ?_) (fun c2 => ?_)
  · have h := h.1 c2
    refine lv_iconst (v := J (-1)) hx hb dX9_dayOfEvent_29 (by decide) ?_
    rw [hQf]
    exact j_ireti hx hb hr hlocks hG ⟨(by unfold pf_X9_dayOfEvent; rw [if_pos c2]), rfl⟩ (by decide) dX9_dayOfEvent_30
  · have h := h.2 c2
    refine lv_iload_n hx hb dX9_dayOfEvent_17 rfl (lv_at hl 3 rfl) ?_
    refine lv_aload_n hx hb dX9_dayOfEvent_18 rfl (lv_at hl 1 rfl) ?_
    refine j_getr hx hb hts hown hK hG (k := a0) (fun w h => List.mem_cons_of_mem _ (u_X9 w h)) (ci := 8) rfl ka0 3 (k2 := a0 + 1) (by decide) (by show a0 + (1 : Int) = a0 + 1; omega) w_fl_RX9_9 dX9_dayOfEvent_19 ?_
    refine lv_iload_n hx hb dX9_dayOfEvent_22 rfl (lv_at hl 0 rfl) ?_
    refine lv_iconst (v := J 1) hx hb dX9_dayOfEvent_23 (by decide) ?_
    refine j_iadd hx hb dX9_dayOfEvent_24 ?_
    obtain ⟨g5, h⟩ := h
    refine j_iald hx hb hK hG (n := 56) (kf_9_3 ka0) (by decide) g5 dX9_dayOfEvent_25 ?_
    obtain ⟨g7, h⟩ := h
    refine j_icmp_le (tgt := 31) hx hb dX9_dayOfEvent_26 (by decide) g3 g7 (fun c6 => ?_) (fun c6 => ?_)
    · have h := h.1 c6
      refine lv_iload_n hx hb dX9_dayOfEvent_31 rfl (lv_at hl 3 rfl) ?_
      refine lv_aload_n hx hb dX9_dayOfEvent_32 rfl (lv_at hl 1 rfl) ?_
      refine j_getr hx hb hts hown hK hG (k := a0) (fun w h => List.mem_cons_of_mem _ (u_X9 w h)) (ci := 8) rfl ka0 3 (k2 := a0 + 1) (by decide) (by show a0 + (1 : Int) = a0 + 1; omega) w_fl_RX9_9 dX9_dayOfEvent_33 ?_
      refine lv_iload_n hx hb dX9_dayOfEvent_36 rfl (lv_at hl 0 rfl) ?_
      refine lv_iconst (v := J 2) hx hb dX9_dayOfEvent_37 (by decide) ?_
      refine j_iadd hx hb dX9_dayOfEvent_38 ?_
      obtain ⟨g8, h⟩ := h
      refine j_iald hx hb hK hG (n := 56) (kf_9_3 ka0) (by decide) g8 dX9_dayOfEvent_39 ?_
      refine lv_aload_n hx hb dX9_dayOfEvent_40 rfl (lv_at hl 1 rfl) ?_
      refine j_getr hx hb hts hown hK hG (k := a0) (fun w h => List.mem_cons_of_mem _ (u_X9 w h)) (ci := 8) rfl ka0 3 (k2 := a0 + 1) (by decide) (by show a0 + (1 : Int) = a0 + 1; omega) w_fl_RX9_9 dX9_dayOfEvent_41 ?_
      refine lv_iload_n hx hb dX9_dayOfEvent_44 rfl (lv_at hl 0 rfl) ?_
      refine lv_iconst (v := J 3) hx hb dX9_dayOfEvent_45 (by decide) ?_
      refine j_iadd hx hb dX9_dayOfEvent_46 ?_
      obtain ⟨g9, h⟩ := h
      refine j_iald hx hb hK hG (n := 56) (kf_9_3 ka0) (by decide) g9 dX9_dayOfEvent_47 ?_
      obtain ⟨g10, h⟩ := h
      refine j_conti (va_runS (As := [.int (J a2), .int (J (M (a0 + 1) ((a1 * 7) + 2))), .int (J (M (a0 + 1) ((a1 * 7) + 3)))]) (rest := []) ⟨hx, hb, hml, hown, hts⟩ (A_X1_dayOfDate l g10) (va_cwS 3 hts (gj_S ml_RX9_37 i_X1_dayOfDate n_RX1 k_X1_dayOfDate) rfl rfl rfl (by decide +kernel) ⟨by exact Nat.le_of_ble_eq_true rfl, by exact Nat.le_of_ble_eq_true rfl⟩) (j_preS hK hSX hG) rfl rfl hl.1 rfl (lv_room (Nat.le_of_ble_eq_true rfl)) dX9_dayOfEvent_48 ⟨by exact Nat.le_of_ble_eq_true rfl, by exact Nat.le_of_ble_eq_true rfl⟩) hG (c2 := 0) (s2 := 0) ⟨by exact Nat.le_of_ble_eq_true rfl, by exact Nat.le_of_ble_eq_true rfl⟩ (fun z11 M12 ez11 H locs hG => ?_)
      obtain ⟨ez11, eM12⟩ := ez11
      subst ez11
      rw [eM12] at hG
      rw [hQf]
      exact j_ireti hx hb hr hlocks hG ⟨(by unfold pf_X9_dayOfEvent; rw [if_neg (show ¬ (a2 < M (a0 + 1) ((a1 * 7) + 0)) from by omega), if_pos c6]), rfl⟩ (by decide) dX9_dayOfEvent_51
    · have h := h.2 c6
      refine lv_iconst (v := J (-1)) hx hb dX9_dayOfEvent_29 (by decide) ?_
      rw [hQf]
      exact j_ireti hx hb hr hlocks hG ⟨(by unfold pf_X9_dayOfEvent; rw [if_neg (show ¬ (a2 < M (a0 + 1) ((a1 * 7) + 0)) from by omega), if_neg (show ¬ (a2 ≤ M (a0 + 1) ((a1 * 7) + 1)) from by omega)]), rfl⟩ (by decide) dX9_dayOfEvent_30

abbrev rom_X10_needElement : Room := { frames := 0, cells := 0, slots := 0, locals := 0 }
set_option maxRecDepth 100000 in
set_option maxHeartbeats 4000000 in
theorem Ao_X10_needElement (l : Launch) {D : va_G} {cy : Nat → ClassId} {o : Nat} {sK sV : Nat → Nat} {M : jT} {a0 : Int} {Q : Prop} (h : wo_X10_needElement M a0 Q) : CoV l yX10_needElement (wj yX10_needElement cX10_needElement 1 none) rom_X10_needElement D cy o sK sV M [.int (J a0)] (fun M9 => Q ∧ M9 = M) := by
  refine j_ofW (cc := cX10_needElement) (maxL := 1) (ret := none) (by decide) rfl (Nat.le_of_ble_eq_true rfl) ?_
  intro p e s m args below meth c hx hb hr hlocks hml hown hts hK hSX H locs hG ls hl Qf hQf
  have hown : s.vm.findClass RX10 = some m.cls := hown
  have hl : lv_has ls 1 [(0, .int (J a0))] := hl
  unfold wo_X10_needElement at h
  refine lv_iload_n hx hb dX10_needElement_0 rfl (lv_at hl 0 rfl) ?_
  obtain ⟨g2, h⟩ := h
  refine j_if_ne (tgt := 15) hx hb dX10_needElement_1 (by decide) g2 (fun c1 => ?_) (fun c1 => ?_)
  · have h := h.1 c1
    rw [hQf]
    exact j_vret hx hb hr hlocks hG ⟨h, rfl⟩ (by decide) dX10_needElement_15
  · have h := h.2 c1
    exact h.elim
abbrev rm_X10_needElement : Room := { frames := 6, cells := 1, slots := 6, locals := 90 }
set_option maxRecDepth 100000 in
set_option maxHeartbeats 4000000 in
theorem A_X10_needElement (l : Launch) (hst : l.stackTraces = false) {D : va_G} {cy : Nat → ClassId} {o : Nat} {sK sV : Nat → Nat} {M : jT} {a0 : Int} {Q : jT → Prop} {X : Nat → jT → Prop} (h : wp_X10_needElement M a0 Q X) : CxV l yX10_needElement (wj yX10_needElement cX10_needElement 1 none) rm_X10_needElement D cy o sK sV M [.int (J a0)] Q X := by
  refine j_ofWx (cc := cX10_needElement) (maxL := 1) (ret := none) (by decide) rfl (Nat.le_of_ble_eq_true rfl) ?_
  intro p e s m args below meth c hx hb hr hlocks hout hml hown hts hK hSX H locs hsz hG ls hl Qf hQf
  have hown : s.vm.findClass RX10 = some m.cls := hown
  have hl : lv_has ls 1 [(0, .int (J a0))] := hl
  unfold wp_X10_needElement at h
  refine lv_iload_n hx hb dX10_needElement_0 rfl (lv_at hl 0 rfl) ?_
  obtain ⟨g2, h⟩ := h
  refine j_if_ne (tgt := 15) hx hb dX10_needElement_1 (by decide) g2 (fun c1 => ?_) (fun c1 => ?_)
  · have h := h.1 c1
    rw [hQf]
    exact vx_ret (j_vret hx hb hr hlocks hG h (by decide) dX10_needElement_15)
  · have h := h.2 c1
    rw [hQf]
    exact j_throwN (xn := 4) (si := 4) hx hb hst hts hown hSX hG (hml.trans hl.1.symm) (by decide +kernel) (List.mem_cons_of_mem _ xl_RX10_464) (List.mem_cons_of_mem _ xi_4) rfl (fun w h => List.mem_cons_of_mem _ (xg_RX10_468 w h)) xb_RX10_468 xo_RX10_468 rfl dX10_needElement_4 dX10_needElement_7 dX10_needElement_8 dX10_needElement_11 dX10_needElement_14 hout (by decide) (by exact Nat.le_of_ble_eq_true rfl) (by decide) (by decide) hlocks h (by decide)

abbrev rom_X10_eventDay : Room := { frames := 3, cells := 0, slots := 0, locals := 70 }
set_option maxRecDepth 100000 in
set_option maxHeartbeats 4000000 in
theorem Ao_X10_eventDay (l : Launch) {D : va_G} {cy : Nat → ClassId} {o : Nat} {sK sV : Nat → Nat} {M : jT} {a0 : Int} {a1 : Int} {a2 : Int} {a3 : Int} (ka0 : kd a0 = 10) {Q : Int → Prop} (h : wo_X10_eventDay M a0 a1 a2 a3 Q) : CoI l yX10_eventDay (wj yX10_eventDay cX10_eventDay 5 (some .int)) rom_X10_eventDay D cy o sK sV M [.ref (rA o a0), .int (J a1), .int (J a2), .int (J a3)] (fun z M9 => Q z ∧ M9 = M) := by
  refine j_ofW (cc := cX10_eventDay) (maxL := 5) (ret := (some .int)) (by decide) rfl (Nat.le_of_ble_eq_true rfl) ?_
  intro p e s m args below meth c hx hb hr hlocks hml hown hts hK hSX H locs hG ls hl Qf hQf
  have hown : s.vm.findClass RX10 = some m.cls := hown
  have hl : lv_has ls 5 [(0, .ref (rA o a0)), (1, .int (J a1)), (2, .int (J a2)), (3, .int (J a3))] := hl
  have w_fl_RX10_12 := hts _ (List.mem_cons_of_mem _ fl_RX10_12)
  have w_fl_RX10_140 := hts _ (List.mem_cons_of_mem _ fl_RX10_140)
  unfold wo_X10_eventDay at h
  refine lv_aload_n hx hb dX10_eventDay_0 rfl (lv_at hl 0 rfl) ?_
  refine lv_iload_n hx hb dX10_eventDay_1 rfl (lv_at hl 1 rfl) ?_
  refine lv_iload_n hx hb dX10_eventDay_2 rfl (lv_at hl 2 rfl) ?_
  obtain ⟨g1, h⟩ := h
  refine j_conti (va_runV (As := [.int (J a1), .int (J a2)]) (rest := []) ⟨hx, hb, hml, hown, hts⟩ (A_X10_ruleIndexFault l ka0 g1) (cwV 2 hts (gj_V ml_RX10_131 i_X10_ruleIndexFault s_X10_ruleIndexFault n_RX10 k_X10_ruleIndexFault) rfl rfl rfl (by decide +kernel) ⟨by exact Nat.le_of_ble_eq_true rfl, by exact Nat.le_of_ble_eq_true rfl⟩) (j_preV hK hSX hG (ci := 9) rfl ka0 (by decide)) rfl rfl hl.1 rfl (lv_room (Nat.le_of_ble_eq_true rfl)) dX10_eventDay_3 ⟨by exact Nat.le_of_ble_eq_true rfl, by exact Nat.le_of_ble_eq_true rfl⟩) hG (c2 := 0) (s2 := 0) ⟨by exact Nat.le_of_ble_eq_true rfl, by exact Nat.le_of_ble_eq_true rfl⟩ (fun z2 M3 ez2 H locs hG => ?_)
  obtain ⟨ez2, eM3⟩ := ez2
  subst ez2
  rw [eM3] at hG
  refine j_contv (va_runS (As := [.int (J (pf_X10_ruleIndexFault M a0 a1 a2))]) (rest := []) ⟨hx, hb, hml, hown, hts⟩ (Ao_X10_refuse l h) (va_cwS 1 hts (gj_S ml_RX10_107 i_X10_refuse n_RX10 k_X10_refuse) rfl rfl rfl (by decide +kernel) ⟨by exact Nat.le_of_ble_eq_true rfl, by exact Nat.le_of_ble_eq_true rfl⟩) (j_preS hK hSX hG) rfl rfl hl.1 rfl (lv_room (Nat.le_of_ble_eq_true rfl)) dX10_eventDay_6 ⟨by exact Nat.le_of_ble_eq_true rfl, by exact Nat.le_of_ble_eq_true rfl⟩) hG (c2 := 0) (s2 := 0) ⟨by exact Nat.le_of_ble_eq_true rfl, by exact Nat.le_of_ble_eq_true rfl⟩ (fun M5 h H locs hG => ?_)
  obtain ⟨h, eM5⟩ := h
  rw [eM5] at hG
  refine lv_iload_n hx hb dX10_eventDay_9 rfl (lv_at hl 3 rfl) ?_
  obtain ⟨g6, h⟩ := h
  refine j_conti (va_runS (As := [.int (J a3)]) (rest := []) ⟨hx, hb, hml, hown, hts⟩ (A_X10_isYear l g6) (va_cwS 1 hts (gj_S ml_RX10_65 i_X10_isYear n_RX10 k_X10_isYear) rfl rfl rfl (by decide +kernel) ⟨by exact Nat.le_of_ble_eq_true rfl, by exact Nat.le_of_ble_eq_true rfl⟩) (j_preS hK hSX hG) rfl rfl hl.1 rfl (lv_room (Nat.le_of_ble_eq_true rfl)) dX10_eventDay_10 ⟨by exact Nat.le_of_ble_eq_true rfl, by exact Nat.le_of_ble_eq_true rfl⟩) hG (c2 := 0) (s2 := 0) ⟨by exact Nat.le_of_ble_eq_true rfl, by exact Nat.le_of_ble_eq_true rfl⟩ (fun z7 M8 ez7 H locs hG => ?_)
  obtain ⟨ez7, eM8⟩ := ez7
  subst ez7
  rw [eM8] at hG
  refine j_contv (va_runS (As := [.int (J (b2i (pb_X10_isYear a3)))]) (rest := []) ⟨hx, hb, hml, hown, hts⟩ (Ao_X10_needArgument l h) (va_cwS 1 hts (gj_S ml_RX10_72 i_X10_needArgument n_RX10 k_X10_needArgument) rfl rfl rfl (by decide +kernel) ⟨by exact Nat.le_of_ble_eq_true rfl, by exact Nat.le_of_ble_eq_true rfl⟩) (j_preS hK hSX hG) rfl rfl hl.1 rfl (lv_room (Nat.le_of_ble_eq_true rfl)) dX10_eventDay_13 ⟨by exact Nat.le_of_ble_eq_true rfl, by exact Nat.le_of_ble_eq_true rfl⟩) hG (c2 := 0) (s2 := 0) ⟨by exact Nat.le_of_ble_eq_true rfl, by exact Nat.le_of_ble_eq_true rfl⟩ (fun M10 h H locs hG => ?_)
  obtain ⟨h, eM10⟩ := h
  rw [eM10] at hG
  refine lv_aload_n hx hb dX10_eventDay_16 rfl (lv_at hl 0 rfl) ?_
  refine j_getr hx hb hts hown hK hG (k := a0) (fun w h => List.mem_cons_of_mem _ (u_X10 w h)) (ci := 9) rfl ka0 0 (k2 := a0 + 1) (by decide) (by show a0 + (1 : Int) = a0 + 1; omega) w_fl_RX10_12 dX10_eventDay_17 ?_
  refine j_getr hx hb hts hown hK hG (k := a0 + 1) (fun w h => List.mem_cons_of_mem _ (u_X0 w h)) (ci := 0) rfl (kf_10_0 ka0) 2 (k2 := a0 + 2) (by decide) (by show (a0 + 1) + (1 : Int) = a0 + 2; omega) w_fl_RX10_140 dX10_eventDay_20 ?_
  refine lv_iload_n hx hb dX10_eventDay_23 rfl (lv_at hl 1 rfl) ?_
  obtain ⟨g11, h⟩ := h
  refine j_aald hx hb hK hG (t := 20) (t0 := 3) (k2 := a0 + 4 * a1 + 4) (show kd (a0 + 2) = 20 from (show (a0 + 1) + 1 = a0 + 2 from by omega) ▸ (kf_1_2 (kf_10_0 ka0))) (by decide) rfl g11 (by simp only [ra_20]; omega) dX10_eventDay_24 ?_
  have k12 : kd (a0 + 4 * a1 + 4) = 9 := by have q9 := (ka_20 (show kd (a0 + 2) = 20 from (show (a0 + 1) + 1 = a0 + 2 from by omega) ▸ (kf_1_2 (kf_10_0 ka0))) g11); rwa [show (a0 + 2) + 2 + 4 * a1 = a0 + 4 * a1 + 4 from by omega] at q9
  refine lv_iload_n hx hb dX10_eventDay_25 rfl (lv_at hl 2 rfl) ?_
  refine lv_iload_n hx hb dX10_eventDay_26 rfl (lv_at hl 3 rfl) ?_
  obtain ⟨g13, h⟩ := h
  refine j_conti (va_runV (As := [.int (J a2), .int (J a3)]) (rest := []) ⟨hx, hb, hml, hown, hts⟩ (A_X9_dayOfEvent l k12 g13) (cwV 2 hts (gj_V ml_RX10_181 i_X9_dayOfEvent s_X9_dayOfEvent n_RX9 k_X9_dayOfEvent) rfl rfl rfl (by decide +kernel) ⟨by exact Nat.le_of_ble_eq_true rfl, by exact Nat.le_of_ble_eq_true rfl⟩) (j_preV hK hSX hG (ci := 8) rfl k12 (by decide)) rfl rfl hl.1 rfl (lv_room (Nat.le_of_ble_eq_true rfl)) dX10_eventDay_27 ⟨by exact Nat.le_of_ble_eq_true rfl, by exact Nat.le_of_ble_eq_true rfl⟩) hG (c2 := 0) (s2 := 0) ⟨by exact Nat.le_of_ble_eq_true rfl, by exact Nat.le_of_ble_eq_true rfl⟩ (fun z14 M15 ez14 H locs hG => ?_)
  obtain ⟨ez14, eM15⟩ := ez14
  subst ez14
  rw [eM15] at hG
  refine j_topi (fun x16 ex16 => ?_)
  have h := h x16 ex16
  refine lv_istore (lv' := [(4, .int (J x16)), (0, .ref (rA o a0)), (1, .int (J a1)), (2, .int (J a2)), (3, .int (J a3))]) hx hb dX10_eventDay_30 hl (by decide) rfl (fun ls hl => ?_)
  refine lv_iload hx hb dX10_eventDay_32 (lv_at hl 0 rfl) ?_
  obtain ⟨hg, h⟩ := h
  have jK20 : ∀ x19 : Int, x19 = b2i (0 ≤ x16) → ∀ (H : Heap) (locs : List Loc), GM D cy o M s.heap H locs → ∀ ls : Array Slot, lv_has ls 5 [(4, .int (J x16))] → W p l e rom_X10_eventDay s m args below meth c H locs 0 0 Qf (F0 m 42 ls [.int (J x19)]) := by
    intro x19 ex19 H locs hG ls hl
    subst ex19
    refine j_contv (va_runS (As := [.int (J (b2i (0 ≤ x16)))]) (rest := []) ⟨hx, hb, hml, hown, hts⟩ (Ao_X10_needElement l h) (va_cwS 1 hts (gj_S ml_RX10_184 i_X10_needElement n_RX10 k_X10_needElement) rfl rfl rfl (by decide +kernel) ⟨by exact Nat.le_of_ble_eq_true rfl, by exact Nat.le_of_ble_eq_true rfl⟩) (j_preS hK hSX hG) rfl rfl hl.1 rfl (lv_room (Nat.le_of_ble_eq_true rfl)) dX10_eventDay_42 ⟨by exact Nat.le_of_ble_eq_true rfl, by exact Nat.le_of_ble_eq_true rfl⟩) hG (c2 := 0) (s2 := 0) ⟨by exact Nat.le_of_ble_eq_true rfl, by exact Nat.le_of_ble_eq_true rfl⟩ (fun M24 h H locs hG => ?_)
    obtain ⟨h, eM24⟩ := h
    rw [eM24] at hG
    refine lv_iload hx hb dX10_eventDay_45 (lv_at hl 0 rfl) ?_
    rw [hQf]
    exact j_ireti hx hb hr hlocks hG ⟨h, rfl⟩ (by decide) dX10_eventDay_47
  have h := hg
  obtain ⟨g22, h⟩ := h
  refine j_if_lt (tgt := 41) hx hb dX10_eventDay_34 (by decide) g22 (fun c21 => ?_) (fun c21 => ?_)
  · have h := h.1 c21
    refine lv_iconst (v := J 0) hx hb dX10_eventDay_41 (by decide) ?_
    exact jK20 0 (b2i_iff0 (iff_of_false (show ¬ (0 ≤ x16) from by omega) id)) H locs hG ls (lv_sub hl [0] rfl)
  · have h := h.2 c21
    refine lv_iconst (v := J 1) hx hb dX10_eventDay_37 (by decide) ?_
    refine lv_goto (tgt := 42) hx hb dX10_eventDay_38 (by decide) ?_
    exact jK20 1 (b2i_iff1 (iff_of_true c21 trivial)) H locs hG ls (lv_sub hl [0] rfl)
abbrev rm_X10_eventDay : Room := { frames := 8, cells := 1, slots := 6, locals := 130 }
set_option maxRecDepth 100000 in
set_option maxHeartbeats 4000000 in
theorem A_X10_eventDay (l : Launch) (hst : l.stackTraces = false) {D : va_G} {cy : Nat → ClassId} {o : Nat} {sK sV : Nat → Nat} {M : jT} {a0 : Int} {a1 : Int} {a2 : Int} {a3 : Int} (ka0 : kd a0 = 10) {Q : Int → jT → Prop} {X : Nat → jT → Prop} (h : wp_X10_eventDay M a0 a1 a2 a3 Q X) : CxI l yX10_eventDay (wj yX10_eventDay cX10_eventDay 5 (some .int)) rm_X10_eventDay D cy o sK sV M [.ref (rA o a0), .int (J a1), .int (J a2), .int (J a3)] Q X := by
  refine j_ofWx (cc := cX10_eventDay) (maxL := 5) (ret := (some .int)) (by decide) rfl (Nat.le_of_ble_eq_true rfl) ?_
  intro p e s m args below meth c hx hb hr hlocks hout hml hown hts hK hSX H locs hsz hG ls hl Qf hQf
  have hown : s.vm.findClass RX10 = some m.cls := hown
  have hl : lv_has ls 5 [(0, .ref (rA o a0)), (1, .int (J a1)), (2, .int (J a2)), (3, .int (J a3))] := hl
  have w_fl_RX10_12 := hts _ (List.mem_cons_of_mem _ fl_RX10_12)
  have w_fl_RX10_140 := hts _ (List.mem_cons_of_mem _ fl_RX10_140)
  unfold wp_X10_eventDay at h
  refine lv_aload_n hx hb dX10_eventDay_0 rfl (lv_at hl 0 rfl) ?_
  refine lv_iload_n hx hb dX10_eventDay_1 rfl (lv_at hl 1 rfl) ?_
  refine lv_iload_n hx hb dX10_eventDay_2 rfl (lv_at hl 2 rfl) ?_
  obtain ⟨g1, h⟩ := h
  refine j_conti (va_runV (As := [.int (J a1), .int (J a2)]) (rest := []) ⟨hx, hb, hml, hown, hts⟩ (A_X10_ruleIndexFault l ka0 g1) (cwV 2 hts (gj_V ml_RX10_131 i_X10_ruleIndexFault s_X10_ruleIndexFault n_RX10 k_X10_ruleIndexFault) rfl rfl rfl (by decide +kernel) ⟨by exact Nat.le_of_ble_eq_true rfl, by exact Nat.le_of_ble_eq_true rfl⟩) (j_preV hK hSX hG (ci := 9) rfl ka0 (by decide)) rfl rfl hl.1 rfl (lv_room (Nat.le_of_ble_eq_true rfl)) dX10_eventDay_3 ⟨by exact Nat.le_of_ble_eq_true rfl, by exact Nat.le_of_ble_eq_true rfl⟩) hG (c2 := 0) (s2 := 0) ⟨by exact Nat.le_of_ble_eq_true rfl, by exact Nat.le_of_ble_eq_true rfl⟩ (fun z2 M3 ez2 H locs hG => ?_)
  obtain ⟨ez2, eM3⟩ := ez2
  subst ez2
  rw [eM3] at hG
  rcases h with h | h
  · refine j_contv (va_runS (As := [.int (J (pf_X10_ruleIndexFault M a0 a1 a2))]) (rest := []) ⟨hx, hb, hml, hown, hts⟩ (Ao_X10_refuse l h) (va_cwS 1 hts (gj_S ml_RX10_107 i_X10_refuse n_RX10 k_X10_refuse) rfl rfl rfl (by decide +kernel) ⟨by exact Nat.le_of_ble_eq_true rfl, by exact Nat.le_of_ble_eq_true rfl⟩) (j_preS hK hSX hG) rfl rfl hl.1 rfl (lv_room (Nat.le_of_ble_eq_true rfl)) dX10_eventDay_6 ⟨by exact Nat.le_of_ble_eq_true rfl, by exact Nat.le_of_ble_eq_true rfl⟩) hG (c2 := 0) (s2 := 0) ⟨by exact Nat.le_of_ble_eq_true rfl, by exact Nat.le_of_ble_eq_true rfl⟩ (fun M5 h H locs hG => ?_)
    obtain ⟨h, eM5⟩ := h
    rw [eM5] at hG
    refine lv_iload_n hx hb dX10_eventDay_9 rfl (lv_at hl 3 rfl) ?_
    obtain ⟨g6, h⟩ := h
    refine j_conti (va_runS (As := [.int (J a3)]) (rest := []) ⟨hx, hb, hml, hown, hts⟩ (A_X10_isYear l g6) (va_cwS 1 hts (gj_S ml_RX10_65 i_X10_isYear n_RX10 k_X10_isYear) rfl rfl rfl (by decide +kernel) ⟨by exact Nat.le_of_ble_eq_true rfl, by exact Nat.le_of_ble_eq_true rfl⟩) (j_preS hK hSX hG) rfl rfl hl.1 rfl (lv_room (Nat.le_of_ble_eq_true rfl)) dX10_eventDay_10 ⟨by exact Nat.le_of_ble_eq_true rfl, by exact Nat.le_of_ble_eq_true rfl⟩) hG (c2 := 0) (s2 := 0) ⟨by exact Nat.le_of_ble_eq_true rfl, by exact Nat.le_of_ble_eq_true rfl⟩ (fun z7 M8 ez7 H locs hG => ?_)
    obtain ⟨ez7, eM8⟩ := ez7
    subst ez7
    rw [eM8] at hG
    rcases h with h | h
    · refine j_contv (va_runS (As := [.int (J (b2i (pb_X10_isYear a3)))]) (rest := []) ⟨hx, hb, hml, hown, hts⟩ (Ao_X10_needArgument l h) (va_cwS 1 hts (gj_S ml_RX10_72 i_X10_needArgument n_RX10 k_X10_needArgument) rfl rfl rfl (by decide +kernel) ⟨by exact Nat.le_of_ble_eq_true rfl, by exact Nat.le_of_ble_eq_true rfl⟩) (j_preS hK hSX hG) rfl rfl hl.1 rfl (lv_room (Nat.le_of_ble_eq_true rfl)) dX10_eventDay_13 ⟨by exact Nat.le_of_ble_eq_true rfl, by exact Nat.le_of_ble_eq_true rfl⟩) hG (c2 := 0) (s2 := 0) ⟨by exact Nat.le_of_ble_eq_true rfl, by exact Nat.le_of_ble_eq_true rfl⟩ (fun M10 h H locs hG => ?_)
      obtain ⟨h, eM10⟩ := h
      rw [eM10] at hG
      refine lv_aload_n hx hb dX10_eventDay_16 rfl (lv_at hl 0 rfl) ?_
      refine j_getr hx hb hts hown hK hG (k := a0) (fun w h => List.mem_cons_of_mem _ (u_X10 w h)) (ci := 9) rfl ka0 0 (k2 := a0 + 1) (by decide) (by show a0 + (1 : Int) = a0 + 1; omega) w_fl_RX10_12 dX10_eventDay_17 ?_
      refine j_getr hx hb hts hown hK hG (k := a0 + 1) (fun w h => List.mem_cons_of_mem _ (u_X0 w h)) (ci := 0) rfl (kf_10_0 ka0) 2 (k2 := a0 + 2) (by decide) (by show (a0 + 1) + (1 : Int) = a0 + 2; omega) w_fl_RX10_140 dX10_eventDay_20 ?_
      refine lv_iload_n hx hb dX10_eventDay_23 rfl (lv_at hl 1 rfl) ?_
      obtain ⟨g11, h⟩ := h
      refine j_aald hx hb hK hG (t := 20) (t0 := 3) (k2 := a0 + 4 * a1 + 4) (show kd (a0 + 2) = 20 from (show (a0 + 1) + 1 = a0 + 2 from by omega) ▸ (kf_1_2 (kf_10_0 ka0))) (by decide) rfl g11 (by simp only [ra_20]; omega) dX10_eventDay_24 ?_
      have k12 : kd (a0 + 4 * a1 + 4) = 9 := by have q9 := (ka_20 (show kd (a0 + 2) = 20 from (show (a0 + 1) + 1 = a0 + 2 from by omega) ▸ (kf_1_2 (kf_10_0 ka0))) g11); rwa [show (a0 + 2) + 2 + 4 * a1 = a0 + 4 * a1 + 4 from by omega] at q9
      refine lv_iload_n hx hb dX10_eventDay_25 rfl (lv_at hl 2 rfl) ?_
      refine lv_iload_n hx hb dX10_eventDay_26 rfl (lv_at hl 3 rfl) ?_
      obtain ⟨g13, h⟩ := h
      refine j_conti (va_runV (As := [.int (J a2), .int (J a3)]) (rest := []) ⟨hx, hb, hml, hown, hts⟩ (A_X9_dayOfEvent l k12 g13) (cwV 2 hts (gj_V ml_RX10_181 i_X9_dayOfEvent s_X9_dayOfEvent n_RX9 k_X9_dayOfEvent) rfl rfl rfl (by decide +kernel) ⟨by exact Nat.le_of_ble_eq_true rfl, by exact Nat.le_of_ble_eq_true rfl⟩) (j_preV hK hSX hG (ci := 8) rfl k12 (by decide)) rfl rfl hl.1 rfl (lv_room (Nat.le_of_ble_eq_true rfl)) dX10_eventDay_27 ⟨by exact Nat.le_of_ble_eq_true rfl, by exact Nat.le_of_ble_eq_true rfl⟩) hG (c2 := 0) (s2 := 0) ⟨by exact Nat.le_of_ble_eq_true rfl, by exact Nat.le_of_ble_eq_true rfl⟩ (fun z14 M15 ez14 H locs hG => ?_)
      obtain ⟨ez14, eM15⟩ := ez14
      subst ez14
      rw [eM15] at hG
      refine j_topi (fun x16 ex16 => ?_)
      have h := h x16 ex16
      refine lv_istore (lv' := [(4, .int (J x16)), (0, .ref (rA o a0)), (1, .int (J a1)), (2, .int (J a2)), (3, .int (J a3))]) hx hb dX10_eventDay_30 hl (by decide) rfl (fun ls hl => ?_)
      refine lv_iload hx hb dX10_eventDay_32 (lv_at hl 0 rfl) ?_
      obtain ⟨hg, h⟩ := h
      have jK20 : ∀ x19 : Int, x19 = b2i (0 ≤ x16) → ∀ (H : Heap) (locs : List Loc), GM D cy o M s.heap H locs → ∀ ls : Array Slot, lv_has ls 5 [(4, .int (J x16))] → W p l e rm_X10_eventDay s m args below meth c H locs 0 0 Qf (F0 m 42 ls [.int (J x19)]) := by
        intro x19 ex19 H locs hG ls hl
        subst ex19
        rcases h with h | h
        · refine j_contv (va_runS (As := [.int (J (b2i (0 ≤ x16)))]) (rest := []) ⟨hx, hb, hml, hown, hts⟩ (Ao_X10_needElement l h) (va_cwS 1 hts (gj_S ml_RX10_184 i_X10_needElement n_RX10 k_X10_needElement) rfl rfl rfl (by decide +kernel) ⟨by exact Nat.le_of_ble_eq_true rfl, by exact Nat.le_of_ble_eq_true rfl⟩) (j_preS hK hSX hG) rfl rfl hl.1 rfl (lv_room (Nat.le_of_ble_eq_true rfl)) dX10_eventDay_42 ⟨by exact Nat.le_of_ble_eq_true rfl, by exact Nat.le_of_ble_eq_true rfl⟩) hG (c2 := 0) (s2 := 0) ⟨by exact Nat.le_of_ble_eq_true rfl, by exact Nat.le_of_ble_eq_true rfl⟩ (fun M24 h H locs hG => ?_)
          obtain ⟨h, eM24⟩ := h
          rw [eM24] at hG
          refine lv_iload hx hb dX10_eventDay_45 (lv_at hl 0 rfl) ?_
          rw [hQf]
          exact vx_ret (j_ireti hx hb hr hlocks hG h (by decide) dX10_eventDay_47)
        · refine j_contxv (vx_runS (As := [.int (J (b2i (0 ≤ x16)))]) (rest := []) ⟨hx, hb, hml, hown, hts⟩ (A_X10_needElement l hst h) (va_cwS 1 hts (gj_S ml_RX10_184 i_X10_needElement n_RX10 k_X10_needElement) rfl rfl rfl (by decide +kernel) ⟨by exact Nat.le_of_ble_eq_true rfl, by exact Nat.le_of_ble_eq_true rfl⟩) (j_preS hK hSX hG) rfl rfl hl.1 rfl (lv_room (Nat.le_of_ble_eq_true rfl)) dX10_eventDay_42 ⟨by exact Nat.le_of_ble_eq_true rfl, by exact Nat.le_of_ble_eq_true rfl⟩) hG (c2 := 1) (s2 := 6) ⟨by exact Nat.le_of_ble_eq_true rfl, by exact Nat.le_of_ble_eq_true rfl⟩ (fun x M h ce q H locs hG h1 h2 h3 => ?_) (fun M h H locs hG => h.elim)
          rw [hQf]
          exact j_xout hlocks hout hG h h1 h2 h3 (by decide)
      have h := hg
      obtain ⟨g22, h⟩ := h
      refine j_if_lt (tgt := 41) hx hb dX10_eventDay_34 (by decide) g22 (fun c21 => ?_) (fun c21 => ?_)
      · have h := h.1 c21
        refine lv_iconst (v := J 0) hx hb dX10_eventDay_41 (by decide) ?_
        exact jK20 0 (b2i_iff0 (iff_of_false (show ¬ (0 ≤ x16) from by omega) id)) H locs hG ls (lv_sub hl [0] rfl)
      · have h := h.2 c21
        refine lv_iconst (v := J 1) hx hb dX10_eventDay_37 (by decide) ?_
        refine lv_goto (tgt := 42) hx hb dX10_eventDay_38 (by decide) ?_
        exact jK20 1 (b2i_iff1 (iff_of_true c21 trivial)) H locs hG ls (lv_sub hl [0] rfl)
    · refine j_contxv (vx_runS (As := [.int (J (b2i (pb_X10_isYear a3)))]) (rest := []) ⟨hx, hb, hml, hown, hts⟩ (A_X10_needArgument l hst h) (va_cwS 1 hts (gj_S ml_RX10_72 i_X10_needArgument n_RX10 k_X10_needArgument) rfl rfl rfl (by decide +kernel) ⟨by exact Nat.le_of_ble_eq_true rfl, by exact Nat.le_of_ble_eq_true rfl⟩) (j_preS hK hSX hG) rfl rfl hl.1 rfl (lv_room (Nat.le_of_ble_eq_true rfl)) dX10_eventDay_13 ⟨by exact Nat.le_of_ble_eq_true rfl, by exact Nat.le_of_ble_eq_true rfl⟩) hG (c2 := 1) (s2 := 6) ⟨by exact Nat.le_of_ble_eq_true rfl, by exact Nat.le_of_ble_eq_true rfl⟩ (fun x M h ce q H locs hG h1 h2 h3 => ?_) (fun M h H locs hG => h.elim)
      rw [hQf]
      exact j_xout hlocks hout hG h h1 h2 h3 (by decide)
  · refine j_contxv (vx_runS (As := [.int (J (pf_X10_ruleIndexFault M a0 a1 a2))]) (rest := []) ⟨hx, hb, hml, hown, hts⟩ (A_X10_refuse l hst h) (va_cwS 1 hts (gj_S ml_RX10_107 i_X10_refuse n_RX10 k_X10_refuse) rfl rfl rfl (by decide +kernel) ⟨by exact Nat.le_of_ble_eq_true rfl, by exact Nat.le_of_ble_eq_true rfl⟩) (j_preS hK hSX hG) rfl rfl hl.1 rfl (lv_room (Nat.le_of_ble_eq_true rfl)) dX10_eventDay_6 ⟨by exact Nat.le_of_ble_eq_true rfl, by exact Nat.le_of_ble_eq_true rfl⟩) hG (c2 := 1) (s2 := 6) ⟨by exact Nat.le_of_ble_eq_true rfl, by exact Nat.le_of_ble_eq_true rfl⟩ (fun x M h ce q H locs hG h1 h2 h3 => ?_) (fun M h H locs hG => h.elim)
    rw [hQf]
    exact j_xout hlocks hout hG h h1 h2 h3 (by decide)

abbrev rom_X10_transition : Room := { frames := 4, cells := 0, slots := 0, locals := 99 }
set_option maxRecDepth 100000 in
set_option maxHeartbeats 4000000 in
theorem Ao_X10_transition (l : Launch) {D : va_G} {cy : Nat → ClassId} {o : Nat} {sK sV : Nat → Nat} {M : jT} {a0 : Int} {a1 : Int} {a2 : Int} {a3 : Int} (ka0 : kd a0 = 10) {Q : Int → jT → Prop} (h : wo_X10_transition M a0 a1 a2 a3 Q) : CoI l yX10_transition (wj yX10_transition cX10_transition 5 (some .int)) rom_X10_transition D cy o sK sV M [.ref (rA o a0), .int (J a1), .int (J a2), .int (J a3)] Q := by
  refine j_ofW (cc := cX10_transition) (maxL := 5) (ret := (some .int)) (by decide) rfl (Nat.le_of_ble_eq_true rfl) ?_
  intro p e s m args below meth c hx hb hr hlocks hml hown hts hK hSX H locs hG ls hl Qf hQf
  have hown : s.vm.findClass RX10 = some m.cls := hown
  have hl : lv_has ls 5 [(0, .ref (rA o a0)), (1, .int (J a1)), (2, .int (J a2)), (3, .int (J a3))] := hl
  have w_fl_RX10_160 := hts _ (List.mem_cons_of_mem _ fl_RX10_160)
  have w_fl_RX10_187 := hts _ (List.mem_cons_of_mem _ fl_RX10_187)
  have w_fl_RX10_191 := hts _ (List.mem_cons_of_mem _ fl_RX10_191)
  have w_fl_RX10_194 := hts _ (List.mem_cons_of_mem _ fl_RX10_194)
  unfold wo_X10_transition at h
  refine lv_aload_n hx hb dX10_transition_0 rfl (lv_at hl 0 rfl) ?_
  refine lv_iload_n hx hb dX10_transition_1 rfl (lv_at hl 1 rfl) ?_
  refine j_contv (va_runV (As := [.int (J a1)]) (rest := []) ⟨hx, hb, hml, hown, hts⟩ (Ao_X10_needZone l ka0 h) (cwV 1 hts (gj_V ml_RX10_137 i_X10_needZone s_X10_needZone n_RX10 k_X10_needZone) rfl rfl rfl (by decide +kernel) ⟨by exact Nat.le_of_ble_eq_true rfl, by exact Nat.le_of_ble_eq_true rfl⟩) (j_preV hK hSX hG (ci := 9) rfl ka0 (by decide)) rfl rfl hl.1 rfl (lv_room (Nat.le_of_ble_eq_true rfl)) dX10_transition_2 ⟨by exact Nat.le_of_ble_eq_true rfl, by exact Nat.le_of_ble_eq_true rfl⟩) hG (c2 := 0) (s2 := 0) ⟨by exact Nat.le_of_ble_eq_true rfl, by exact Nat.le_of_ble_eq_true rfl⟩ (fun M2 h H locs hG => ?_)
  obtain ⟨h, eM2⟩ := h
  rw [eM2] at hG
  refine lv_aload_n hx hb dX10_transition_5 rfl (lv_at hl 0 rfl) ?_
  refine lv_iload_n hx hb dX10_transition_6 rfl (lv_at hl 1 rfl) ?_
  refine j_contr (va_runV (As := [.int (J a1)]) (rest := []) ⟨hx, hb, hml, hown, hts⟩ (A_X10_compiled l ka0 h) (cwV 1 hts (gj_V ml_RX10_144 i_X10_compiled s_X10_compiled n_RX10 k_X10_compiled) rfl rfl rfl (by decide +kernel) ⟨by exact Nat.le_of_ble_eq_true rfl, by exact Nat.le_of_ble_eq_true rfl⟩) (j_preV hK hSX hG (ci := 9) rfl ka0 (by decide)) rfl rfl hl.1 rfl (lv_room (Nat.le_of_ble_eq_true rfl)) dX10_transition_7 ⟨by exact Nat.le_of_ble_eq_true rfl, by exact Nat.le_of_ble_eq_true rfl⟩) hG (c2 := 0) (s2 := 0) ⟨by exact Nat.le_of_ble_eq_true rfl, by exact Nat.le_of_ble_eq_true rfl⟩ (fun k3 M4 h hk3 H locs hG => ?_)
  refine lv_astore (lv' := [(4, .ref (rA o k3)), (0, .ref (rA o a0)), (1, .int (J a1)), (2, .int (J a2)), (3, .int (J a3))]) hx hb dX10_transition_10 hl (by decide) rfl (fun ls hl => ?_)
  refine lv_iload_n hx hb dX10_transition_12 rfl (lv_at hl 3 rfl) ?_
  obtain ⟨K15, hK15, h⟩ := h
  have jK15 : ∀ (x14 : Int), K15 x14 → ∀ (H : Heap) (locs : List Loc), GM D cy o M4 s.heap H locs → ∀ ls : Array Slot, lv_has ls 5 [(2, .int (J a2)), (3, .int (J a3)), (4, .ref (rA o k3))] → W p l e rom_X10_transition s m args below meth c H locs 0 0 Qf (F0 m 30 ls [.int (J x14)]) := by
    intro x14 hcK15 H locs hG ls hl
    have h := hK15 x14 hcK15
    refine j_contv (va_runS (As := [.int (J x14)]) (rest := []) ⟨hx, hb, hml, hown, hts⟩ (Ao_X10_needElement l h) (va_cwS 1 hts (gj_S ml_RX10_184 i_X10_needElement n_RX10 k_X10_needElement) rfl rfl rfl (by decide +kernel) ⟨by exact Nat.le_of_ble_eq_true rfl, by exact Nat.le_of_ble_eq_true rfl⟩) (j_preS hK hSX hG) rfl rfl hl.1 rfl (lv_room (Nat.le_of_ble_eq_true rfl)) dX10_transition_30 ⟨by exact Nat.le_of_ble_eq_true rfl, by exact Nat.le_of_ble_eq_true rfl⟩) hG (c2 := 0) (s2 := 0) ⟨by exact Nat.le_of_ble_eq_true rfl, by exact Nat.le_of_ble_eq_true rfl⟩ (fun M17 h H locs hG => ?_)
    obtain ⟨h, eM17⟩ := h
    rw [eM17] at hG
    refine lv_iload_n hx hb dX10_transition_33 rfl (lv_at hl 1 rfl) ?_
    obtain ⟨K26, hK26, h⟩ := h
    have jK26 : ∀ (x25 : Int), K26 x25 → ∀ (H : Heap) (locs : List Loc), GM D cy o M4 s.heap H locs → ∀ ls : Array Slot, lv_has ls 5 [(2, .int (J a2)), (3, .int (J a3)), (4, .ref (rA o k3))] → W p l e rom_X10_transition s m args below meth c H locs 0 0 Qf (F0 m 47 ls [.int (J x25)]) := by
      intro x25 hcK26 H locs hG ls hl
      have h := hK26 x25 hcK26
      refine j_contv (va_runS (As := [.int (J x25)]) (rest := []) ⟨hx, hb, hml, hown, hts⟩ (Ao_X10_needArgument l h) (va_cwS 1 hts (gj_S ml_RX10_72 i_X10_needArgument n_RX10 k_X10_needArgument) rfl rfl rfl (by decide +kernel) ⟨by exact Nat.le_of_ble_eq_true rfl, by exact Nat.le_of_ble_eq_true rfl⟩) (j_preS hK hSX hG) rfl rfl hl.1 rfl (lv_room (Nat.le_of_ble_eq_true rfl)) dX10_transition_47 ⟨by exact Nat.le_of_ble_eq_true rfl, by exact Nat.le_of_ble_eq_true rfl⟩) hG (c2 := 0) (s2 := 0) ⟨by exact Nat.le_of_ble_eq_true rfl, by exact Nat.le_of_ble_eq_true rfl⟩ (fun M28 h H locs hG => ?_)
      obtain ⟨h, eM28⟩ := h
      rw [eM28] at hG
      refine lv_iload_n hx hb dX10_transition_50 rfl (lv_at hl 1 rfl) ?_
      obtain ⟨g29, h⟩ := h
      rcases em_eqI (a3) 0 with c30 | c30_0
      · refine j_tsw hx hb dX10_transition_51 g29 (k := 0) (tgt := 80) c30 ⟨by decide, by decide, rfl⟩ (by decide) ?_
        have h := h.1 c30
        refine lv_aload hx hb dX10_transition_80 (lv_at hl 2 rfl) ?_
        refine j_getr hx hb hts hown hK hG (k := k3) (fun w h => List.mem_cons_of_mem _ (u_X7 w h)) (ci := 6) rfl hk3 6 (k2 := k3 + 1) (by decide) (by show k3 + (1 : Int) = k3 + 1; omega) w_fl_RX10_187 dX10_transition_82 ?_
        refine lv_iload_n hx hb dX10_transition_85 rfl (lv_at hl 0 rfl) ?_
        obtain ⟨g31, h⟩ := h
        refine j_iald hx hb hK hG (n := 260) (kf_7_6 hk3) (by decide) g31 dX10_transition_86 ?_
        rw [hQf]
        exact j_ireti hx hb hr hlocks hG h (by decide) dX10_transition_87
      · rcases em_eqI (a3) 1 with c30 | c30_1
        · refine j_tsw hx hb dX10_transition_51 g29 (k := 1) (tgt := 88) c30 ⟨by decide, by decide, rfl⟩ (by decide) ?_
          have h := h.2.1 c30
          refine lv_aload hx hb dX10_transition_88 (lv_at hl 2 rfl) ?_
          refine lv_iload_n hx hb dX10_transition_90 rfl (lv_at hl 0 rfl) ?_
          obtain ⟨g32, h⟩ := h
          refine j_conti (va_runV (As := [.int (J a2)]) (rest := []) ⟨hx, hb, hml, hown, hts⟩ (A_X7_offsetIn l hk3 g32) (cwV 1 hts (gj_V ml_RX10_169 i_X7_offsetIn s_X7_offsetIn n_RX7 k_X7_offsetIn) rfl rfl rfl (by decide +kernel) ⟨by exact Nat.le_of_ble_eq_true rfl, by exact Nat.le_of_ble_eq_true rfl⟩) (j_preV hK hSX hG (ci := 6) rfl hk3 (by decide)) rfl rfl hl.1 rfl (lv_room (Nat.le_of_ble_eq_true rfl)) dX10_transition_91 ⟨by exact Nat.le_of_ble_eq_true rfl, by exact Nat.le_of_ble_eq_true rfl⟩) hG (c2 := 0) (s2 := 0) ⟨by exact Nat.le_of_ble_eq_true rfl, by exact Nat.le_of_ble_eq_true rfl⟩ (fun z33 M34 ez33 H locs hG => ?_)
          obtain ⟨ez33, eM34⟩ := ez33
          subst ez33
          rw [eM34] at hG
          rw [hQf]
          exact j_ireti hx hb hr hlocks hG h (by decide) dX10_transition_94
        · rcases em_eqI (a3) 2 with c30 | c30_2
          · refine j_tsw hx hb dX10_transition_51 g29 (k := 2) (tgt := 95) c30 ⟨by decide, by decide, rfl⟩ (by decide) ?_
            have h := h.2.2.1 c30
            refine lv_aload hx hb dX10_transition_95 (lv_at hl 2 rfl) ?_
            refine lv_iload_n hx hb dX10_transition_97 rfl (lv_at hl 0 rfl) ?_
            refine lv_iconst (v := J 1) hx hb dX10_transition_98 (by decide) ?_
            refine j_iadd hx hb dX10_transition_99 ?_
            obtain ⟨g35, h⟩ := h
            refine j_conti (va_runV (As := [.int (J (a2 + 1))]) (rest := []) ⟨hx, hb, hml, hown, hts⟩ (A_X7_offsetIn l hk3 g35) (cwV 1 hts (gj_V ml_RX10_169 i_X7_offsetIn s_X7_offsetIn n_RX7 k_X7_offsetIn) rfl rfl rfl (by decide +kernel) ⟨by exact Nat.le_of_ble_eq_true rfl, by exact Nat.le_of_ble_eq_true rfl⟩) (j_preV hK hSX hG (ci := 6) rfl hk3 (by decide)) rfl rfl hl.1 rfl (lv_room (Nat.le_of_ble_eq_true rfl)) dX10_transition_100 ⟨by exact Nat.le_of_ble_eq_true rfl, by exact Nat.le_of_ble_eq_true rfl⟩) hG (c2 := 0) (s2 := 0) ⟨by exact Nat.le_of_ble_eq_true rfl, by exact Nat.le_of_ble_eq_true rfl⟩ (fun z36 M37 ez36 H locs hG => ?_)
            obtain ⟨ez36, eM37⟩ := ez36
            subst ez36
            rw [eM37] at hG
            rw [hQf]
            exact j_ireti hx hb hr hlocks hG h (by decide) dX10_transition_103
          · rcases em_eqI (a3) 3 with c30 | c30_3
            · refine j_tsw hx hb dX10_transition_51 g29 (k := 3) (tgt := 104) c30 ⟨by decide, by decide, rfl⟩ (by decide) ?_
              have h := h.2.2.2.1 c30
              refine lv_aload hx hb dX10_transition_104 (lv_at hl 2 rfl) ?_
              refine j_getr hx hb hts hown hK hG (k := k3) (fun w h => List.mem_cons_of_mem _ (u_X7 w h)) (ci := 6) rfl hk3 7 (k2 := k3 + 2) (by decide) (by show k3 + (2 : Int) = k3 + 2; omega) w_fl_RX10_191 dX10_transition_106 ?_
              refine lv_iload_n hx hb dX10_transition_109 rfl (lv_at hl 0 rfl) ?_
              obtain ⟨g38, h⟩ := h
              refine j_iald hx hb hK hG (n := 260) (kf_7_7 hk3) (by decide) g38 dX10_transition_110 ?_
              rw [hQf]
              exact j_ireti hx hb hr hlocks hG h (by decide) dX10_transition_111
            · have c30 : a3 ≠ 0 ∧ a3 ≠ 1 ∧ a3 ≠ 2 ∧ a3 ≠ 3 := ⟨c30_0, c30_1, c30_2, c30_3⟩
              have h := h.2.2.2.2 c30
              refine j_tswd hx hb dX10_transition_51 g29 (tgt := 112) (by omega) (by decide) ?_
              refine lv_aload hx hb dX10_transition_112 (lv_at hl 2 rfl) ?_
              refine j_getr hx hb hts hown hK hG (k := k3) (fun w h => List.mem_cons_of_mem _ (u_X7 w h)) (ci := 6) rfl hk3 8 (k2 := k3 + 3) (by decide) (by show k3 + (3 : Int) = k3 + 3; omega) w_fl_RX10_194 dX10_transition_114 ?_
              refine lv_iload_n hx hb dX10_transition_117 rfl (lv_at hl 0 rfl) ?_
              obtain ⟨g39, h⟩ := h
              refine j_iald hx hb hK hG (n := 260) (kf_7_8 hk3) (by decide) g39 dX10_transition_118 ?_
              rw [hQf]
              exact j_ireti hx hb hr hlocks hG h (by decide) dX10_transition_119
    obtain ⟨K43, hK43, h⟩ := h
    have jK43 : K43 → ∀ (H : Heap) (locs : List Loc), GM D cy o M4 s.heap H locs → ∀ ls : Array Slot, lv_has ls 5 [(2, .int (J a2)), (3, .int (J a3)), (4, .ref (rA o k3))] → W p l e rom_X10_transition s m args below meth c H locs 0 0 Qf (F0 m 46 ls []) := by
      intro hcK43 H locs hG ls hl
      have h := hK43 hcK43
      refine lv_iconst (v := J 0) hx hb dX10_transition_46 (by decide) ?_
      exact jK26 0 h H locs hG ls (lv_sub hl [0, 1, 2] rfl)
    obtain ⟨g45, h⟩ := h
    refine j_if_lt (tgt := 46) hx hb dX10_transition_34 (by decide) g45 (fun c44 => ?_) (fun c44 => ?_)
    · have h := h.1 c44
      exact jK43 h H locs hG ls (lv_sub hl [0, 1, 2] rfl)
    · have h := h.2 c44
      refine lv_iload_n hx hb dX10_transition_37 rfl (lv_at hl 1 rfl) ?_
      refine lv_iconst (v := J 4) hx hb dX10_transition_38 (by decide) ?_
      refine j_icmp_gt (tgt := 46) hx hb dX10_transition_39 (by decide) g45 (by decide) (fun c46 => ?_) (fun c46 => ?_)
      · have h := h.1 c46
        exact jK43 h H locs hG ls (lv_sub hl [0, 1, 2] rfl)
      · have h := h.2 c46
        refine lv_iconst (v := J 1) hx hb dX10_transition_42 (by decide) ?_
        refine lv_goto (tgt := 47) hx hb dX10_transition_43 (by decide) ?_
        exact jK26 1 h H locs hG ls (lv_sub hl [0, 1, 2] rfl)
  obtain ⟨K51, hK51, h⟩ := h
  have jK51 : K51 → ∀ (H : Heap) (locs : List Loc), GM D cy o M4 s.heap H locs → ∀ ls : Array Slot, lv_has ls 5 [(2, .int (J a2)), (3, .int (J a3)), (4, .ref (rA o k3))] → W p l e rom_X10_transition s m args below meth c H locs 0 0 Qf (F0 m 29 ls []) := by
    intro hcK51 H locs hG ls hl
    have h := hK51 hcK51
    refine lv_iconst (v := J 0) hx hb dX10_transition_29 (by decide) ?_
    exact jK15 0 h H locs hG ls (lv_sub hl [0, 1, 2] rfl)
  obtain ⟨g53, h⟩ := h
  refine j_if_lt (tgt := 29) hx hb dX10_transition_13 (by decide) g53 (fun c52 => ?_) (fun c52 => ?_)
  · have h := h.1 c52
    exact jK51 h H locs hG ls (lv_sub hl [3, 4, 0] rfl)
  · have h := h.2 c52
    refine lv_iload_n hx hb dX10_transition_16 rfl (lv_at hl 3 rfl) ?_
    refine lv_aload hx hb dX10_transition_17 (lv_at hl 0 rfl) ?_
    refine j_geti hx hb hts hown hK hG (k := k3) (fun w h => List.mem_cons_of_mem _ (u_X7 w h)) (ci := 6) rfl hk3 2 (by decide) (jz := 2) rfl w_fl_RX10_160 dX10_transition_19 ?_
    obtain ⟨g55, h⟩ := h
    refine j_icmp_ge (tgt := 29) hx hb dX10_transition_22 (by decide) g53 g55 (fun c54 => ?_) (fun c54 => ?_)
    · have h := h.1 c54
      exact jK51 h H locs hG ls (lv_sub hl [3, 4, 0] rfl)
    · have h := h.2 c54
      refine lv_iconst (v := J 1) hx hb dX10_transition_25 (by decide) ?_
      refine lv_goto (tgt := 30) hx hb dX10_transition_26 (by decide) ?_
      exact jK15 1 h H locs hG ls (lv_sub hl [3, 4, 0] rfl)
abbrev rm_X10_transition : Room := { frames := 8, cells := 1, slots := 6, locals := 131 }
set_option maxRecDepth 100000 in
set_option maxHeartbeats 4000000 in
theorem A_X10_transition (l : Launch) (hst : l.stackTraces = false) {D : va_G} {cy : Nat → ClassId} {o : Nat} {sK sV : Nat → Nat} {M : jT} {a0 : Int} {a1 : Int} {a2 : Int} {a3 : Int} (ka0 : kd a0 = 10) {Q : Int → jT → Prop} {X : Nat → jT → Prop} (h : wp_X10_transition M a0 a1 a2 a3 Q X) : CxI l yX10_transition (wj yX10_transition cX10_transition 5 (some .int)) rm_X10_transition D cy o sK sV M [.ref (rA o a0), .int (J a1), .int (J a2), .int (J a3)] Q X := by
  refine j_ofWx (cc := cX10_transition) (maxL := 5) (ret := (some .int)) (by decide) rfl (Nat.le_of_ble_eq_true rfl) ?_
  intro p e s m args below meth c hx hb hr hlocks hout hml hown hts hK hSX H locs hsz hG ls hl Qf hQf
  have hown : s.vm.findClass RX10 = some m.cls := hown
  have hl : lv_has ls 5 [(0, .ref (rA o a0)), (1, .int (J a1)), (2, .int (J a2)), (3, .int (J a3))] := hl
  have w_fl_RX10_160 := hts _ (List.mem_cons_of_mem _ fl_RX10_160)
  have w_fl_RX10_187 := hts _ (List.mem_cons_of_mem _ fl_RX10_187)
  have w_fl_RX10_191 := hts _ (List.mem_cons_of_mem _ fl_RX10_191)
  have w_fl_RX10_194 := hts _ (List.mem_cons_of_mem _ fl_RX10_194)
  unfold wp_X10_transition at h
  refine lv_aload_n hx hb dX10_transition_0 rfl (lv_at hl 0 rfl) ?_
  refine lv_iload_n hx hb dX10_transition_1 rfl (lv_at hl 1 rfl) ?_
  rcases h with h | h
  · refine j_contv (va_runV (As := [.int (J a1)]) (rest := []) ⟨hx, hb, hml, hown, hts⟩ (Ao_X10_needZone l ka0 h) (cwV 1 hts (gj_V ml_RX10_137 i_X10_needZone s_X10_needZone n_RX10 k_X10_needZone) rfl rfl rfl (by decide +kernel) ⟨by exact Nat.le_of_ble_eq_true rfl, by exact Nat.le_of_ble_eq_true rfl⟩) (j_preV hK hSX hG (ci := 9) rfl ka0 (by decide)) rfl rfl hl.1 rfl (lv_room (Nat.le_of_ble_eq_true rfl)) dX10_transition_2 ⟨by exact Nat.le_of_ble_eq_true rfl, by exact Nat.le_of_ble_eq_true rfl⟩) hG (c2 := 0) (s2 := 0) ⟨by exact Nat.le_of_ble_eq_true rfl, by exact Nat.le_of_ble_eq_true rfl⟩ (fun M2 h H locs hG => ?_)
    obtain ⟨h, eM2⟩ := h
    rw [eM2] at hG
    refine lv_aload_n hx hb dX10_transition_5 rfl (lv_at hl 0 rfl) ?_
    refine lv_iload_n hx hb dX10_transition_6 rfl (lv_at hl 1 rfl) ?_
    refine j_contr (va_runV (As := [.int (J a1)]) (rest := []) ⟨hx, hb, hml, hown, hts⟩ (A_X10_compiled l ka0 h) (cwV 1 hts (gj_V ml_RX10_144 i_X10_compiled s_X10_compiled n_RX10 k_X10_compiled) rfl rfl rfl (by decide +kernel) ⟨by exact Nat.le_of_ble_eq_true rfl, by exact Nat.le_of_ble_eq_true rfl⟩) (j_preV hK hSX hG (ci := 9) rfl ka0 (by decide)) rfl rfl hl.1 rfl (lv_room (Nat.le_of_ble_eq_true rfl)) dX10_transition_7 ⟨by exact Nat.le_of_ble_eq_true rfl, by exact Nat.le_of_ble_eq_true rfl⟩) hG (c2 := 0) (s2 := 0) ⟨by exact Nat.le_of_ble_eq_true rfl, by exact Nat.le_of_ble_eq_true rfl⟩ (fun k3 M4 h hk3 H locs hG => ?_)
    refine lv_astore (lv' := [(4, .ref (rA o k3)), (0, .ref (rA o a0)), (1, .int (J a1)), (2, .int (J a2)), (3, .int (J a3))]) hx hb dX10_transition_10 hl (by decide) rfl (fun ls hl => ?_)
    refine lv_iload_n hx hb dX10_transition_12 rfl (lv_at hl 3 rfl) ?_
    obtain ⟨K15, hK15, h⟩ := h
    have jK15 : ∀ (x14 : Int), K15 x14 → ∀ (H : Heap) (locs : List Loc), GM D cy o M4 s.heap H locs → ∀ ls : Array Slot, lv_has ls 5 [(2, .int (J a2)), (3, .int (J a3)), (4, .ref (rA o k3))] → W p l e rm_X10_transition s m args below meth c H locs 0 0 Qf (F0 m 30 ls [.int (J x14)]) := by
      intro x14 hcK15 H locs hG ls hl
      have h := hK15 x14 hcK15
      rcases h with h | h
      · refine j_contv (va_runS (As := [.int (J x14)]) (rest := []) ⟨hx, hb, hml, hown, hts⟩ (Ao_X10_needElement l h) (va_cwS 1 hts (gj_S ml_RX10_184 i_X10_needElement n_RX10 k_X10_needElement) rfl rfl rfl (by decide +kernel) ⟨by exact Nat.le_of_ble_eq_true rfl, by exact Nat.le_of_ble_eq_true rfl⟩) (j_preS hK hSX hG) rfl rfl hl.1 rfl (lv_room (Nat.le_of_ble_eq_true rfl)) dX10_transition_30 ⟨by exact Nat.le_of_ble_eq_true rfl, by exact Nat.le_of_ble_eq_true rfl⟩) hG (c2 := 0) (s2 := 0) ⟨by exact Nat.le_of_ble_eq_true rfl, by exact Nat.le_of_ble_eq_true rfl⟩ (fun M17 h H locs hG => ?_)
        obtain ⟨h, eM17⟩ := h
        rw [eM17] at hG
        refine lv_iload_n hx hb dX10_transition_33 rfl (lv_at hl 1 rfl) ?_
        obtain ⟨K26, hK26, h⟩ := h
        have jK26 : ∀ (x25 : Int), K26 x25 → ∀ (H : Heap) (locs : List Loc), GM D cy o M4 s.heap H locs → ∀ ls : Array Slot, lv_has ls 5 [(2, .int (J a2)), (3, .int (J a3)), (4, .ref (rA o k3))] → W p l e rm_X10_transition s m args below meth c H locs 0 0 Qf (F0 m 47 ls [.int (J x25)]) := by
          intro x25 hcK26 H locs hG ls hl
          have h := hK26 x25 hcK26
          rcases h with h | h
          · refine j_contv (va_runS (As := [.int (J x25)]) (rest := []) ⟨hx, hb, hml, hown, hts⟩ (Ao_X10_needArgument l h) (va_cwS 1 hts (gj_S ml_RX10_72 i_X10_needArgument n_RX10 k_X10_needArgument) rfl rfl rfl (by decide +kernel) ⟨by exact Nat.le_of_ble_eq_true rfl, by exact Nat.le_of_ble_eq_true rfl⟩) (j_preS hK hSX hG) rfl rfl hl.1 rfl (lv_room (Nat.le_of_ble_eq_true rfl)) dX10_transition_47 ⟨by exact Nat.le_of_ble_eq_true rfl, by exact Nat.le_of_ble_eq_true rfl⟩) hG (c2 := 0) (s2 := 0) ⟨by exact Nat.le_of_ble_eq_true rfl, by exact Nat.le_of_ble_eq_true rfl⟩ (fun M28 h H locs hG => ?_)
            obtain ⟨h, eM28⟩ := h
            rw [eM28] at hG
            refine lv_iload_n hx hb dX10_transition_50 rfl (lv_at hl 1 rfl) ?_
            obtain ⟨g29, h⟩ := h
            rcases em_eqI (a3) 0 with c30 | c30_0
            · refine j_tsw hx hb dX10_transition_51 g29 (k := 0) (tgt := 80) c30 ⟨by decide, by decide, rfl⟩ (by decide) ?_
              have h := h.1 c30
              refine lv_aload hx hb dX10_transition_80 (lv_at hl 2 rfl) ?_
              refine j_getr hx hb hts hown hK hG (k := k3) (fun w h => List.mem_cons_of_mem _ (u_X7 w h)) (ci := 6) rfl hk3 6 (k2 := k3 + 1) (by decide) (by show k3 + (1 : Int) = k3 + 1; omega) w_fl_RX10_187 dX10_transition_82 ?_
              refine lv_iload_n hx hb dX10_transition_85 rfl (lv_at hl 0 rfl) ?_
              obtain ⟨g31, h⟩ := h
              refine j_iald hx hb hK hG (n := 260) (kf_7_6 hk3) (by decide) g31 dX10_transition_86 ?_
              rw [hQf]
              exact vx_ret (j_ireti hx hb hr hlocks hG h (by decide) dX10_transition_87)
            · rcases em_eqI (a3) 1 with c30 | c30_1
              · refine j_tsw hx hb dX10_transition_51 g29 (k := 1) (tgt := 88) c30 ⟨by decide, by decide, rfl⟩ (by decide) ?_
                have h := h.2.1 c30
                refine lv_aload hx hb dX10_transition_88 (lv_at hl 2 rfl) ?_
                refine lv_iload_n hx hb dX10_transition_90 rfl (lv_at hl 0 rfl) ?_
                obtain ⟨g32, h⟩ := h
                refine j_conti (va_runV (As := [.int (J a2)]) (rest := []) ⟨hx, hb, hml, hown, hts⟩ (A_X7_offsetIn l hk3 g32) (cwV 1 hts (gj_V ml_RX10_169 i_X7_offsetIn s_X7_offsetIn n_RX7 k_X7_offsetIn) rfl rfl rfl (by decide +kernel) ⟨by exact Nat.le_of_ble_eq_true rfl, by exact Nat.le_of_ble_eq_true rfl⟩) (j_preV hK hSX hG (ci := 6) rfl hk3 (by decide)) rfl rfl hl.1 rfl (lv_room (Nat.le_of_ble_eq_true rfl)) dX10_transition_91 ⟨by exact Nat.le_of_ble_eq_true rfl, by exact Nat.le_of_ble_eq_true rfl⟩) hG (c2 := 0) (s2 := 0) ⟨by exact Nat.le_of_ble_eq_true rfl, by exact Nat.le_of_ble_eq_true rfl⟩ (fun z33 M34 ez33 H locs hG => ?_)
                obtain ⟨ez33, eM34⟩ := ez33
                subst ez33
                rw [eM34] at hG
                rw [hQf]
                exact vx_ret (j_ireti hx hb hr hlocks hG h (by decide) dX10_transition_94)
              · rcases em_eqI (a3) 2 with c30 | c30_2
                · refine j_tsw hx hb dX10_transition_51 g29 (k := 2) (tgt := 95) c30 ⟨by decide, by decide, rfl⟩ (by decide) ?_
                  have h := h.2.2.1 c30
                  refine lv_aload hx hb dX10_transition_95 (lv_at hl 2 rfl) ?_
                  refine lv_iload_n hx hb dX10_transition_97 rfl (lv_at hl 0 rfl) ?_
                  refine lv_iconst (v := J 1) hx hb dX10_transition_98 (by decide) ?_
                  refine j_iadd hx hb dX10_transition_99 ?_
                  obtain ⟨g35, h⟩ := h
                  refine j_conti (va_runV (As := [.int (J (a2 + 1))]) (rest := []) ⟨hx, hb, hml, hown, hts⟩ (A_X7_offsetIn l hk3 g35) (cwV 1 hts (gj_V ml_RX10_169 i_X7_offsetIn s_X7_offsetIn n_RX7 k_X7_offsetIn) rfl rfl rfl (by decide +kernel) ⟨by exact Nat.le_of_ble_eq_true rfl, by exact Nat.le_of_ble_eq_true rfl⟩) (j_preV hK hSX hG (ci := 6) rfl hk3 (by decide)) rfl rfl hl.1 rfl (lv_room (Nat.le_of_ble_eq_true rfl)) dX10_transition_100 ⟨by exact Nat.le_of_ble_eq_true rfl, by exact Nat.le_of_ble_eq_true rfl⟩) hG (c2 := 0) (s2 := 0) ⟨by exact Nat.le_of_ble_eq_true rfl, by exact Nat.le_of_ble_eq_true rfl⟩ (fun z36 M37 ez36 H locs hG => ?_)
                  obtain ⟨ez36, eM37⟩ := ez36
                  subst ez36
                  rw [eM37] at hG
                  rw [hQf]
                  exact vx_ret (j_ireti hx hb hr hlocks hG h (by decide) dX10_transition_103)
                · rcases em_eqI (a3) 3 with c30 | c30_3
                  · refine j_tsw hx hb dX10_transition_51 g29 (k := 3) (tgt := 104) c30 ⟨by decide, by decide, rfl⟩ (by decide) ?_
                    have h := h.2.2.2.1 c30
                    refine lv_aload hx hb dX10_transition_104 (lv_at hl 2 rfl) ?_
                    refine j_getr hx hb hts hown hK hG (k := k3) (fun w h => List.mem_cons_of_mem _ (u_X7 w h)) (ci := 6) rfl hk3 7 (k2 := k3 + 2) (by decide) (by show k3 + (2 : Int) = k3 + 2; omega) w_fl_RX10_191 dX10_transition_106 ?_
                    refine lv_iload_n hx hb dX10_transition_109 rfl (lv_at hl 0 rfl) ?_
                    obtain ⟨g38, h⟩ := h
                    refine j_iald hx hb hK hG (n := 260) (kf_7_7 hk3) (by decide) g38 dX10_transition_110 ?_
                    rw [hQf]
                    exact vx_ret (j_ireti hx hb hr hlocks hG h (by decide) dX10_transition_111)
                  · have c30 : a3 ≠ 0 ∧ a3 ≠ 1 ∧ a3 ≠ 2 ∧ a3 ≠ 3 := ⟨c30_0, c30_1, c30_2, c30_3⟩
                    have h := h.2.2.2.2 c30
                    refine j_tswd hx hb dX10_transition_51 g29 (tgt := 112) (by omega) (by decide) ?_
                    refine lv_aload hx hb dX10_transition_112 (lv_at hl 2 rfl) ?_
                    refine j_getr hx hb hts hown hK hG (k := k3) (fun w h => List.mem_cons_of_mem _ (u_X7 w h)) (ci := 6) rfl hk3 8 (k2 := k3 + 3) (by decide) (by show k3 + (3 : Int) = k3 + 3; omega) w_fl_RX10_194 dX10_transition_114 ?_
                    refine lv_iload_n hx hb dX10_transition_117 rfl (lv_at hl 0 rfl) ?_
                    obtain ⟨g39, h⟩ := h
                    refine j_iald hx hb hK hG (n := 260) (kf_7_8 hk3) (by decide) g39 dX10_transition_118 ?_
                    rw [hQf]
                    exact vx_ret (j_ireti hx hb hr hlocks hG h (by decide) dX10_transition_119)
          · refine j_contxv (vx_runS (As := [.int (J x25)]) (rest := []) ⟨hx, hb, hml, hown, hts⟩ (A_X10_needArgument l hst h) (va_cwS 1 hts (gj_S ml_RX10_72 i_X10_needArgument n_RX10 k_X10_needArgument) rfl rfl rfl (by decide +kernel) ⟨by exact Nat.le_of_ble_eq_true rfl, by exact Nat.le_of_ble_eq_true rfl⟩) (j_preS hK hSX hG) rfl rfl hl.1 rfl (lv_room (Nat.le_of_ble_eq_true rfl)) dX10_transition_47 ⟨by exact Nat.le_of_ble_eq_true rfl, by exact Nat.le_of_ble_eq_true rfl⟩) hG (c2 := 1) (s2 := 6) ⟨by exact Nat.le_of_ble_eq_true rfl, by exact Nat.le_of_ble_eq_true rfl⟩ (fun x M h ce q H locs hG h1 h2 h3 => ?_) (fun M h H locs hG => h.elim)
            rw [hQf]
            exact j_xout hlocks hout hG h h1 h2 h3 (by decide)
        obtain ⟨K43, hK43, h⟩ := h
        have jK43 : K43 → ∀ (H : Heap) (locs : List Loc), GM D cy o M4 s.heap H locs → ∀ ls : Array Slot, lv_has ls 5 [(2, .int (J a2)), (3, .int (J a3)), (4, .ref (rA o k3))] → W p l e rm_X10_transition s m args below meth c H locs 0 0 Qf (F0 m 46 ls []) := by
          intro hcK43 H locs hG ls hl
          have h := hK43 hcK43
          refine lv_iconst (v := J 0) hx hb dX10_transition_46 (by decide) ?_
          exact jK26 0 h H locs hG ls (lv_sub hl [0, 1, 2] rfl)
        obtain ⟨g45, h⟩ := h
        refine j_if_lt (tgt := 46) hx hb dX10_transition_34 (by decide) g45 (fun c44 => ?_) (fun c44 => ?_)
        · have h := h.1 c44
          exact jK43 h H locs hG ls (lv_sub hl [0, 1, 2] rfl)
        · have h := h.2 c44
          refine lv_iload_n hx hb dX10_transition_37 rfl (lv_at hl 1 rfl) ?_
          refine lv_iconst (v := J 4) hx hb dX10_transition_38 (by decide) ?_
          refine j_icmp_gt (tgt := 46) hx hb dX10_transition_39 (by decide) g45 (by decide) (fun c46 => ?_) (fun c46 => ?_)
          · have h := h.1 c46
            exact jK43 h H locs hG ls (lv_sub hl [0, 1, 2] rfl)
          · have h := h.2 c46
            refine lv_iconst (v := J 1) hx hb dX10_transition_42 (by decide) ?_
            refine lv_goto (tgt := 47) hx hb dX10_transition_43 (by decide) ?_
            exact jK26 1 h H locs hG ls (lv_sub hl [0, 1, 2] rfl)
      · refine j_contxv (vx_runS (As := [.int (J x14)]) (rest := []) ⟨hx, hb, hml, hown, hts⟩ (A_X10_needElement l hst h) (va_cwS 1 hts (gj_S ml_RX10_184 i_X10_needElement n_RX10 k_X10_needElement) rfl rfl rfl (by decide +kernel) ⟨by exact Nat.le_of_ble_eq_true rfl, by exact Nat.le_of_ble_eq_true rfl⟩) (j_preS hK hSX hG) rfl rfl hl.1 rfl (lv_room (Nat.le_of_ble_eq_true rfl)) dX10_transition_30 ⟨by exact Nat.le_of_ble_eq_true rfl, by exact Nat.le_of_ble_eq_true rfl⟩) hG (c2 := 1) (s2 := 6) ⟨by exact Nat.le_of_ble_eq_true rfl, by exact Nat.le_of_ble_eq_true rfl⟩ (fun x M h ce q H locs hG h1 h2 h3 => ?_) (fun M h H locs hG => h.elim)
        rw [hQf]
        exact j_xout hlocks hout hG h h1 h2 h3 (by decide)
    obtain ⟨K51, hK51, h⟩ := h
    have jK51 : K51 → ∀ (H : Heap) (locs : List Loc), GM D cy o M4 s.heap H locs → ∀ ls : Array Slot, lv_has ls 5 [(2, .int (J a2)), (3, .int (J a3)), (4, .ref (rA o k3))] → W p l e rm_X10_transition s m args below meth c H locs 0 0 Qf (F0 m 29 ls []) := by
      intro hcK51 H locs hG ls hl
      have h := hK51 hcK51
      refine lv_iconst (v := J 0) hx hb dX10_transition_29 (by decide) ?_
      exact jK15 0 h H locs hG ls (lv_sub hl [0, 1, 2] rfl)
    obtain ⟨g53, h⟩ := h
    refine j_if_lt (tgt := 29) hx hb dX10_transition_13 (by decide) g53 (fun c52 => ?_) (fun c52 => ?_)
    · have h := h.1 c52
      exact jK51 h H locs hG ls (lv_sub hl [3, 4, 0] rfl)
    · have h := h.2 c52
      refine lv_iload_n hx hb dX10_transition_16 rfl (lv_at hl 3 rfl) ?_
      refine lv_aload hx hb dX10_transition_17 (lv_at hl 0 rfl) ?_
      refine j_geti hx hb hts hown hK hG (k := k3) (fun w h => List.mem_cons_of_mem _ (u_X7 w h)) (ci := 6) rfl hk3 2 (by decide) (jz := 2) rfl w_fl_RX10_160 dX10_transition_19 ?_
      obtain ⟨g55, h⟩ := h
      refine j_icmp_ge (tgt := 29) hx hb dX10_transition_22 (by decide) g53 g55 (fun c54 => ?_) (fun c54 => ?_)
      · have h := h.1 c54
        exact jK51 h H locs hG ls (lv_sub hl [3, 4, 0] rfl)
      · have h := h.2 c54
        refine lv_iconst (v := J 1) hx hb dX10_transition_25 (by decide) ?_
        refine lv_goto (tgt := 30) hx hb dX10_transition_26 (by decide) ?_
        exact jK15 1 h H locs hG ls (lv_sub hl [3, 4, 0] rfl)
  · refine j_contxv (vx_runV (As := [.int (J a1)]) (rest := []) ⟨hx, hb, hml, hown, hts⟩ (A_X10_needZone l hst ka0 h) (cwV 1 hts (gj_V ml_RX10_137 i_X10_needZone s_X10_needZone n_RX10 k_X10_needZone) rfl rfl rfl (by decide +kernel) ⟨by exact Nat.le_of_ble_eq_true rfl, by exact Nat.le_of_ble_eq_true rfl⟩) (j_preV hK hSX hG (ci := 9) rfl ka0 (by decide)) rfl rfl hl.1 rfl (lv_room (Nat.le_of_ble_eq_true rfl)) dX10_transition_2 ⟨by exact Nat.le_of_ble_eq_true rfl, by exact Nat.le_of_ble_eq_true rfl⟩) hG (c2 := 1) (s2 := 6) ⟨by exact Nat.le_of_ble_eq_true rfl, by exact Nat.le_of_ble_eq_true rfl⟩ (fun x M h ce q H locs hG h1 h2 h3 => ?_) (fun M h H locs hG => h.elim)
    rw [hQf]
    exact j_xout hlocks hout hG h h1 h2 h3 (by decide)
