abbrev rom_X10_voidEvent : Room := { frames := 4, cells := 0, slots := 0, locals := 99 }
set_option maxRecDepth 100000 in
set_option maxHeartbeats 4000000 in
theorem Ao_X10_voidEvent (l : Launch) {D : va_G} {cy : Nat → ClassId} {o : Nat} {sK sV : Nat → Nat} {M : jT} {a0 : Int} {a1 : Int} {a2 : Int} {a3 : Int} (ka0 : kd a0 = 10) {Q : Int → jT → Prop} (h : wo_X10_voidEvent M a0 a1 a2 a3 Q) : CoI l yX10_voidEvent (wj yX10_voidEvent cX10_voidEvent 5 (some .int)) rom_X10_voidEvent D cy o sK sV M [.ref (rA o a0), .int (J a1), .int (J a2), .int (J a3)] Q := by
  refine j_ofW (cc := cX10_voidEvent) (maxL := 5) (ret := (some .int)) (by decide) rfl (Nat.le_of_ble_eq_true rfl) ?_
  intro p e s m args below meth c hx hb hr hlocks hml hown hts hK hSX H locs hG ls hl Qf hQf
  have hown : s.vm.findClass RX10 = some m.cls := hown
  have hl : lv_has ls 5 [(0, .ref (rA o a0)), (1, .int (J a1)), (2, .int (J a2)), (3, .int (J a3))] := hl
  have w_fl_RX10_163 := hts _ (List.mem_cons_of_mem _ fl_RX10_163)
  have w_fl_RX10_197 := hts _ (List.mem_cons_of_mem _ fl_RX10_197)
  have w_fl_RX10_200 := hts _ (List.mem_cons_of_mem _ fl_RX10_200)
  have w_fl_RX10_203 := hts _ (List.mem_cons_of_mem _ fl_RX10_203)
  unfold wo_X10_voidEvent at h
  refine lv_aload_n hx hb dX10_voidEvent_0 rfl (lv_at hl 0 rfl) ?_
  refine lv_iload_n hx hb dX10_voidEvent_1 rfl (lv_at hl 1 rfl) ?_
  refine j_contv (va_runV (As := [.int (J a1)]) (rest := []) ⟨hx, hb, hml, hown, hts⟩ (Ao_X10_needZone l ka0 h) (cwV 1 hts (gj_V ml_RX10_137 i_X10_needZone s_X10_needZone n_RX10 k_X10_needZone) rfl rfl rfl (by decide +kernel) ⟨by exact Nat.le_of_ble_eq_true rfl, by exact Nat.le_of_ble_eq_true rfl⟩) (j_preV hK hSX hG (ci := 9) rfl ka0 (by decide)) rfl rfl hl.1 rfl (lv_room (Nat.le_of_ble_eq_true rfl)) dX10_voidEvent_2 ⟨by exact Nat.le_of_ble_eq_true rfl, by exact Nat.le_of_ble_eq_true rfl⟩) hG (c2 := 0) (s2 := 0) ⟨by exact Nat.le_of_ble_eq_true rfl, by exact Nat.le_of_ble_eq_true rfl⟩ (fun M2 h H locs hG => ?_)
  obtain ⟨h, eM2⟩ := h
  rw [eM2] at hG
  refine lv_aload_n hx hb dX10_voidEvent_5 rfl (lv_at hl 0 rfl) ?_
  refine lv_iload_n hx hb dX10_voidEvent_6 rfl (lv_at hl 1 rfl) ?_
  refine j_contr (va_runV (As := [.int (J a1)]) (rest := []) ⟨hx, hb, hml, hown, hts⟩ (A_X10_compiled l ka0 h) (cwV 1 hts (gj_V ml_RX10_144 i_X10_compiled s_X10_compiled n_RX10 k_X10_compiled) rfl rfl rfl (by decide +kernel) ⟨by exact Nat.le_of_ble_eq_true rfl, by exact Nat.le_of_ble_eq_true rfl⟩) (j_preV hK hSX hG (ci := 9) rfl ka0 (by decide)) rfl rfl hl.1 rfl (lv_room (Nat.le_of_ble_eq_true rfl)) dX10_voidEvent_7 ⟨by exact Nat.le_of_ble_eq_true rfl, by exact Nat.le_of_ble_eq_true rfl⟩) hG (c2 := 0) (s2 := 0) ⟨by exact Nat.le_of_ble_eq_true rfl, by exact Nat.le_of_ble_eq_true rfl⟩ (fun k3 M4 h hk3 H locs hG => ?_)
  refine lv_astore (lv' := [(4, .ref (rA o k3)), (0, .ref (rA o a0)), (1, .int (J a1)), (2, .int (J a2)), (3, .int (J a3))]) hx hb dX10_voidEvent_10 hl (by decide) rfl (fun ls hl => ?_)
  refine lv_iload_n hx hb dX10_voidEvent_12 rfl (lv_at hl 3 rfl) ?_
  obtain ⟨K15, hK15, h⟩ := h
  have jK15 : ∀ (x14 : Int), K15 x14 → ∀ (H : Heap) (locs : List Loc), GM D cy o M4 s.heap H locs → ∀ ls : Array Slot, lv_has ls 5 [(2, .int (J a2)), (3, .int (J a3)), (4, .ref (rA o k3))] → W p l e rom_X10_voidEvent s m args below meth c H locs 0 0 Qf (F0 m 30 ls [.int (J x14)]) := by
    intro x14 hcK15 H locs hG ls hl
    have h := hK15 x14 hcK15
    refine j_contv (va_runS (As := [.int (J x14)]) (rest := []) ⟨hx, hb, hml, hown, hts⟩ (Ao_X10_needElement l h) (va_cwS 1 hts (gj_S ml_RX10_184 i_X10_needElement n_RX10 k_X10_needElement) rfl rfl rfl (by decide +kernel) ⟨by exact Nat.le_of_ble_eq_true rfl, by exact Nat.le_of_ble_eq_true rfl⟩) (j_preS hK hSX hG) rfl rfl hl.1 rfl (lv_room (Nat.le_of_ble_eq_true rfl)) dX10_voidEvent_30 ⟨by exact Nat.le_of_ble_eq_true rfl, by exact Nat.le_of_ble_eq_true rfl⟩) hG (c2 := 0) (s2 := 0) ⟨by exact Nat.le_of_ble_eq_true rfl, by exact Nat.le_of_ble_eq_true rfl⟩ (fun M17 h H locs hG => ?_)
    obtain ⟨h, eM17⟩ := h
    rw [eM17] at hG
    refine lv_iload_n hx hb dX10_voidEvent_33 rfl (lv_at hl 1 rfl) ?_
    obtain ⟨K26, hK26, h⟩ := h
    have jK26 : ∀ (x25 : Int), K26 x25 → ∀ (H : Heap) (locs : List Loc), GM D cy o M4 s.heap H locs → ∀ ls : Array Slot, lv_has ls 5 [(2, .int (J a2)), (3, .int (J a3)), (4, .ref (rA o k3))] → W p l e rom_X10_voidEvent s m args below meth c H locs 0 0 Qf (F0 m 47 ls [.int (J x25)]) := by
      intro x25 hcK26 H locs hG ls hl
      have h := hK26 x25 hcK26
      refine j_contv (va_runS (As := [.int (J x25)]) (rest := []) ⟨hx, hb, hml, hown, hts⟩ (Ao_X10_needArgument l h) (va_cwS 1 hts (gj_S ml_RX10_72 i_X10_needArgument n_RX10 k_X10_needArgument) rfl rfl rfl (by decide +kernel) ⟨by exact Nat.le_of_ble_eq_true rfl, by exact Nat.le_of_ble_eq_true rfl⟩) (j_preS hK hSX hG) rfl rfl hl.1 rfl (lv_room (Nat.le_of_ble_eq_true rfl)) dX10_voidEvent_47 ⟨by exact Nat.le_of_ble_eq_true rfl, by exact Nat.le_of_ble_eq_true rfl⟩) hG (c2 := 0) (s2 := 0) ⟨by exact Nat.le_of_ble_eq_true rfl, by exact Nat.le_of_ble_eq_true rfl⟩ (fun M28 h H locs hG => ?_)
      obtain ⟨h, eM28⟩ := h
      rw [eM28] at hG
      refine lv_iload_n hx hb dX10_voidEvent_50 rfl (lv_at hl 1 rfl) ?_
      obtain ⟨g29, h⟩ := h
      rcases em_eqI (a3) 0 with c30 | c30_0
      · refine j_lsw hx hb dX10_voidEvent_51 g29 (k := 0) (tgt := 76) c30 rfl (by decide) (by decide) ?_
        have h := h.1 c30
        refine lv_aload hx hb dX10_voidEvent_76 (lv_at hl 2 rfl) ?_
        refine j_getr hx hb hts hown hK hG (k := k3) (fun w h => List.mem_cons_of_mem _ (u_X7 w h)) (ci := 6) rfl hk3 9 (k2 := k3 + 4) (by decide) (by show k3 + (4 : Int) = k3 + 4; omega) w_fl_RX10_197 dX10_voidEvent_78 ?_
        refine lv_iload_n hx hb dX10_voidEvent_81 rfl (lv_at hl 0 rfl) ?_
        obtain ⟨g31, h⟩ := h
        refine j_iald hx hb hK hG (n := 260) (kf_7_9 hk3) (by decide) g31 dX10_voidEvent_82 ?_
        rw [hQf]
        exact j_ireti hx hb hr hlocks hG h (by decide) dX10_voidEvent_83
      · rcases em_eqI (a3) 1 with c30 | c30_1
        · refine j_lsw hx hb dX10_voidEvent_51 g29 (k := 1) (tgt := 84) c30 rfl (by decide) (by decide) ?_
          have h := h.2.1 c30
          refine lv_aload hx hb dX10_voidEvent_84 (lv_at hl 2 rfl) ?_
          refine j_getr hx hb hts hown hK hG (k := k3) (fun w h => List.mem_cons_of_mem _ (u_X7 w h)) (ci := 6) rfl hk3 10 (k2 := k3 + 5) (by decide) (by show k3 + (5 : Int) = k3 + 5; omega) w_fl_RX10_200 dX10_voidEvent_86 ?_
          refine lv_iload_n hx hb dX10_voidEvent_89 rfl (lv_at hl 0 rfl) ?_
          obtain ⟨g32, h⟩ := h
          refine j_iald hx hb hK hG (n := 260) (kf_7_10 hk3) (by decide) g32 dX10_voidEvent_90 ?_
          rw [hQf]
          exact j_ireti hx hb hr hlocks hG h (by decide) dX10_voidEvent_91
        · have c30 : a3 ≠ 0 ∧ a3 ≠ 1 := ⟨c30_0, c30_1⟩
          have h := h.2.2 c30
          refine j_lswd hx hb dX10_voidEvent_51 g29 (tgt := 92) (by simp only [Op.lookupswitch.offset_cons, Op.lookupswitch.offset]; repeat (rw [if_neg (by omega)])) (by decide) (by decide) ?_
          refine lv_aload hx hb dX10_voidEvent_92 (lv_at hl 2 rfl) ?_
          refine j_getr hx hb hts hown hK hG (k := k3) (fun w h => List.mem_cons_of_mem _ (u_X7 w h)) (ci := 6) rfl hk3 11 (k2 := k3 + 6) (by decide) (by show k3 + (6 : Int) = k3 + 6; omega) w_fl_RX10_203 dX10_voidEvent_94 ?_
          refine lv_iload_n hx hb dX10_voidEvent_97 rfl (lv_at hl 0 rfl) ?_
          obtain ⟨g33, h⟩ := h
          refine j_iald hx hb hK hG (n := 260) (kf_7_11 hk3) (by decide) g33 dX10_voidEvent_98 ?_
          rw [hQf]
          exact j_ireti hx hb hr hlocks hG h (by decide) dX10_voidEvent_99
    obtain ⟨K37, hK37, h⟩ := h
    have jK37 : K37 → ∀ (H : Heap) (locs : List Loc), GM D cy o M4 s.heap H locs → ∀ ls : Array Slot, lv_has ls 5 [(2, .int (J a2)), (3, .int (J a3)), (4, .ref (rA o k3))] → W p l e rom_X10_voidEvent s m args below meth c H locs 0 0 Qf (F0 m 46 ls []) := by
      intro hcK37 H locs hG ls hl
      have h := hK37 hcK37
      refine lv_iconst (v := J 0) hx hb dX10_voidEvent_46 (by decide) ?_
      exact jK26 0 h H locs hG ls (lv_sub hl [0, 1, 2] rfl)
    obtain ⟨g39, h⟩ := h
    refine j_if_lt (tgt := 46) hx hb dX10_voidEvent_34 (by decide) g39 (fun c38 => ?_) (fun c38 => ?_)
    · have h := h.1 c38
      exact jK37 h H locs hG ls (lv_sub hl [0, 1, 2] rfl)
    · have h := h.2 c38
      refine lv_iload_n hx hb dX10_voidEvent_37 rfl (lv_at hl 1 rfl) ?_
      refine lv_iconst (v := J 2) hx hb dX10_voidEvent_38 (by decide) ?_
      refine j_icmp_gt (tgt := 46) hx hb dX10_voidEvent_39 (by decide) g39 (by decide) (fun c40 => ?_) (fun c40 => ?_)
      · have h := h.1 c40
        exact jK37 h H locs hG ls (lv_sub hl [0, 1, 2] rfl)
      · have h := h.2 c40
        refine lv_iconst (v := J 1) hx hb dX10_voidEvent_42 (by decide) ?_
        refine lv_goto (tgt := 47) hx hb dX10_voidEvent_43 (by decide) ?_
        exact jK26 1 h H locs hG ls (lv_sub hl [0, 1, 2] rfl)
  obtain ⟨K45, hK45, h⟩ := h
  have jK45 : K45 → ∀ (H : Heap) (locs : List Loc), GM D cy o M4 s.heap H locs → ∀ ls : Array Slot, lv_has ls 5 [(2, .int (J a2)), (3, .int (J a3)), (4, .ref (rA o k3))] → W p l e rom_X10_voidEvent s m args below meth c H locs 0 0 Qf (F0 m 29 ls []) := by
    intro hcK45 H locs hG ls hl
    have h := hK45 hcK45
    refine lv_iconst (v := J 0) hx hb dX10_voidEvent_29 (by decide) ?_
    exact jK15 0 h H locs hG ls (lv_sub hl [0, 1, 2] rfl)
  obtain ⟨g47, h⟩ := h
  refine j_if_lt (tgt := 29) hx hb dX10_voidEvent_13 (by decide) g47 (fun c46 => ?_) (fun c46 => ?_)
  · have h := h.1 c46
    exact jK45 h H locs hG ls (lv_sub hl [3, 4, 0] rfl)
  · have h := h.2 c46
    refine lv_iload_n hx hb dX10_voidEvent_16 rfl (lv_at hl 3 rfl) ?_
    refine lv_aload hx hb dX10_voidEvent_17 (lv_at hl 0 rfl) ?_
    refine j_geti hx hb hts hown hK hG (k := k3) (fun w h => List.mem_cons_of_mem _ (u_X7 w h)) (ci := 6) rfl hk3 3 (by decide) (jz := 3) rfl w_fl_RX10_163 dX10_voidEvent_19 ?_
    obtain ⟨g49, h⟩ := h
    refine j_icmp_ge (tgt := 29) hx hb dX10_voidEvent_22 (by decide) g47 g49 (fun c48 => ?_) (fun c48 => ?_)
    · have h := h.1 c48
      exact jK45 h H locs hG ls (lv_sub hl [3, 4, 0] rfl)
    · have h := h.2 c48
      refine lv_iconst (v := J 1) hx hb dX10_voidEvent_25 (by decide) ?_
      refine lv_goto (tgt := 30) hx hb dX10_voidEvent_26 (by decide) ?_
      exact jK15 1 h H locs hG ls (lv_sub hl [3, 4, 0] rfl)
abbrev rm_X10_voidEvent : Room := { frames := 8, cells := 1, slots := 6, locals := 131 }
set_option maxRecDepth 100000 in
set_option maxHeartbeats 4000000 in
theorem A_X10_voidEvent (l : Launch) (hst : l.stackTraces = false) {D : va_G} {cy : Nat → ClassId} {o : Nat} {sK sV : Nat → Nat} {M : jT} {a0 : Int} {a1 : Int} {a2 : Int} {a3 : Int} (ka0 : kd a0 = 10) {Q : Int → jT → Prop} {X : Nat → jT → Prop} (h : wp_X10_voidEvent M a0 a1 a2 a3 Q X) : CxI l yX10_voidEvent (wj yX10_voidEvent cX10_voidEvent 5 (some .int)) rm_X10_voidEvent D cy o sK sV M [.ref (rA o a0), .int (J a1), .int (J a2), .int (J a3)] Q X := by
  refine j_ofWx (cc := cX10_voidEvent) (maxL := 5) (ret := (some .int)) (by decide) rfl (Nat.le_of_ble_eq_true rfl) ?_
  intro p e s m args below meth c hx hb hr hlocks hout hml hown hts hK hSX H locs hsz hG ls hl Qf hQf
  have hown : s.vm.findClass RX10 = some m.cls := hown
  have hl : lv_has ls 5 [(0, .ref (rA o a0)), (1, .int (J a1)), (2, .int (J a2)), (3, .int (J a3))] := hl
  have w_fl_RX10_163 := hts _ (List.mem_cons_of_mem _ fl_RX10_163)
  have w_fl_RX10_197 := hts _ (List.mem_cons_of_mem _ fl_RX10_197)
  have w_fl_RX10_200 := hts _ (List.mem_cons_of_mem _ fl_RX10_200)
  have w_fl_RX10_203 := hts _ (List.mem_cons_of_mem _ fl_RX10_203)
  unfold wp_X10_voidEvent at h
  refine lv_aload_n hx hb dX10_voidEvent_0 rfl (lv_at hl 0 rfl) ?_
  refine lv_iload_n hx hb dX10_voidEvent_1 rfl (lv_at hl 1 rfl) ?_
  rcases h with h | h
  · refine j_contv (va_runV (As := [.int (J a1)]) (rest := []) ⟨hx, hb, hml, hown, hts⟩ (Ao_X10_needZone l ka0 h) (cwV 1 hts (gj_V ml_RX10_137 i_X10_needZone s_X10_needZone n_RX10 k_X10_needZone) rfl rfl rfl (by decide +kernel) ⟨by exact Nat.le_of_ble_eq_true rfl, by exact Nat.le_of_ble_eq_true rfl⟩) (j_preV hK hSX hG (ci := 9) rfl ka0 (by decide)) rfl rfl hl.1 rfl (lv_room (Nat.le_of_ble_eq_true rfl)) dX10_voidEvent_2 ⟨by exact Nat.le_of_ble_eq_true rfl, by exact Nat.le_of_ble_eq_true rfl⟩) hG (c2 := 0) (s2 := 0) ⟨by exact Nat.le_of_ble_eq_true rfl, by exact Nat.le_of_ble_eq_true rfl⟩ (fun M2 h H locs hG => ?_)
    obtain ⟨h, eM2⟩ := h
    rw [eM2] at hG
    refine lv_aload_n hx hb dX10_voidEvent_5 rfl (lv_at hl 0 rfl) ?_
    refine lv_iload_n hx hb dX10_voidEvent_6 rfl (lv_at hl 1 rfl) ?_
    refine j_contr (va_runV (As := [.int (J a1)]) (rest := []) ⟨hx, hb, hml, hown, hts⟩ (A_X10_compiled l ka0 h) (cwV 1 hts (gj_V ml_RX10_144 i_X10_compiled s_X10_compiled n_RX10 k_X10_compiled) rfl rfl rfl (by decide +kernel) ⟨by exact Nat.le_of_ble_eq_true rfl, by exact Nat.le_of_ble_eq_true rfl⟩) (j_preV hK hSX hG (ci := 9) rfl ka0 (by decide)) rfl rfl hl.1 rfl (lv_room (Nat.le_of_ble_eq_true rfl)) dX10_voidEvent_7 ⟨by exact Nat.le_of_ble_eq_true rfl, by exact Nat.le_of_ble_eq_true rfl⟩) hG (c2 := 0) (s2 := 0) ⟨by exact Nat.le_of_ble_eq_true rfl, by exact Nat.le_of_ble_eq_true rfl⟩ (fun k3 M4 h hk3 H locs hG => ?_)
    refine lv_astore (lv' := [(4, .ref (rA o k3)), (0, .ref (rA o a0)), (1, .int (J a1)), (2, .int (J a2)), (3, .int (J a3))]) hx hb dX10_voidEvent_10 hl (by decide) rfl (fun ls hl => ?_)
    refine lv_iload_n hx hb dX10_voidEvent_12 rfl (lv_at hl 3 rfl) ?_
    obtain ⟨K15, hK15, h⟩ := h
    have jK15 : ∀ (x14 : Int), K15 x14 → ∀ (H : Heap) (locs : List Loc), GM D cy o M4 s.heap H locs → ∀ ls : Array Slot, lv_has ls 5 [(2, .int (J a2)), (3, .int (J a3)), (4, .ref (rA o k3))] → W p l e rm_X10_voidEvent s m args below meth c H locs 0 0 Qf (F0 m 30 ls [.int (J x14)]) := by
      intro x14 hcK15 H locs hG ls hl
      have h := hK15 x14 hcK15
      rcases h with h | h
      · refine j_contv (va_runS (As := [.int (J x14)]) (rest := []) ⟨hx, hb, hml, hown, hts⟩ (Ao_X10_needElement l h) (va_cwS 1 hts (gj_S ml_RX10_184 i_X10_needElement n_RX10 k_X10_needElement) rfl rfl rfl (by decide +kernel) ⟨by exact Nat.le_of_ble_eq_true rfl, by exact Nat.le_of_ble_eq_true rfl⟩) (j_preS hK hSX hG) rfl rfl hl.1 rfl (lv_room (Nat.le_of_ble_eq_true rfl)) dX10_voidEvent_30 ⟨by exact Nat.le_of_ble_eq_true rfl, by exact Nat.le_of_ble_eq_true rfl⟩) hG (c2 := 0) (s2 := 0) ⟨by exact Nat.le_of_ble_eq_true rfl, by exact Nat.le_of_ble_eq_true rfl⟩ (fun M17 h H locs hG => ?_)
        obtain ⟨h, eM17⟩ := h
        rw [eM17] at hG
        refine lv_iload_n hx hb dX10_voidEvent_33 rfl (lv_at hl 1 rfl) ?_
        obtain ⟨K26, hK26, h⟩ := h
        have jK26 : ∀ (x25 : Int), K26 x25 → ∀ (H : Heap) (locs : List Loc), GM D cy o M4 s.heap H locs → ∀ ls : Array Slot, lv_has ls 5 [(2, .int (J a2)), (3, .int (J a3)), (4, .ref (rA o k3))] → W p l e rm_X10_voidEvent s m args below meth c H locs 0 0 Qf (F0 m 47 ls [.int (J x25)]) := by
          intro x25 hcK26 H locs hG ls hl
          have h := hK26 x25 hcK26
          rcases h with h | h
          · refine j_contv (va_runS (As := [.int (J x25)]) (rest := []) ⟨hx, hb, hml, hown, hts⟩ (Ao_X10_needArgument l h) (va_cwS 1 hts (gj_S ml_RX10_72 i_X10_needArgument n_RX10 k_X10_needArgument) rfl rfl rfl (by decide +kernel) ⟨by exact Nat.le_of_ble_eq_true rfl, by exact Nat.le_of_ble_eq_true rfl⟩) (j_preS hK hSX hG) rfl rfl hl.1 rfl (lv_room (Nat.le_of_ble_eq_true rfl)) dX10_voidEvent_47 ⟨by exact Nat.le_of_ble_eq_true rfl, by exact Nat.le_of_ble_eq_true rfl⟩) hG (c2 := 0) (s2 := 0) ⟨by exact Nat.le_of_ble_eq_true rfl, by exact Nat.le_of_ble_eq_true rfl⟩ (fun M28 h H locs hG => ?_)
            obtain ⟨h, eM28⟩ := h
            rw [eM28] at hG
            refine lv_iload_n hx hb dX10_voidEvent_50 rfl (lv_at hl 1 rfl) ?_
            obtain ⟨g29, h⟩ := h
            rcases em_eqI (a3) 0 with c30 | c30_0
            · refine j_lsw hx hb dX10_voidEvent_51 g29 (k := 0) (tgt := 76) c30 rfl (by decide) (by decide) ?_
              have h := h.1 c30
              refine lv_aload hx hb dX10_voidEvent_76 (lv_at hl 2 rfl) ?_
              refine j_getr hx hb hts hown hK hG (k := k3) (fun w h => List.mem_cons_of_mem _ (u_X7 w h)) (ci := 6) rfl hk3 9 (k2 := k3 + 4) (by decide) (by show k3 + (4 : Int) = k3 + 4; omega) w_fl_RX10_197 dX10_voidEvent_78 ?_
              refine lv_iload_n hx hb dX10_voidEvent_81 rfl (lv_at hl 0 rfl) ?_
              obtain ⟨g31, h⟩ := h
              refine j_iald hx hb hK hG (n := 260) (kf_7_9 hk3) (by decide) g31 dX10_voidEvent_82 ?_
              rw [hQf]
              exact vx_ret (j_ireti hx hb hr hlocks hG h (by decide) dX10_voidEvent_83)
            · rcases em_eqI (a3) 1 with c30 | c30_1
              · refine j_lsw hx hb dX10_voidEvent_51 g29 (k := 1) (tgt := 84) c30 rfl (by decide) (by decide) ?_
                have h := h.2.1 c30
                refine lv_aload hx hb dX10_voidEvent_84 (lv_at hl 2 rfl) ?_
                refine j_getr hx hb hts hown hK hG (k := k3) (fun w h => List.mem_cons_of_mem _ (u_X7 w h)) (ci := 6) rfl hk3 10 (k2 := k3 + 5) (by decide) (by show k3 + (5 : Int) = k3 + 5; omega) w_fl_RX10_200 dX10_voidEvent_86 ?_
                refine lv_iload_n hx hb dX10_voidEvent_89 rfl (lv_at hl 0 rfl) ?_
                obtain ⟨g32, h⟩ := h
                refine j_iald hx hb hK hG (n := 260) (kf_7_10 hk3) (by decide) g32 dX10_voidEvent_90 ?_
                rw [hQf]
                exact vx_ret (j_ireti hx hb hr hlocks hG h (by decide) dX10_voidEvent_91)
              · have c30 : a3 ≠ 0 ∧ a3 ≠ 1 := ⟨c30_0, c30_1⟩
                have h := h.2.2 c30
                refine j_lswd hx hb dX10_voidEvent_51 g29 (tgt := 92) (by simp only [Op.lookupswitch.offset_cons, Op.lookupswitch.offset]; repeat (rw [if_neg (by omega)])) (by decide) (by decide) ?_
                refine lv_aload hx hb dX10_voidEvent_92 (lv_at hl 2 rfl) ?_
                refine j_getr hx hb hts hown hK hG (k := k3) (fun w h => List.mem_cons_of_mem _ (u_X7 w h)) (ci := 6) rfl hk3 11 (k2 := k3 + 6) (by decide) (by show k3 + (6 : Int) = k3 + 6; omega) w_fl_RX10_203 dX10_voidEvent_94 ?_
                refine lv_iload_n hx hb dX10_voidEvent_97 rfl (lv_at hl 0 rfl) ?_
                obtain ⟨g33, h⟩ := h
                refine j_iald hx hb hK hG (n := 260) (kf_7_11 hk3) (by decide) g33 dX10_voidEvent_98 ?_
                rw [hQf]
                exact vx_ret (j_ireti hx hb hr hlocks hG h (by decide) dX10_voidEvent_99)
          · refine j_contxv (vx_runS (As := [.int (J x25)]) (rest := []) ⟨hx, hb, hml, hown, hts⟩ (A_X10_needArgument l hst h) (va_cwS 1 hts (gj_S ml_RX10_72 i_X10_needArgument n_RX10 k_X10_needArgument) rfl rfl rfl (by decide +kernel) ⟨by exact Nat.le_of_ble_eq_true rfl, by exact Nat.le_of_ble_eq_true rfl⟩) (j_preS hK hSX hG) rfl rfl hl.1 rfl (lv_room (Nat.le_of_ble_eq_true rfl)) dX10_voidEvent_47 ⟨by exact Nat.le_of_ble_eq_true rfl, by exact Nat.le_of_ble_eq_true rfl⟩) hG (c2 := 1) (s2 := 6) ⟨by exact Nat.le_of_ble_eq_true rfl, by exact Nat.le_of_ble_eq_true rfl⟩ (fun x M h ce q H locs hG h1 h2 h3 => ?_) (fun M h H locs hG => h.elim)
            rw [hQf]
            exact j_xout hlocks hout hG h h1 h2 h3 (by decide)
        obtain ⟨K37, hK37, h⟩ := h
        have jK37 : K37 → ∀ (H : Heap) (locs : List Loc), GM D cy o M4 s.heap H locs → ∀ ls : Array Slot, lv_has ls 5 [(2, .int (J a2)), (3, .int (J a3)), (4, .ref (rA o k3))] → W p l e rm_X10_voidEvent s m args below meth c H locs 0 0 Qf (F0 m 46 ls []) := by
          intro hcK37 H locs hG ls hl
          have h := hK37 hcK37
          refine lv_iconst (v := J 0) hx hb dX10_voidEvent_46 (by decide) ?_
          exact jK26 0 h H locs hG ls (lv_sub hl [0, 1, 2] rfl)
        obtain ⟨g39, h⟩ := h
        refine j_if_lt (tgt := 46) hx hb dX10_voidEvent_34 (by decide) g39 (fun c38 => ?_) (fun c38 => ?_)
        · have h := h.1 c38
          exact jK37 h H locs hG ls (lv_sub hl [0, 1, 2] rfl)
        · have h := h.2 c38
          refine lv_iload_n hx hb dX10_voidEvent_37 rfl (lv_at hl 1 rfl) ?_
          refine lv_iconst (v := J 2) hx hb dX10_voidEvent_38 (by decide) ?_
          refine j_icmp_gt (tgt := 46) hx hb dX10_voidEvent_39 (by decide) g39 (by decide) (fun c40 => ?_) (fun c40 => ?_)
          · have h := h.1 c40
            exact jK37 h H locs hG ls (lv_sub hl [0, 1, 2] rfl)
          · have h := h.2 c40
            refine lv_iconst (v := J 1) hx hb dX10_voidEvent_42 (by decide) ?_
            refine lv_goto (tgt := 47) hx hb dX10_voidEvent_43 (by decide) ?_
            exact jK26 1 h H locs hG ls (lv_sub hl [0, 1, 2] rfl)
      · refine j_contxv (vx_runS (As := [.int (J x14)]) (rest := []) ⟨hx, hb, hml, hown, hts⟩ (A_X10_needElement l hst h) (va_cwS 1 hts (gj_S ml_RX10_184 i_X10_needElement n_RX10 k_X10_needElement) rfl rfl rfl (by decide +kernel) ⟨by exact Nat.le_of_ble_eq_true rfl, by exact Nat.le_of_ble_eq_true rfl⟩) (j_preS hK hSX hG) rfl rfl hl.1 rfl (lv_room (Nat.le_of_ble_eq_true rfl)) dX10_voidEvent_30 ⟨by exact Nat.le_of_ble_eq_true rfl, by exact Nat.le_of_ble_eq_true rfl⟩) hG (c2 := 1) (s2 := 6) ⟨by exact Nat.le_of_ble_eq_true rfl, by exact Nat.le_of_ble_eq_true rfl⟩ (fun x M h ce q H locs hG h1 h2 h3 => ?_) (fun M h H locs hG => h.elim)
        rw [hQf]
        exact j_xout hlocks hout hG h h1 h2 h3 (by decide)
    obtain ⟨K45, hK45, h⟩ := h
    have jK45 : K45 → ∀ (H : Heap) (locs : List Loc), GM D cy o M4 s.heap H locs → ∀ ls : Array Slot, lv_has ls 5 [(2, .int (J a2)), (3, .int (J a3)), (4, .ref (rA o k3))] → W p l e rm_X10_voidEvent s m args below meth c H locs 0 0 Qf (F0 m 29 ls []) := by
      intro hcK45 H locs hG ls hl
      have h := hK45 hcK45
      refine lv_iconst (v := J 0) hx hb dX10_voidEvent_29 (by decide) ?_
      exact jK15 0 h H locs hG ls (lv_sub hl [0, 1, 2] rfl)
    obtain ⟨g47, h⟩ := h
    refine j_if_lt (tgt := 29) hx hb dX10_voidEvent_13 (by decide) g47 (fun c46 => ?_) (fun c46 => ?_)
    · have h := h.1 c46
      exact jK45 h H locs hG ls (lv_sub hl [3, 4, 0] rfl)
    · have h := h.2 c46
      refine lv_iload_n hx hb dX10_voidEvent_16 rfl (lv_at hl 3 rfl) ?_
      refine lv_aload hx hb dX10_voidEvent_17 (lv_at hl 0 rfl) ?_
      refine j_geti hx hb hts hown hK hG (k := k3) (fun w h => List.mem_cons_of_mem _ (u_X7 w h)) (ci := 6) rfl hk3 3 (by decide) (jz := 3) rfl w_fl_RX10_163 dX10_voidEvent_19 ?_
      obtain ⟨g49, h⟩ := h
      refine j_icmp_ge (tgt := 29) hx hb dX10_voidEvent_22 (by decide) g47 g49 (fun c48 => ?_) (fun c48 => ?_)
      · have h := h.1 c48
        exact jK45 h H locs hG ls (lv_sub hl [3, 4, 0] rfl)
      · have h := h.2 c48
        refine lv_iconst (v := J 1) hx hb dX10_voidEvent_25 (by decide) ?_
        refine lv_goto (tgt := 30) hx hb dX10_voidEvent_26 (by decide) ?_
        exact jK15 1 h H locs hG ls (lv_sub hl [3, 4, 0] rfl)
  · refine j_contxv (vx_runV (As := [.int (J a1)]) (rest := []) ⟨hx, hb, hml, hown, hts⟩ (A_X10_needZone l hst ka0 h) (cwV 1 hts (gj_V ml_RX10_137 i_X10_needZone s_X10_needZone n_RX10 k_X10_needZone) rfl rfl rfl (by decide +kernel) ⟨by exact Nat.le_of_ble_eq_true rfl, by exact Nat.le_of_ble_eq_true rfl⟩) (j_preV hK hSX hG (ci := 9) rfl ka0 (by decide)) rfl rfl hl.1 rfl (lv_room (Nat.le_of_ble_eq_true rfl)) dX10_voidEvent_2 ⟨by exact Nat.le_of_ble_eq_true rfl, by exact Nat.le_of_ble_eq_true rfl⟩) hG (c2 := 1) (s2 := 6) ⟨by exact Nat.le_of_ble_eq_true rfl, by exact Nat.le_of_ble_eq_true rfl⟩ (fun x M h ce q H locs hG h1 h2 h3 => ?_) (fun M h H locs hG => h.elim)
    rw [hQf]
    exact j_xout hlocks hout hG h h1 h2 h3 (by decide)

abbrev rm_X10_isInstant : Room := { frames := 0, cells := 0, slots := 0, locals := 0 }
set_option maxRecDepth 100000 in
set_option maxHeartbeats 4000000 in
theorem A_X10_isInstant (l : Launch) {D : va_G} {cy : Nat → ClassId} {o : Nat} {sK sV : Nat → Nat} {M : jT} {a0 : Int} (h : pg_X10_isInstant a0) : CoI l yX10_isInstant (wj yX10_isInstant cX10_isInstant 1 (some .boolean)) rm_X10_isInstant D cy o sK sV M [.int (J a0)] (fun z M9 => z = b2i (pb_X10_isInstant a0) ∧ M9 = M) := by
  refine j_ofW (cc := cX10_isInstant) (maxL := 1) (ret := (some .boolean)) (by decide) rfl (Nat.le_of_ble_eq_true rfl) ?_
  intro p e s m args below meth c hx hb hr hlocks hml hown hts hK hSX H locs hG ls hl Qf hQf
  have hown : s.vm.findClass RX10 = some m.cls := hown
  have hl : lv_has ls 1 [(0, .int (J a0))] := hl
  have w_ck_RX10_479 := hts _ (List.mem_cons_of_mem _ ck_RX10_479)
  unfold pg_X10_isInstant at h
  refine lv_iload_n hx hb dX10_isInstant_0 rfl (lv_at hl 0 rfl) ?_
  refine lv_sipush (v := J (-2000)) hx hb dX10_isInstant_1 (by decide) ?_
  obtain ⟨g2, h⟩ := h
  refine j_icmp_lt (tgt := 18) hx hb dX10_isInstant_4 (by decide) g2 (by decide) (fun c1 => ?_) (fun c1 => ?_)
  · have h := h.1 c1
    refine lv_iconst (v := J 0) hx hb dX10_isInstant_18 (by decide) ?_
    rw [hQf]
    exact j_iretn hx hb hr hlocks (nar_b (by decide)) hG ⟨(b2i_iff0 (iff_of_false (fun q8 => (show ¬ ((-2000) ≤ a0) from by omega) q8.1) id)), rfl⟩ (by decide) dX10_isInstant_19
  · have h := h.2 c1
    refine lv_iload_n hx hb dX10_isInstant_7 rfl (lv_at hl 0 rfl) ?_
    refine lv_ldcw (v := J 16832719) hx hb hown (show (Cond.constant RX10 479 (J 16832719)).before args s = true from w_ck_RX10_479) dX10_isInstant_8 ?_
    refine j_icmp_gt (tgt := 18) hx hb dX10_isInstant_11 (by decide) g2 (by decide) (fun c3 => ?_) (fun c3 => ?_)
    · have h := h.1 c3
      refine lv_iconst (v := J 0) hx hb dX10_isInstant_18 (by decide) ?_
      rw [hQf]
      exact j_iretn hx hb hr hlocks (nar_b (by decide)) hG ⟨(b2i_iff0 ((and_iff_right c1).trans (iff_of_false (show ¬ (a0 ≤ 16832719) from by omega) id))), rfl⟩ (by decide) dX10_isInstant_19
    · have h := h.2 c3
      refine lv_iconst (v := J 1) hx hb dX10_isInstant_14 (by decide) ?_
      refine lv_goto (tgt := 19) hx hb dX10_isInstant_15 (by decide) ?_
      rw [hQf]
      exact j_iretn hx hb hr hlocks (nar_b (by decide)) hG ⟨(b2i_iff1 ((and_iff_right c1).trans (iff_of_true c3 trivial))), rfl⟩ (by decide) dX10_isInstant_19

abbrev rm_X7_spanAt : Room := { frames := 0, cells := 0, slots := 0, locals := 0 }
set_option maxRecDepth 100000 in
set_option maxHeartbeats 4000000 in
theorem A_X7_spanAt (l : Launch) {D : va_G} {cy : Nat → ClassId} {o : Nat} {sK sV : Nat → Nat} {M : jT} {a0 : Int} {a1 : Int} (ka0 : kd a0 = 7) {Q : Int → Prop} (h : wp_X7_spanAt M a0 a1 Q) : CoI l yX7_spanAt (wj yX7_spanAt cX7_spanAt 5 (some .int)) rm_X7_spanAt D cy o sK sV M [.ref (rA o a0), .int (J a1)] (fun z M9 => Q z ∧ M9 = M) := by
  refine j_ofW (cc := cX7_spanAt) (maxL := 5) (ret := (some .int)) (by decide) rfl (Nat.le_of_ble_eq_true rfl) ?_
  intro p e s m args below meth c hx hb hr hlocks hml hown hts hK hSX H locs hG ls hl Qf hQf
  have hown : s.vm.findClass RX7 = some m.cls := hown
  have hl : lv_has ls 5 [(0, .ref (rA o a0)), (1, .int (J a1))] := hl
  have w_fl_RX7_37 := hts _ (List.mem_cons_of_mem _ fl_RX7_37)
  have w_fl_RX7_9 := hts _ (List.mem_cons_of_mem _ fl_RX7_9)
  unfold wp_X7_spanAt at h
  refine lv_iconst (v := J 0) hx hb dX7_spanAt_0 (by decide) ?_
  refine lv_istore_n (lv' := [(2, .int (J 0)), (0, .ref (rA o a0)), (1, .int (J a1))]) hx hb dX7_spanAt_1 rfl hl (by decide) rfl (fun ls hl => ?_)
  refine lv_aload_n hx hb dX7_spanAt_2 rfl (lv_at hl 1 rfl) ?_
  refine j_geti hx hb hts hown hK hG (k := a0) (fun w h => List.mem_cons_of_mem _ (u_X7 w h)) (ci := 6) rfl ka0 2 (by decide) (jz := 2) rfl w_fl_RX7_37 dX7_spanAt_3 ?_
  refine j_topi (fun x1 ex1 => ?_)
  have h := h x1 ex1
  refine lv_istore_n (lv' := [(3, .int (J x1)), (2, .int (J 0)), (0, .ref (rA o a0)), (1, .int (J a1))]) hx hb dX7_spanAt_6 rfl hl (by decide) rfl (fun ls hl => ?_)
  obtain ⟨I4, ⟨n5s, iI4⟩, qI4⟩ := h
  have lI4 : ∀ (n5 : Nat) (x2 : Int) (x3 : Int), I4 n5 x2 x3 → ∀ (H : Heap) (locs : List Loc), GM D cy o M s.heap H locs → ∀ ls : Array Slot, lv_has ls 5 [(0, .ref (rA o a0)), (1, .int (J a1)), (2, .int (J x2)), (3, .int (J x3))] → W p l e rm_X7_spanAt s m args below meth c H locs 0 0 Qf (F0 m 7 ls []) := by
    intro n5
    induction n5 using Nat.strongRecOn with
    | ind n5 rI4 =>
      intro x2 x3 iI4 H locs hG ls hl
      have h := qI4 n5 x2 x3 iI4
      refine lv_iload_n hx hb dX7_spanAt_7 rfl (lv_at hl 2 rfl) ?_
      refine lv_iload_n hx hb dX7_spanAt_8 rfl (lv_at hl 3 rfl) ?_
      obtain ⟨g7, h⟩ := h
      obtain ⟨g8, h⟩ := h
      refine j_icmp_ge (tgt := 44) hx hb dX7_spanAt_9 (by decide) g7 g8 (fun c6 => ?_) (fun c6 => ?_)
      · have h := h.1 c6
        refine lv_iload_n hx hb dX7_spanAt_44 rfl (lv_at hl 2 rfl) ?_
        rw [hQf]
        exact j_ireti hx hb hr hlocks hG ⟨h, rfl⟩ (by decide) dX7_spanAt_45
      · have h := h.2 c6
        refine lv_iload_n hx hb dX7_spanAt_12 rfl (lv_at hl 2 rfl) ?_
        refine lv_iload_n hx hb dX7_spanAt_13 rfl (lv_at hl 3 rfl) ?_
        refine j_iadd hx hb dX7_spanAt_14 ?_
        refine lv_iconst (v := J 2) hx hb dX7_spanAt_15 (by decide) ?_
        obtain ⟨g9, h⟩ := h
        refine j_idiv hx hb dX7_spanAt_16 g9 (by decide) ?_
        refine j_topi (fun x10 ex10 => ?_)
        have h := h x10 ex10
        refine lv_istore (lv' := [(4, .int (J x10)), (0, .ref (rA o a0)), (1, .int (J a1)), (2, .int (J x2)), (3, .int (J x3))]) hx hb dX7_spanAt_17 hl (by decide) rfl (fun ls hl => ?_)
        refine lv_aload_n hx hb dX7_spanAt_19 rfl (lv_at hl 1 rfl) ?_
        refine j_getr hx hb hts hown hK hG (k := a0) (fun w h => List.mem_cons_of_mem _ (u_X7 w h)) (ci := 6) rfl ka0 6 (k2 := a0 + 1) (by decide) (by show a0 + (1 : Int) = a0 + 1; omega) w_fl_RX7_9 dX7_spanAt_20 ?_
        refine lv_iload hx hb dX7_spanAt_23 (lv_at hl 0 rfl) ?_
        obtain ⟨g11, h⟩ := h
        refine j_iald hx hb hK hG (n := 260) (kf_7_6 ka0) (by decide) g11 dX7_spanAt_25 ?_
        refine lv_iload_n hx hb dX7_spanAt_26 rfl (lv_at hl 2 rfl) ?_
        obtain ⟨hg, h⟩ := h
        have jK17 : ∀ x15 : Int, (a1 < M (a0 + 1) x10 → x15 = x2) → (M (a0 + 1) x10 ≤ a1 → x15 = x10 + 1) → ∀ x16 : Int, (a1 < M (a0 + 1) x10 → x16 = x10) → (M (a0 + 1) x10 ≤ a1 → x16 = x3) → ∀ (H : Heap) (locs : List Loc), GM D cy o M s.heap H locs → ∀ ls : Array Slot, lv_has ls 5 [(0, .ref (rA o a0)), (1, .int (J a1)), (2, .int (J x15)), (3, .int (J x16))] → W p l e rm_X7_spanAt s m args below meth c H locs 0 0 Qf (F0 m 41 ls []) := by
          intro x15 qx15_0 qx15_1 x16 qx16_0 qx16_1 H locs hG ls hl
          have h := h x15 qx15_0 qx15_1 x16 qx16_0 qx16_1
          refine lv_goto (tgt := 7) hx hb dX7_spanAt_41 (by decide) ?_
          obtain ⟨n21, ln21, iI4⟩ := h
          exact rI4 n21 ln21 x15 x16 iI4 H locs hG ls (lv_sub hl [0, 1, 2, 3] rfl)
        have h := hg
        obtain ⟨g19, h⟩ := h
        obtain ⟨g20, h⟩ := h
        refine j_icmp_gt (tgt := 38) hx hb dX7_spanAt_27 (by decide) g19 g20 (fun c18 => ?_) (fun c18 => ?_)
        · have h := h.1 c18
          refine lv_iload hx hb dX7_spanAt_38 (lv_at hl 0 rfl) ?_
          refine lv_istore_n (lv' := [(3, .int (J x10)), (4, .int (J x10)), (0, .ref (rA o a0)), (1, .int (J a1)), (2, .int (J x2))]) hx hb dX7_spanAt_40 rfl hl (by decide) rfl (fun ls hl => ?_)
          exact jK17 x2 (fun _ => rfl) (fun q => absurd q (by omega)) x10 (fun _ => rfl) (fun q => absurd q (by omega)) H locs hG ls (lv_sub hl [2, 3, 4, 0] rfl)
        · have h := h.2 c18
          refine lv_iload hx hb dX7_spanAt_30 (lv_at hl 0 rfl) ?_
          refine lv_iconst (v := J 1) hx hb dX7_spanAt_32 (by decide) ?_
          refine j_iadd hx hb dX7_spanAt_33 ?_
          refine lv_istore_n (lv' := [(2, .int (J (x10 + 1))), (4, .int (J x10)), (0, .ref (rA o a0)), (1, .int (J a1)), (3, .int (J x3))]) hx hb dX7_spanAt_34 rfl hl (by decide) rfl (fun ls hl => ?_)
          refine lv_goto (tgt := 41) hx hb dX7_spanAt_35 (by decide) ?_
          exact jK17 (x10 + 1) (fun q => absurd q (by omega)) (fun _ => rfl) x3 (fun q => absurd q (by omega)) (fun _ => rfl) H locs hG ls (lv_sub hl [2, 3, 0, 4] rfl)
  exact lI4 n5s 0 x1 iI4 H locs hG ls (lv_sub hl [2, 3, 1, 0] rfl)

abbrev rm_X7_offsetAt : Room := { frames := 1, cells := 0, slots := 0, locals := 24 }
set_option maxRecDepth 100000 in
set_option maxHeartbeats 4000000 in
theorem A_X7_offsetAt (l : Launch) {D : va_G} {cy : Nat → ClassId} {o : Nat} {sK sV : Nat → Nat} {M : jT} {a0 : Int} {a1 : Int} (ka0 : kd a0 = 7) {Q : Int → Prop} (h : wp_X7_offsetAt M a0 a1 Q) : CoI l yX7_offsetAt (wj yX7_offsetAt cX7_offsetAt 2 (some .int)) rm_X7_offsetAt D cy o sK sV M [.ref (rA o a0), .int (J a1)] (fun z M9 => Q z ∧ M9 = M) := by
  refine j_ofW (cc := cX7_offsetAt) (maxL := 2) (ret := (some .int)) (by decide) rfl (Nat.le_of_ble_eq_true rfl) ?_
  intro p e s m args below meth c hx hb hr hlocks hml hown hts hK hSX H locs hG ls hl Qf hQf
  have hown : s.vm.findClass RX7 = some m.cls := hown
  have hl : lv_has ls 2 [(0, .ref (rA o a0)), (1, .int (J a1))] := hl
  have w_fl_RX7_30 := hts _ (List.mem_cons_of_mem _ fl_RX7_30)
  unfold wp_X7_offsetAt at h
  refine lv_aload_n hx hb dX7_offsetAt_0 rfl (lv_at hl 0 rfl) ?_
  refine j_getr hx hb hts hown hK hG (k := a0) (fun w h => List.mem_cons_of_mem _ (u_X7 w h)) (ci := 6) rfl ka0 12 (k2 := a0 + 7) (by decide) (by show a0 + (7 : Int) = a0 + 7; omega) w_fl_RX7_30 dX7_offsetAt_1 ?_
  refine lv_aload_n hx hb dX7_offsetAt_4 rfl (lv_at hl 0 rfl) ?_
  refine lv_iload_n hx hb dX7_offsetAt_5 rfl (lv_at hl 1 rfl) ?_
  refine j_conti (va_runV (As := [.int (J a1)]) (rest := [.ref (rA o (a0 + 7))]) ⟨hx, hb, hml, hown, hts⟩ (A_X7_spanAt l ka0 h) (cwV 1 hts (gj_V ml_RX7_97 i_X7_spanAt s_X7_spanAt n_RX7 k_X7_spanAt) rfl rfl rfl (by decide +kernel) ⟨by exact Nat.le_of_ble_eq_true rfl, by exact Nat.le_of_ble_eq_true rfl⟩) (j_preV hK hSX hG (ci := 6) rfl ka0 (by decide)) rfl rfl hl.1 rfl (lv_room (Nat.le_of_ble_eq_true rfl)) dX7_offsetAt_6 ⟨by exact Nat.le_of_ble_eq_true rfl, by exact Nat.le_of_ble_eq_true rfl⟩) hG (c2 := 0) (s2 := 0) ⟨by exact Nat.le_of_ble_eq_true rfl, by exact Nat.le_of_ble_eq_true rfl⟩ (fun z1 M2 h H locs hG => ?_)
  obtain ⟨h, eM2⟩ := h
  rw [eM2] at hG
  obtain ⟨g3, h⟩ := h
  refine j_iald hx hb hK hG (n := 261) (kf_7_12 ka0) (by decide) g3 dX7_offsetAt_9 ?_
  rw [hQf]
  exact j_ireti hx hb hr hlocks hG ⟨h, rfl⟩ (by decide) dX7_offsetAt_10

abbrev rom_X10_offset : Room := { frames := 4, cells := 0, slots := 0, locals := 99 }
set_option maxRecDepth 100000 in
set_option maxHeartbeats 4000000 in
theorem Ao_X10_offset (l : Launch) {D : va_G} {cy : Nat → ClassId} {o : Nat} {sK sV : Nat → Nat} {M : jT} {a0 : Int} {a1 : Int} {a2 : Int} (ka0 : kd a0 = 10) {Q : Int → jT → Prop} (h : wo_X10_offset M a0 a1 a2 Q) : CoI l yX10_offset (wj yX10_offset cX10_offset 3 (some .int)) rom_X10_offset D cy o sK sV M [.ref (rA o a0), .int (J a1), .int (J a2)] Q := by
  refine j_ofW (cc := cX10_offset) (maxL := 3) (ret := (some .int)) (by decide) rfl (Nat.le_of_ble_eq_true rfl) ?_
  intro p e s m args below meth c hx hb hr hlocks hml hown hts hK hSX H locs hG ls hl Qf hQf
  have hown : s.vm.findClass RX10 = some m.cls := hown
  have hl : lv_has ls 3 [(0, .ref (rA o a0)), (1, .int (J a1)), (2, .int (J a2))] := hl
  unfold wo_X10_offset at h
  refine lv_aload_n hx hb dX10_offset_0 rfl (lv_at hl 0 rfl) ?_
  refine lv_iload_n hx hb dX10_offset_1 rfl (lv_at hl 1 rfl) ?_
  refine j_contv (va_runV (As := [.int (J a1)]) (rest := []) ⟨hx, hb, hml, hown, hts⟩ (Ao_X10_needZone l ka0 h) (cwV 1 hts (gj_V ml_RX10_137 i_X10_needZone s_X10_needZone n_RX10 k_X10_needZone) rfl rfl rfl (by decide +kernel) ⟨by exact Nat.le_of_ble_eq_true rfl, by exact Nat.le_of_ble_eq_true rfl⟩) (j_preV hK hSX hG (ci := 9) rfl ka0 (by decide)) rfl rfl hl.1 rfl (lv_room (Nat.le_of_ble_eq_true rfl)) dX10_offset_2 ⟨by exact Nat.le_of_ble_eq_true rfl, by exact Nat.le_of_ble_eq_true rfl⟩) hG (c2 := 0) (s2 := 0) ⟨by exact Nat.le_of_ble_eq_true rfl, by exact Nat.le_of_ble_eq_true rfl⟩ (fun M2 h H locs hG => ?_)
  obtain ⟨h, eM2⟩ := h
  rw [eM2] at hG
  refine lv_iload_n hx hb dX10_offset_5 rfl (lv_at hl 2 rfl) ?_
  obtain ⟨g3, h⟩ := h
  refine j_conti (va_runS (As := [.int (J a2)]) (rest := []) ⟨hx, hb, hml, hown, hts⟩ (A_X10_isInstant l g3) (va_cwS 1 hts (gj_S ml_RX10_206 i_X10_isInstant n_RX10 k_X10_isInstant) rfl rfl rfl (by decide +kernel) ⟨by exact Nat.le_of_ble_eq_true rfl, by exact Nat.le_of_ble_eq_true rfl⟩) (j_preS hK hSX hG) rfl rfl hl.1 rfl (lv_room (Nat.le_of_ble_eq_true rfl)) dX10_offset_6 ⟨by exact Nat.le_of_ble_eq_true rfl, by exact Nat.le_of_ble_eq_true rfl⟩) hG (c2 := 0) (s2 := 0) ⟨by exact Nat.le_of_ble_eq_true rfl, by exact Nat.le_of_ble_eq_true rfl⟩ (fun z4 M5 ez4 H locs hG => ?_)
  obtain ⟨ez4, eM5⟩ := ez4
  subst ez4
  rw [eM5] at hG
  refine j_contv (va_runS (As := [.int (J (b2i (pb_X10_isInstant a2)))]) (rest := []) ⟨hx, hb, hml, hown, hts⟩ (Ao_X10_needArgument l h) (va_cwS 1 hts (gj_S ml_RX10_72 i_X10_needArgument n_RX10 k_X10_needArgument) rfl rfl rfl (by decide +kernel) ⟨by exact Nat.le_of_ble_eq_true rfl, by exact Nat.le_of_ble_eq_true rfl⟩) (j_preS hK hSX hG) rfl rfl hl.1 rfl (lv_room (Nat.le_of_ble_eq_true rfl)) dX10_offset_9 ⟨by exact Nat.le_of_ble_eq_true rfl, by exact Nat.le_of_ble_eq_true rfl⟩) hG (c2 := 0) (s2 := 0) ⟨by exact Nat.le_of_ble_eq_true rfl, by exact Nat.le_of_ble_eq_true rfl⟩ (fun M7 h H locs hG => ?_)
  obtain ⟨h, eM7⟩ := h
  rw [eM7] at hG
  refine lv_aload_n hx hb dX10_offset_12 rfl (lv_at hl 0 rfl) ?_
  refine lv_iload_n hx hb dX10_offset_13 rfl (lv_at hl 1 rfl) ?_
  refine j_contr (va_runV (As := [.int (J a1)]) (rest := []) ⟨hx, hb, hml, hown, hts⟩ (A_X10_compiled l ka0 h) (cwV 1 hts (gj_V ml_RX10_144 i_X10_compiled s_X10_compiled n_RX10 k_X10_compiled) rfl rfl rfl (by decide +kernel) ⟨by exact Nat.le_of_ble_eq_true rfl, by exact Nat.le_of_ble_eq_true rfl⟩) (j_preV hK hSX hG (ci := 9) rfl ka0 (by decide)) rfl rfl hl.1 rfl (lv_room (Nat.le_of_ble_eq_true rfl)) dX10_offset_14 ⟨by exact Nat.le_of_ble_eq_true rfl, by exact Nat.le_of_ble_eq_true rfl⟩) hG (c2 := 0) (s2 := 0) ⟨by exact Nat.le_of_ble_eq_true rfl, by exact Nat.le_of_ble_eq_true rfl⟩ (fun k8 M9 h hk8 H locs hG => ?_)
  refine lv_iload_n hx hb dX10_offset_17 rfl (lv_at hl 2 rfl) ?_
  refine j_conti (va_runV (As := [.int (J a2)]) (rest := []) ⟨hx, hb, hml, hown, hts⟩ (A_X7_offsetAt l hk8 h) (cwV 1 hts (gj_V ml_RX10_209 i_X7_offsetAt s_X7_offsetAt n_RX7 k_X7_offsetAt) rfl rfl rfl (by decide +kernel) ⟨by exact Nat.le_of_ble_eq_true rfl, by exact Nat.le_of_ble_eq_true rfl⟩) (j_preV hK hSX hG (ci := 6) rfl hk8 (by decide)) rfl rfl hl.1 rfl (lv_room (Nat.le_of_ble_eq_true rfl)) dX10_offset_18 ⟨by exact Nat.le_of_ble_eq_true rfl, by exact Nat.le_of_ble_eq_true rfl⟩) hG (c2 := 0) (s2 := 0) ⟨by exact Nat.le_of_ble_eq_true rfl, by exact Nat.le_of_ble_eq_true rfl⟩ (fun z10 M11 h H locs hG => ?_)
  obtain ⟨h, eM11⟩ := h
  rw [eM11] at hG
  rw [hQf]
  exact j_ireti hx hb hr hlocks hG h (by decide) dX10_offset_21
abbrev rm_X10_offset : Room := { frames := 8, cells := 1, slots := 6, locals := 131 }
set_option maxRecDepth 100000 in
set_option maxHeartbeats 4000000 in
theorem A_X10_offset (l : Launch) (hst : l.stackTraces = false) {D : va_G} {cy : Nat → ClassId} {o : Nat} {sK sV : Nat → Nat} {M : jT} {a0 : Int} {a1 : Int} {a2 : Int} (ka0 : kd a0 = 10) {Q : Int → jT → Prop} {X : Nat → jT → Prop} (h : wp_X10_offset M a0 a1 a2 Q X) : CxI l yX10_offset (wj yX10_offset cX10_offset 3 (some .int)) rm_X10_offset D cy o sK sV M [.ref (rA o a0), .int (J a1), .int (J a2)] Q X := by
  refine j_ofWx (cc := cX10_offset) (maxL := 3) (ret := (some .int)) (by decide) rfl (Nat.le_of_ble_eq_true rfl) ?_
  intro p e s m args below meth c hx hb hr hlocks hout hml hown hts hK hSX H locs hsz hG ls hl Qf hQf
  have hown : s.vm.findClass RX10 = some m.cls := hown
  have hl : lv_has ls 3 [(0, .ref (rA o a0)), (1, .int (J a1)), (2, .int (J a2))] := hl
  unfold wp_X10_offset at h
  refine lv_aload_n hx hb dX10_offset_0 rfl (lv_at hl 0 rfl) ?_
  refine lv_iload_n hx hb dX10_offset_1 rfl (lv_at hl 1 rfl) ?_
  rcases h with h | h
  · refine j_contv (va_runV (As := [.int (J a1)]) (rest := []) ⟨hx, hb, hml, hown, hts⟩ (Ao_X10_needZone l ka0 h) (cwV 1 hts (gj_V ml_RX10_137 i_X10_needZone s_X10_needZone n_RX10 k_X10_needZone) rfl rfl rfl (by decide +kernel) ⟨by exact Nat.le_of_ble_eq_true rfl, by exact Nat.le_of_ble_eq_true rfl⟩) (j_preV hK hSX hG (ci := 9) rfl ka0 (by decide)) rfl rfl hl.1 rfl (lv_room (Nat.le_of_ble_eq_true rfl)) dX10_offset_2 ⟨by exact Nat.le_of_ble_eq_true rfl, by exact Nat.le_of_ble_eq_true rfl⟩) hG (c2 := 0) (s2 := 0) ⟨by exact Nat.le_of_ble_eq_true rfl, by exact Nat.le_of_ble_eq_true rfl⟩ (fun M2 h H locs hG => ?_)
    obtain ⟨h, eM2⟩ := h
    rw [eM2] at hG
    refine lv_iload_n hx hb dX10_offset_5 rfl (lv_at hl 2 rfl) ?_
    obtain ⟨g3, h⟩ := h
    refine j_conti (va_runS (As := [.int (J a2)]) (rest := []) ⟨hx, hb, hml, hown, hts⟩ (A_X10_isInstant l g3) (va_cwS 1 hts (gj_S ml_RX10_206 i_X10_isInstant n_RX10 k_X10_isInstant) rfl rfl rfl (by decide +kernel) ⟨by exact Nat.le_of_ble_eq_true rfl, by exact Nat.le_of_ble_eq_true rfl⟩) (j_preS hK hSX hG) rfl rfl hl.1 rfl (lv_room (Nat.le_of_ble_eq_true rfl)) dX10_offset_6 ⟨by exact Nat.le_of_ble_eq_true rfl, by exact Nat.le_of_ble_eq_true rfl⟩) hG (c2 := 0) (s2 := 0) ⟨by exact Nat.le_of_ble_eq_true rfl, by exact Nat.le_of_ble_eq_true rfl⟩ (fun z4 M5 ez4 H locs hG => ?_)
    obtain ⟨ez4, eM5⟩ := ez4
    subst ez4
    rw [eM5] at hG
    rcases h with h | h
    · refine j_contv (va_runS (As := [.int (J (b2i (pb_X10_isInstant a2)))]) (rest := []) ⟨hx, hb, hml, hown, hts⟩ (Ao_X10_needArgument l h) (va_cwS 1 hts (gj_S ml_RX10_72 i_X10_needArgument n_RX10 k_X10_needArgument) rfl rfl rfl (by decide +kernel) ⟨by exact Nat.le_of_ble_eq_true rfl, by exact Nat.le_of_ble_eq_true rfl⟩) (j_preS hK hSX hG) rfl rfl hl.1 rfl (lv_room (Nat.le_of_ble_eq_true rfl)) dX10_offset_9 ⟨by exact Nat.le_of_ble_eq_true rfl, by exact Nat.le_of_ble_eq_true rfl⟩) hG (c2 := 0) (s2 := 0) ⟨by exact Nat.le_of_ble_eq_true rfl, by exact Nat.le_of_ble_eq_true rfl⟩ (fun M7 h H locs hG => ?_)
      obtain ⟨h, eM7⟩ := h
      rw [eM7] at hG
      refine lv_aload_n hx hb dX10_offset_12 rfl (lv_at hl 0 rfl) ?_
      refine lv_iload_n hx hb dX10_offset_13 rfl (lv_at hl 1 rfl) ?_
      refine j_contr (va_runV (As := [.int (J a1)]) (rest := []) ⟨hx, hb, hml, hown, hts⟩ (A_X10_compiled l ka0 h) (cwV 1 hts (gj_V ml_RX10_144 i_X10_compiled s_X10_compiled n_RX10 k_X10_compiled) rfl rfl rfl (by decide +kernel) ⟨by exact Nat.le_of_ble_eq_true rfl, by exact Nat.le_of_ble_eq_true rfl⟩) (j_preV hK hSX hG (ci := 9) rfl ka0 (by decide)) rfl rfl hl.1 rfl (lv_room (Nat.le_of_ble_eq_true rfl)) dX10_offset_14 ⟨by exact Nat.le_of_ble_eq_true rfl, by exact Nat.le_of_ble_eq_true rfl⟩) hG (c2 := 0) (s2 := 0) ⟨by exact Nat.le_of_ble_eq_true rfl, by exact Nat.le_of_ble_eq_true rfl⟩ (fun k8 M9 h hk8 H locs hG => ?_)
      refine lv_iload_n hx hb dX10_offset_17 rfl (lv_at hl 2 rfl) ?_
      refine j_conti (va_runV (As := [.int (J a2)]) (rest := []) ⟨hx, hb, hml, hown, hts⟩ (A_X7_offsetAt l hk8 h) (cwV 1 hts (gj_V ml_RX10_209 i_X7_offsetAt s_X7_offsetAt n_RX7 k_X7_offsetAt) rfl rfl rfl (by decide +kernel) ⟨by exact Nat.le_of_ble_eq_true rfl, by exact Nat.le_of_ble_eq_true rfl⟩) (j_preV hK hSX hG (ci := 6) rfl hk8 (by decide)) rfl rfl hl.1 rfl (lv_room (Nat.le_of_ble_eq_true rfl)) dX10_offset_18 ⟨by exact Nat.le_of_ble_eq_true rfl, by exact Nat.le_of_ble_eq_true rfl⟩) hG (c2 := 0) (s2 := 0) ⟨by exact Nat.le_of_ble_eq_true rfl, by exact Nat.le_of_ble_eq_true rfl⟩ (fun z10 M11 h H locs hG => ?_)
      obtain ⟨h, eM11⟩ := h
      rw [eM11] at hG
      rw [hQf]
      exact vx_ret (j_ireti hx hb hr hlocks hG h (by decide) dX10_offset_21)
    · refine j_contxv (vx_runS (As := [.int (J (b2i (pb_X10_isInstant a2)))]) (rest := []) ⟨hx, hb, hml, hown, hts⟩ (A_X10_needArgument l hst h) (va_cwS 1 hts (gj_S ml_RX10_72 i_X10_needArgument n_RX10 k_X10_needArgument) rfl rfl rfl (by decide +kernel) ⟨by exact Nat.le_of_ble_eq_true rfl, by exact Nat.le_of_ble_eq_true rfl⟩) (j_preS hK hSX hG) rfl rfl hl.1 rfl (lv_room (Nat.le_of_ble_eq_true rfl)) dX10_offset_9 ⟨by exact Nat.le_of_ble_eq_true rfl, by exact Nat.le_of_ble_eq_true rfl⟩) hG (c2 := 1) (s2 := 6) ⟨by exact Nat.le_of_ble_eq_true rfl, by exact Nat.le_of_ble_eq_true rfl⟩ (fun x M h ce q H locs hG h1 h2 h3 => ?_) (fun M h H locs hG => h.elim)
      rw [hQf]
      exact j_xout hlocks hout hG h h1 h2 h3 (by decide)
  · refine j_contxv (vx_runV (As := [.int (J a1)]) (rest := []) ⟨hx, hb, hml, hown, hts⟩ (A_X10_needZone l hst ka0 h) (cwV 1 hts (gj_V ml_RX10_137 i_X10_needZone s_X10_needZone n_RX10 k_X10_needZone) rfl rfl rfl (by decide +kernel) ⟨by exact Nat.le_of_ble_eq_true rfl, by exact Nat.le_of_ble_eq_true rfl⟩) (j_preV hK hSX hG (ci := 9) rfl ka0 (by decide)) rfl rfl hl.1 rfl (lv_room (Nat.le_of_ble_eq_true rfl)) dX10_offset_2 ⟨by exact Nat.le_of_ble_eq_true rfl, by exact Nat.le_of_ble_eq_true rfl⟩) hG (c2 := 1) (s2 := 6) ⟨by exact Nat.le_of_ble_eq_true rfl, by exact Nat.le_of_ble_eq_true rfl⟩ (fun x M h ce q H locs hG h1 h2 h3 => ?_) (fun M h H locs hG => h.elim)
    rw [hQf]
    exact j_xout hlocks hout hG h h1 h2 h3 (by decide)

abbrev rm_X9_listEventsOfYear : Room := { frames := 3, cells := 0, slots := 0, locals := 70 }
set_option maxRecDepth 100000 in
set_option maxHeartbeats 4000000 in
theorem A_X9_listEventsOfYear (l : Launch) {D : va_G} {cy : Nat → ClassId} {o : Nat} {sK sV : Nat → Nat} {M : jT} {a0 : Int} {a1 : Int} {a2 : Int} (ka0 : kd a0 = 9) (ka2 : kd a2 = 100260) {Q : Int → jT → Prop} (h : wp_X9_listEventsOfYear M a0 a1 a2 Q) : CoI l yX9_listEventsOfYear (wj yX9_listEventsOfYear cX9_listEventsOfYear 7 (some .int)) rm_X9_listEventsOfYear D cy o sK sV M [.ref (rA o a0), .int (J a1), .ref (rA o a2)] Q := by
  refine j_ofW (cc := cX9_listEventsOfYear) (maxL := 7) (ret := (some .int)) (by decide) rfl (Nat.le_of_ble_eq_true rfl) ?_
  intro p e s m args below meth c hx hb hr hlocks hml hown hts hK hSX H locs hG ls hl Qf hQf
  have hown : s.vm.findClass RX9 = some m.cls := hown
  have hl : lv_has ls 7 [(0, .ref (rA o a0)), (1, .int (J a1)), (2, .ref (rA o a2))] := hl
  have w_fl_RX9_28 := hts _ (List.mem_cons_of_mem _ fl_RX9_28)
  have w_fl_RX9_25 := hts _ (List.mem_cons_of_mem _ fl_RX9_25)
  have w_fl_RX9_15 := hts _ (List.mem_cons_of_mem _ fl_RX9_15)
  unfold wp_X9_listEventsOfYear at h
  refine lv_iconst (v := J 0) hx hb dX9_listEventsOfYear_0 (by decide) ?_
  refine lv_istore_n (lv' := [(3, .int (J 0)), (0, .ref (rA o a0)), (1, .int (J a1)), (2, .ref (rA o a2))]) hx hb dX9_listEventsOfYear_1 rfl hl (by decide) rfl (fun ls hl => ?_)
  refine lv_iconst (v := J 0) hx hb dX9_listEventsOfYear_2 (by decide) ?_
  refine lv_istore (lv' := [(4, .int (J 0)), (3, .int (J 0)), (0, .ref (rA o a0)), (1, .int (J a1)), (2, .ref (rA o a2))]) hx hb dX9_listEventsOfYear_3 hl (by decide) rfl (fun ls hl => ?_)
  obtain ⟨I4, ⟨n5s, iI4⟩, qI4⟩ := h
  have lI4 : ∀ (n5 : Nat) (x1 : Int) (x2 : Int) (M3 : jT), I4 n5 x1 x2 M3 → ∀ (H : Heap) (locs : List Loc), GM D cy o M3 s.heap H locs → ∀ ls : Array Slot, lv_has ls 7 [(0, .ref (rA o a0)), (1, .int (J a1)), (2, .ref (rA o a2)), (3, .int (J x1)), (4, .int (J x2))] → W p l e rm_X9_listEventsOfYear s m args below meth c H locs 0 0 Qf (F0 m 5 ls []) := by
    intro n5
    induction n5 using Nat.strongRecOn with
    | ind n5 rI4 =>
      intro x1 x2 M3 iI4 H locs hG ls hl
      have h := qI4 n5 x1 x2 M3 iI4
      refine lv_iload hx hb dX9_listEventsOfYear_5 (lv_at hl 4 rfl) ?_
      refine lv_aload_n hx hb dX9_listEventsOfYear_7 rfl (lv_at hl 0 rfl) ?_
      refine j_geti hx hb hts hown hK hG (k := a0) (fun w h => List.mem_cons_of_mem _ (u_X9 w h)) (ci := 8) rfl ka0 2 (by decide) (jz := 2) rfl w_fl_RX9_28 dX9_listEventsOfYear_8 ?_
      obtain ⟨g7, h⟩ := h
      obtain ⟨g8, h⟩ := h
      refine j_icmp_ge (tgt := 76) hx hb dX9_listEventsOfYear_11 (by decide) g7 g8 (fun c6 => ?_) (fun c6 => ?_)
      · have h := h.1 c6
        refine lv_iconst (v := J 0) hx hb dX9_listEventsOfYear_76 (by decide) ?_
        refine lv_istore (lv' := [(4, .int (J 0)), (0, .ref (rA o a0)), (1, .int (J a1)), (2, .ref (rA o a2)), (3, .int (J x1))]) hx hb dX9_listEventsOfYear_77 hl (by decide) rfl (fun ls hl => ?_)
        obtain ⟨I12, ⟨n13s, iI12⟩, qI12⟩ := h
        have lI12 : ∀ (n13 : Nat) (x9 : Int) (x10 : Int) (M11 : jT), I12 n13 x9 x10 M11 → ∀ (H : Heap) (locs : List Loc), GM D cy o M11 s.heap H locs → ∀ ls : Array Slot, lv_has ls 7 [(0, .ref (rA o a0)), (1, .int (J a1)), (2, .ref (rA o a2)), (3, .int (J x9)), (4, .int (J x10))] → W p l e rm_X9_listEventsOfYear s m args below meth c H locs 0 0 Qf (F0 m 79 ls []) := by
          intro n13
          induction n13 using Nat.strongRecOn with
          | ind n13 rI12 =>
            intro x9 x10 M11 iI12 H locs hG ls hl
            have h := qI12 n13 x9 x10 M11 iI12
            refine lv_iload hx hb dX9_listEventsOfYear_79 (lv_at hl 4 rfl) ?_
            refine lv_aload_n hx hb dX9_listEventsOfYear_81 rfl (lv_at hl 0 rfl) ?_
            refine j_geti hx hb hts hown hK hG (k := a0) (fun w h => List.mem_cons_of_mem _ (u_X9 w h)) (ci := 8) rfl ka0 1 (by decide) (jz := 1) rfl w_fl_RX9_25 dX9_listEventsOfYear_82 ?_
            obtain ⟨g15, h⟩ := h
            obtain ⟨g16, h⟩ := h
            refine j_icmp_ge (tgt := 112) hx hb dX9_listEventsOfYear_85 (by decide) g15 g16 (fun c14 => ?_) (fun c14 => ?_)
            · have h := h.1 c14
              refine lv_iload_n hx hb dX9_listEventsOfYear_112 rfl (lv_at hl 3 rfl) ?_
              rw [hQf]
              exact j_ireti hx hb hr hlocks hG h (by decide) dX9_listEventsOfYear_113
            · have h := h.2 c14
              refine lv_aload_n hx hb dX9_listEventsOfYear_88 rfl (lv_at hl 0 rfl) ?_
              refine lv_aload_n hx hb dX9_listEventsOfYear_89 rfl (lv_at hl 2 rfl) ?_
              refine lv_iload_n hx hb dX9_listEventsOfYear_90 rfl (lv_at hl 3 rfl) ?_
              refine lv_aload_n hx hb dX9_listEventsOfYear_91 rfl (lv_at hl 0 rfl) ?_
              refine lv_iload hx hb dX9_listEventsOfYear_92 (lv_at hl 4 rfl) ?_
              refine lv_iload_n hx hb dX9_listEventsOfYear_94 rfl (lv_at hl 1 rfl) ?_
              obtain ⟨g17, h⟩ := h
              refine j_conti (va_runV (As := [.int (J x10), .int (J a1)]) (rest := [.int (J x9), .ref (rA o a2), .ref (rA o a0)]) ⟨hx, hb, hml, hown, hts⟩ (A_X9_dayOfEvent l ka0 g17) (cwV 2 hts (gj_V ml_RX9_55 i_X9_dayOfEvent s_X9_dayOfEvent n_RX9 k_X9_dayOfEvent) rfl rfl rfl (by decide +kernel) ⟨by exact Nat.le_of_ble_eq_true rfl, by exact Nat.le_of_ble_eq_true rfl⟩) (j_preV hK hSX hG (ci := 8) rfl ka0 (by decide)) rfl rfl hl.1 rfl (lv_room (Nat.le_of_ble_eq_true rfl)) dX9_listEventsOfYear_95 ⟨by exact Nat.le_of_ble_eq_true rfl, by exact Nat.le_of_ble_eq_true rfl⟩) hG (c2 := 0) (s2 := 0) ⟨by exact Nat.le_of_ble_eq_true rfl, by exact Nat.le_of_ble_eq_true rfl⟩ (fun z18 M19 ez18 H locs hG => ?_)
              obtain ⟨ez18, eM19⟩ := ez18
              subst ez18
              rw [eM19] at hG
              refine lv_iconst (v := J 4) hx hb dX9_listEventsOfYear_98 (by decide) ?_
              refine lv_iload hx hb dX9_listEventsOfYear_99 (lv_at hl 4 rfl) ?_
              refine j_iadd hx hb dX9_listEventsOfYear_101 ?_
              refine j_conti (va_runV (As := [.ref (rA o a2), .int (J x9), .int (J (pf_X9_dayOfEvent M11 a0 x10 a1)), .int (J (4 + x10))]) (rest := []) ⟨hx, hb, hml, hown, hts⟩ (A_X9_putKey l ka0 ka2 h) (cwV 4 hts (gj_V ml_RX9_43 i_X9_putKey s_X9_putKey n_RX9 k_X9_putKey) rfl rfl rfl (by decide +kernel) ⟨by exact Nat.le_of_ble_eq_true rfl, by exact Nat.le_of_ble_eq_true rfl⟩) (j_preV hK hSX hG (ci := 8) rfl ka0 (by decide)) rfl rfl hl.1 rfl (lv_room (Nat.le_of_ble_eq_true rfl)) dX9_listEventsOfYear_102 ⟨by exact Nat.le_of_ble_eq_true rfl, by exact Nat.le_of_ble_eq_true rfl⟩) hG (c2 := 0) (s2 := 0) ⟨by exact Nat.le_of_ble_eq_true rfl, by exact Nat.le_of_ble_eq_true rfl⟩ (fun z20 M21 h H locs hG => ?_)
              refine lv_istore_n (lv' := [(3, .int (J z20)), (0, .ref (rA o a0)), (1, .int (J a1)), (2, .ref (rA o a2)), (4, .int (J x10))]) hx hb dX9_listEventsOfYear_105 rfl hl (by decide) rfl (fun ls hl => ?_)
              refine j_iinc hx hb dX9_listEventsOfYear_106 hl (k := 4) rfl (by decide) (fun x22 ex22 ls hl => ?_)
              have h := h x22 ex22
              have hl : lv_has ls 7 [(4, .int (J x22)), (3, .int (J z20)), (0, .ref (rA o a0)), (1, .int (J a1)), (2, .ref (rA o a2))] := hl
              refine lv_goto (tgt := 79) hx hb dX9_listEventsOfYear_109 (by decide) ?_
              obtain ⟨n23, ln23, iI12⟩ := h
              exact rI12 n23 ln23 z20 x22 M21 iI12 H locs hG ls (lv_sub hl [2, 3, 4, 1, 0] rfl)
        exact lI12 n13s x1 0 M3 iI12 H locs hG ls (lv_sub hl [1, 2, 3, 4, 0] rfl)
      · have h := h.2 c6
        refine lv_aload_n hx hb dX9_listEventsOfYear_14 rfl (lv_at hl 0 rfl) ?_
        refine j_getr hx hb hts hown hK hG (k := a0) (fun w h => List.mem_cons_of_mem _ (u_X9 w h)) (ci := 8) rfl ka0 4 (k2 := a0 + 2) (by decide) (by show a0 + (2 : Int) = a0 + 2; omega) w_fl_RX9_15 dX9_listEventsOfYear_15 ?_
        refine lv_iload hx hb dX9_listEventsOfYear_18 (lv_at hl 4 rfl) ?_
        obtain ⟨g24, h⟩ := h
        refine j_iald hx hb hK hG (n := 4) (kf_9_4 ka0) (by decide) g24 dX9_listEventsOfYear_20 ?_
        refine j_topi (fun x25 ex25 => ?_)
        have h := h x25 ex25
        refine lv_istore (lv' := [(5, .int (J x25)), (0, .ref (rA o a0)), (1, .int (J a1)), (2, .ref (rA o a2)), (3, .int (J x1)), (4, .int (J x2))]) hx hb dX9_listEventsOfYear_21 hl (by decide) rfl (fun ls hl => ?_)
        refine lv_iload hx hb dX9_listEventsOfYear_23 (lv_at hl 0 rfl) ?_
        refine lv_iload_n hx hb dX9_listEventsOfYear_25 rfl (lv_at hl 2 rfl) ?_
        obtain ⟨g26, h⟩ := h
        refine j_conti (va_runS (As := [.int (J a1)]) (rest := [.int (J x25)]) ⟨hx, hb, hml, hown, hts⟩ (A_X1_yearStart l g26) (va_cwS 1 hts (gj_S ml_RX9_51 i_X1_yearStart n_RX1 k_X1_yearStart) rfl rfl rfl (by decide +kernel) ⟨by exact Nat.le_of_ble_eq_true rfl, by exact Nat.le_of_ble_eq_true rfl⟩) (j_preS hK hSX hG) rfl rfl hl.1 rfl (lv_room (Nat.le_of_ble_eq_true rfl)) dX9_listEventsOfYear_26 ⟨by exact Nat.le_of_ble_eq_true rfl, by exact Nat.le_of_ble_eq_true rfl⟩) hG (c2 := 0) (s2 := 0) ⟨by exact Nat.le_of_ble_eq_true rfl, by exact Nat.le_of_ble_eq_true rfl⟩ (fun z27 M28 ez27 H locs hG => ?_)
        obtain ⟨ez27, eM28⟩ := ez27
        subst ez27
        rw [eM28] at hG
        obtain ⟨K47, hK47, h⟩ := h
        have jK47 : ∀ (x46 : Int), K47 x46 → ∀ (H : Heap) (locs : List Loc), GM D cy o M3 s.heap H locs → ∀ ls : Array Slot, lv_has ls 7 [(0, .ref (rA o a0)), (1, .int (J a1)), (2, .ref (rA o a2)), (3, .int (J x1)), (4, .int (J x2)), (5, .int (J x25))] → W p l e rm_X9_listEventsOfYear s m args below meth c H locs 0 0 Qf (F0 m 48 ls [.int (J x46)]) := by
          intro x46 hcK47 H locs hG ls hl
          have h := hK47 x46 hcK47
          refine lv_istore (lv' := [(6, .int (J x46)), (0, .ref (rA o a0)), (1, .int (J a1)), (2, .ref (rA o a2)), (3, .int (J x1)), (4, .int (J x2)), (5, .int (J x25))]) hx hb dX9_listEventsOfYear_48 hl (by decide) rfl (fun ls hl => ?_)
          refine lv_aload_n hx hb dX9_listEventsOfYear_50 rfl (lv_at hl 1 rfl) ?_
          refine lv_aload_n hx hb dX9_listEventsOfYear_51 rfl (lv_at hl 3 rfl) ?_
          refine lv_iload_n hx hb dX9_listEventsOfYear_52 rfl (lv_at hl 4 rfl) ?_
          refine lv_iload hx hb dX9_listEventsOfYear_53 (lv_at hl 0 rfl) ?_
          obtain ⟨hg, h⟩ := h
          have jK51 : ∀ x50 : Int, (x46 = 0 → x50 = (-1)) → (x46 ≠ 0 → x50 = x25) → ∀ (H : Heap) (locs : List Loc), GM D cy o M3 s.heap H locs → ∀ ls : Array Slot, lv_has ls 7 [(0, .ref (rA o a0)), (1, .int (J a1)), (2, .ref (rA o a2)), (4, .int (J x2))] → W p l e rm_X9_listEventsOfYear s m args below meth c H locs 0 0 Qf (F0 m 64 ls [.int (J x50), .int (J x1), .ref (rA o a2), .ref (rA o a0)]) := by
            intro x50 qx50_0 qx50_1 H locs hG ls hl
            have h := h x50 qx50_0 qx50_1
            refine lv_iload hx hb dX9_listEventsOfYear_64 (lv_at hl 3 rfl) ?_
            refine j_conti (va_runV (As := [.ref (rA o a2), .int (J x1), .int (J x50), .int (J x2)]) (rest := []) ⟨hx, hb, hml, hown, hts⟩ (A_X9_putKey l ka0 ka2 h) (cwV 4 hts (gj_V ml_RX9_43 i_X9_putKey s_X9_putKey n_RX9 k_X9_putKey) rfl rfl rfl (by decide +kernel) ⟨by exact Nat.le_of_ble_eq_true rfl, by exact Nat.le_of_ble_eq_true rfl⟩) (j_preV hK hSX hG (ci := 8) rfl ka0 (by decide)) rfl rfl hl.1 rfl (lv_room (Nat.le_of_ble_eq_true rfl)) dX9_listEventsOfYear_66 ⟨by exact Nat.le_of_ble_eq_true rfl, by exact Nat.le_of_ble_eq_true rfl⟩) hG (c2 := 0) (s2 := 0) ⟨by exact Nat.le_of_ble_eq_true rfl, by exact Nat.le_of_ble_eq_true rfl⟩ (fun z54 M55 h H locs hG => ?_)
            refine lv_istore_n (lv' := [(3, .int (J z54)), (0, .ref (rA o a0)), (1, .int (J a1)), (2, .ref (rA o a2)), (4, .int (J x2))]) hx hb dX9_listEventsOfYear_69 rfl hl (by decide) rfl (fun ls hl => ?_)
            refine j_iinc hx hb dX9_listEventsOfYear_70 hl (k := 4) rfl (by decide) (fun x56 ex56 ls hl => ?_)
            have h := h x56 ex56
            have hl : lv_has ls 7 [(4, .int (J x56)), (3, .int (J z54)), (0, .ref (rA o a0)), (1, .int (J a1)), (2, .ref (rA o a2))] := hl
            refine lv_goto (tgt := 5) hx hb dX9_listEventsOfYear_73 (by decide) ?_
            obtain ⟨n57, ln57, iI4⟩ := h
            exact rI4 n57 ln57 z54 x56 M55 iI4 H locs hG ls (lv_sub hl [2, 3, 4, 1, 0] rfl)
          have h := hg
          obtain ⟨g53, h⟩ := h
          refine j_if_eq (tgt := 63) hx hb dX9_listEventsOfYear_55 (by decide) g53 (fun c52 => ?_) (fun c52 => ?_)
          · have h := h.1 c52
            refine lv_iconst (v := J (-1)) hx hb dX9_listEventsOfYear_63 (by decide) ?_
            exact jK51 ((-1)) (fun _ => rfl) (fun q => absurd q (by omega)) H locs hG ls (lv_sub hl [1, 2, 3, 5] rfl)
          · have h := h.2 c52
            refine lv_iload hx hb dX9_listEventsOfYear_58 (lv_at hl 6 rfl) ?_
            refine lv_goto (tgt := 64) hx hb dX9_listEventsOfYear_60 (by decide) ?_
            exact jK51 x25 (fun q => absurd q (by omega)) (fun _ => rfl) H locs hG ls (lv_sub hl [1, 2, 3, 5] rfl)
        obtain ⟨K66, hK66, h⟩ := h
        have jK66 : K66 → ∀ (H : Heap) (locs : List Loc), GM D cy o M3 s.heap H locs → ∀ ls : Array Slot, lv_has ls 7 [(0, .ref (rA o a0)), (1, .int (J a1)), (2, .ref (rA o a2)), (3, .int (J x1)), (4, .int (J x2)), (5, .int (J x25))] → W p l e rm_X9_listEventsOfYear s m args below meth c H locs 0 0 Qf (F0 m 47 ls []) := by
          intro hcK66 H locs hG ls hl
          have h := hK66 hcK66
          refine lv_iconst (v := J 0) hx hb dX9_listEventsOfYear_47 (by decide) ?_
          exact jK47 0 h H locs hG ls (lv_sub hl [0, 1, 2, 3, 4, 5] rfl)
        obtain ⟨g68, h⟩ := h
        obtain ⟨g69, h⟩ := h
        refine j_icmp_lt (tgt := 47) hx hb dX9_listEventsOfYear_29 (by decide) g68 g69 (fun c67 => ?_) (fun c67 => ?_)
        · have h := h.1 c67
          exact jK66 h H locs hG ls (lv_sub hl [1, 2, 3, 4, 5, 0] rfl)
        · have h := h.2 c67
          refine lv_iload hx hb dX9_listEventsOfYear_32 (lv_at hl 0 rfl) ?_
          refine lv_iload_n hx hb dX9_listEventsOfYear_34 rfl (lv_at hl 2 rfl) ?_
          refine lv_iconst (v := J 1) hx hb dX9_listEventsOfYear_35 (by decide) ?_
          refine j_iadd hx hb dX9_listEventsOfYear_36 ?_
          obtain ⟨g70, h⟩ := h
          refine j_conti (va_runS (As := [.int (J (a1 + 1))]) (rest := [.int (J x25)]) ⟨hx, hb, hml, hown, hts⟩ (A_X1_yearStart l g70) (va_cwS 1 hts (gj_S ml_RX9_51 i_X1_yearStart n_RX1 k_X1_yearStart) rfl rfl rfl (by decide +kernel) ⟨by exact Nat.le_of_ble_eq_true rfl, by exact Nat.le_of_ble_eq_true rfl⟩) (j_preS hK hSX hG) rfl rfl hl.1 rfl (lv_room (Nat.le_of_ble_eq_true rfl)) dX9_listEventsOfYear_37 ⟨by exact Nat.le_of_ble_eq_true rfl, by exact Nat.le_of_ble_eq_true rfl⟩) hG (c2 := 0) (s2 := 0) ⟨by exact Nat.le_of_ble_eq_true rfl, by exact Nat.le_of_ble_eq_true rfl⟩ (fun z71 M72 ez71 H locs hG => ?_)
          obtain ⟨ez71, eM72⟩ := ez71
          subst ez71
          rw [eM72] at hG
          obtain ⟨g74, h⟩ := h
          refine j_icmp_ge (tgt := 47) hx hb dX9_listEventsOfYear_40 (by decide) g68 g74 (fun c73 => ?_) (fun c73 => ?_)
          · have h := h.1 c73
            exact jK66 h H locs hG ls (lv_sub hl [1, 2, 3, 4, 5, 0] rfl)
          · have h := h.2 c73
            refine lv_iconst (v := J 1) hx hb dX9_listEventsOfYear_43 (by decide) ?_
            refine lv_goto (tgt := 48) hx hb dX9_listEventsOfYear_44 (by decide) ?_
            exact jK47 1 h H locs hG ls (lv_sub hl [1, 2, 3, 4, 5, 0] rfl)
  exact lI4 n5s 0 0 M iI4 H locs hG ls (lv_sub hl [2, 3, 4, 1, 0] rfl)

abbrev rom_X10_offsetAgain : Room := { frames := 4, cells := 0, slots := 0, locals := 96 }
set_option maxRecDepth 100000 in
set_option maxHeartbeats 4000000 in
theorem Ao_X10_offsetAgain (l : Launch) {D : va_G} {cy : Nat → ClassId} {o : Nat} {sK sV : Nat → Nat} {M : jT} {a0 : Int} {a1 : Int} {a2 : Int} (ka0 : kd a0 = 10) {Q : Int → jT → Prop} (h : wo_X10_offsetAgain M a0 a1 a2 Q) : CoI l yX10_offsetAgain (wj yX10_offsetAgain cX10_offsetAgain 8 (some .int)) rom_X10_offsetAgain D cy o sK sV M [.ref (rA o a0), .int (J a1), .int (J a2)] Q := by
  refine j_ofW (cc := cX10_offsetAgain) (maxL := 8) (ret := (some .int)) (by decide) rfl (Nat.le_of_ble_eq_true rfl) ?_
  intro p e s m args below meth c hx hb hr hlocks hml hown hts hK hSX H locs hG ls hl Qf hQf
  have hown : s.vm.findClass RX10 = some m.cls := hown
  have hl : lv_has ls 8 [(0, .ref (rA o a0)), (1, .int (J a1)), (2, .int (J a2))] := hl
  have w_fl_RX10_12 := hts _ (List.mem_cons_of_mem _ fl_RX10_12)
  have w_fl_RX10_140 := hts _ (List.mem_cons_of_mem _ fl_RX10_140)
  have w_fl_RX10_40 := hts _ (List.mem_cons_of_mem _ fl_RX10_40)
  have w_fl_RX10_148 := hts _ (List.mem_cons_of_mem _ fl_RX10_148)
  have w_fl_RX10_58 := hts _ (List.mem_cons_of_mem _ fl_RX10_58)
  have w_fl_RX10_227 := hts _ (List.mem_cons_of_mem _ fl_RX10_227)
  have w_fl_RX10_230 := hts _ (List.mem_cons_of_mem _ fl_RX10_230)
  have w_fl_RX10_231 := hts _ (List.mem_cons_of_mem _ fl_RX10_231)
  unfold wo_X10_offsetAgain at h
  refine lv_aload_n hx hb dX10_offsetAgain_0 rfl (lv_at hl 0 rfl) ?_
  refine lv_iload_n hx hb dX10_offsetAgain_1 rfl (lv_at hl 1 rfl) ?_
  refine j_contv (va_runV (As := [.int (J a1)]) (rest := []) ⟨hx, hb, hml, hown, hts⟩ (Ao_X10_needZone l ka0 h) (cwV 1 hts (gj_V ml_RX10_137 i_X10_needZone s_X10_needZone n_RX10 k_X10_needZone) rfl rfl rfl (by decide +kernel) ⟨by exact Nat.le_of_ble_eq_true rfl, by exact Nat.le_of_ble_eq_true rfl⟩) (j_preV hK hSX hG (ci := 9) rfl ka0 (by decide)) rfl rfl hl.1 rfl (lv_room (Nat.le_of_ble_eq_true rfl)) dX10_offsetAgain_2 ⟨by exact Nat.le_of_ble_eq_true rfl, by exact Nat.le_of_ble_eq_true rfl⟩) hG (c2 := 0) (s2 := 0) ⟨by exact Nat.le_of_ble_eq_true rfl, by exact Nat.le_of_ble_eq_true rfl⟩ (fun M2 h H locs hG => ?_)
  obtain ⟨h, eM2⟩ := h
  rw [eM2] at hG
  refine lv_iload_n hx hb dX10_offsetAgain_5 rfl (lv_at hl 2 rfl) ?_
  obtain ⟨g3, h⟩ := h
  refine j_conti (va_runS (As := [.int (J a2)]) (rest := []) ⟨hx, hb, hml, hown, hts⟩ (A_X10_isInstant l g3) (va_cwS 1 hts (gj_S ml_RX10_206 i_X10_isInstant n_RX10 k_X10_isInstant) rfl rfl rfl (by decide +kernel) ⟨by exact Nat.le_of_ble_eq_true rfl, by exact Nat.le_of_ble_eq_true rfl⟩) (j_preS hK hSX hG) rfl rfl hl.1 rfl (lv_room (Nat.le_of_ble_eq_true rfl)) dX10_offsetAgain_6 ⟨by exact Nat.le_of_ble_eq_true rfl, by exact Nat.le_of_ble_eq_true rfl⟩) hG (c2 := 0) (s2 := 0) ⟨by exact Nat.le_of_ble_eq_true rfl, by exact Nat.le_of_ble_eq_true rfl⟩ (fun z4 M5 ez4 H locs hG => ?_)
  obtain ⟨ez4, eM5⟩ := ez4
  subst ez4
  rw [eM5] at hG
  refine j_contv (va_runS (As := [.int (J (b2i (pb_X10_isInstant a2)))]) (rest := []) ⟨hx, hb, hml, hown, hts⟩ (Ao_X10_needArgument l h) (va_cwS 1 hts (gj_S ml_RX10_72 i_X10_needArgument n_RX10 k_X10_needArgument) rfl rfl rfl (by decide +kernel) ⟨by exact Nat.le_of_ble_eq_true rfl, by exact Nat.le_of_ble_eq_true rfl⟩) (j_preS hK hSX hG) rfl rfl hl.1 rfl (lv_room (Nat.le_of_ble_eq_true rfl)) dX10_offsetAgain_9 ⟨by exact Nat.le_of_ble_eq_true rfl, by exact Nat.le_of_ble_eq_true rfl⟩) hG (c2 := 0) (s2 := 0) ⟨by exact Nat.le_of_ble_eq_true rfl, by exact Nat.le_of_ble_eq_true rfl⟩ (fun M7 h H locs hG => ?_)
  obtain ⟨h, eM7⟩ := h
  rw [eM7] at hG
  refine lv_aload_n hx hb dX10_offsetAgain_12 rfl (lv_at hl 0 rfl) ?_
  refine j_getr hx hb hts hown hK hG (k := a0) (fun w h => List.mem_cons_of_mem _ (u_X10 w h)) (ci := 9) rfl ka0 0 (k2 := a0 + 1) (by decide) (by show a0 + (1 : Int) = a0 + 1; omega) w_fl_RX10_12 dX10_offsetAgain_13 ?_
  refine j_getr hx hb hts hown hK hG (k := a0 + 1) (fun w h => List.mem_cons_of_mem _ (u_X0 w h)) (ci := 0) rfl (kf_10_0 ka0) 2 (k2 := a0 + 2) (by decide) (by show (a0 + 1) + (1 : Int) = a0 + 2; omega) w_fl_RX10_140 dX10_offsetAgain_16 ?_
  refine lv_iload_n hx hb dX10_offsetAgain_19 rfl (lv_at hl 1 rfl) ?_
  obtain ⟨g8, h⟩ := h
  refine j_aald hx hb hK hG (t := 20) (t0 := 3) (k2 := a0 + 4 * a1 + 4) (show kd (a0 + 2) = 20 from (show (a0 + 1) + 1 = a0 + 2 from by omega) ▸ (kf_1_2 (kf_10_0 ka0))) (by decide) rfl g8 (by simp only [ra_20]; omega) dX10_offsetAgain_20 ?_
  have k9 : kd (a0 + 4 * a1 + 4) = 9 := by have q9 := (ka_20 (show kd (a0 + 2) = 20 from (show (a0 + 1) + 1 = a0 + 2 from by omega) ▸ (kf_1_2 (kf_10_0 ka0))) g8); rwa [show (a0 + 2) + 2 + 4 * a1 = a0 + 4 * a1 + 4 from by omega] at q9
  refine lv_astore_n (lv' := [(3, .ref (rA o (a0 + 4 * a1 + 4))), (0, .ref (rA o a0)), (1, .int (J a1)), (2, .int (J a2))]) hx hb dX10_offsetAgain_21 rfl hl (by decide) rfl (fun ls hl => ?_)
  refine lv_aload_n hx hb dX10_offsetAgain_22 rfl (lv_at hl 1 rfl) ?_
  refine j_getr hx hb hts hown hK hG (k := a0) (fun w h => List.mem_cons_of_mem _ (u_X10 w h)) (ci := 9) rfl ka0 4 (k2 := a0 + 600) (by decide) (by show a0 + (600 : Int) = a0 + 600; omega) w_fl_RX10_40 dX10_offsetAgain_23 ?_
  refine lv_aload_n hx hb dX10_offsetAgain_26 rfl (lv_at hl 0 rfl) ?_
  refine j_geti hx hb hts hown hK hG (k := a0 + 4 * a1 + 4) (fun w h => List.mem_cons_of_mem _ (u_X9 w h)) (ci := 8) rfl k9 0 (by decide) (jz := 0) rfl w_fl_RX10_148 dX10_offsetAgain_27 ?_
  refine j_contv (va_runV (As := [.int (J (M (a0 + 4 * a1 + 4) 0))]) (rest := []) ⟨hx, hb, hml, hown, hts⟩ (A_X2_begin l (kf_10_4 ka0) h) (cwV 1 hts (gj_V ml_RX10_212 i_X2_begin s_X2_begin n_RX2 k_X2_begin) rfl rfl rfl (by decide +kernel) ⟨by exact Nat.le_of_ble_eq_true rfl, by exact Nat.le_of_ble_eq_true rfl⟩) (j_preV hK hSX hG (ci := 1) rfl (kf_10_4 ka0) (by decide)) rfl rfl hl.1 rfl (lv_room (Nat.le_of_ble_eq_true rfl)) dX10_offsetAgain_30 ⟨by exact Nat.le_of_ble_eq_true rfl, by exact Nat.le_of_ble_eq_true rfl⟩) hG (c2 := 0) (s2 := 0) ⟨by exact Nat.le_of_ble_eq_true rfl, by exact Nat.le_of_ble_eq_true rfl⟩ (fun M11 h H locs hG => ?_)
  refine lv_aload_n hx hb dX10_offsetAgain_33 rfl (lv_at hl 0 rfl) ?_
  refine j_geti hx hb hts hown hK hG (k := a0 + 4 * a1 + 4) (fun w h => List.mem_cons_of_mem _ (u_X9 w h)) (ci := 8) rfl k9 0 (by decide) (jz := 0) rfl w_fl_RX10_148 dX10_offsetAgain_34 ?_
  refine j_topi (fun x12 ex12 => ?_)
  have h := h x12 ex12
  refine lv_istore (lv' := [(4, .int (J x12)), (3, .ref (rA o (a0 + 4 * a1 + 4))), (0, .ref (rA o a0)), (1, .int (J a1)), (2, .int (J a2))]) hx hb dX10_offsetAgain_37 hl (by decide) rfl (fun ls hl => ?_)
  refine lv_iconst (v := J 0) hx hb dX10_offsetAgain_39 (by decide) ?_
  refine lv_istore (lv' := [(5, .int (J 0)), (4, .int (J x12)), (3, .ref (rA o (a0 + 4 * a1 + 4))), (0, .ref (rA o a0)), (1, .int (J a1)), (2, .int (J a2))]) hx hb dX10_offsetAgain_40 hl (by decide) rfl (fun ls hl => ?_)
  obtain ⟨I16, ⟨n17s, iI16⟩, qI16⟩ := h
  have lI16 : ∀ (n17 : Nat) (x13 : Int) (x14 : Int) (M15 : jT), I16 n17 x13 x14 M15 → ∀ (H : Heap) (locs : List Loc), GM D cy o M15 s.heap H locs → ∀ ls : Array Slot, lv_has ls 8 [(0, .ref (rA o a0)), (2, .int (J a2)), (3, .ref (rA o (a0 + 4 * a1 + 4))), (4, .int (J x13)), (5, .int (J x14))] → W p l e rom_X10_offsetAgain s m args below meth c H locs 0 0 Qf (F0 m 42 ls []) := by
    intro n17
    induction n17 using Nat.strongRecOn with
    | ind n17 rI16 =>
      intro x13 x14 M15 iI16 H locs hG ls hl
      have h := qI16 n17 x13 x14 M15 iI16
      refine lv_iload hx hb dX10_offsetAgain_42 (lv_at hl 4 rfl) ?_
      refine lv_bipush (v := J 32) hx hb dX10_offsetAgain_44 (by decide) ?_
      obtain ⟨g19, h⟩ := h
      refine j_icmp_ge (tgt := 139) hx hb dX10_offsetAgain_46 (by decide) g19 (by decide) (fun c18 => ?_) (fun c18 => ?_)
      · have h := h.1 c18
        refine lv_iload hx hb dX10_offsetAgain_139 (lv_at hl 3 rfl) ?_
        rw [hQf]
        exact j_ireti hx hb hr hlocks hG h (by decide) dX10_offsetAgain_141
      · have h := h.2 c18
        refine lv_aload_n hx hb dX10_offsetAgain_49 rfl (lv_at hl 2 rfl) ?_
        refine lv_iload hx hb dX10_offsetAgain_50 (lv_at hl 4 rfl) ?_
        refine lv_aload_n hx hb dX10_offsetAgain_52 rfl (lv_at hl 0 rfl) ?_
        refine j_getr hx hb hts hown hK hG (k := a0) (fun w h => List.mem_cons_of_mem _ (u_X10 w h)) (ci := 9) rfl ka0 7 (k2 := a0 + 606) (by decide) (by show a0 + (606 : Int) = a0 + 606; omega) w_fl_RX10_58 dX10_offsetAgain_53 ?_
        refine j_conti (va_runV (As := [.int (J x14), .ref (rA o (a0 + 606))]) (rest := []) ⟨hx, hb, hml, hown, hts⟩ (A_X9_listEventsOfYear l k9 (kf_10_7 ka0) h) (cwV 2 hts (gj_V ml_RX10_215 i_X9_listEventsOfYear s_X9_listEventsOfYear n_RX9 k_X9_listEventsOfYear) rfl rfl rfl (by decide +kernel) ⟨by exact Nat.le_of_ble_eq_true rfl, by exact Nat.le_of_ble_eq_true rfl⟩) (j_preV hK hSX hG (ci := 8) rfl k9 (by decide)) rfl rfl hl.1 rfl (lv_room (Nat.le_of_ble_eq_true rfl)) dX10_offsetAgain_56 ⟨by exact Nat.le_of_ble_eq_true rfl, by exact Nat.le_of_ble_eq_true rfl⟩) hG (c2 := 0) (s2 := 0) ⟨by exact Nat.le_of_ble_eq_true rfl, by exact Nat.le_of_ble_eq_true rfl⟩ (fun z20 M21 h H locs hG => ?_)
        refine lv_istore (lv' := [(6, .int (J z20)), (0, .ref (rA o a0)), (2, .int (J a2)), (3, .ref (rA o (a0 + 4 * a1 + 4))), (4, .int (J x13)), (5, .int (J x14))]) hx hb dX10_offsetAgain_59 hl (by decide) rfl (fun ls hl => ?_)
        refine lv_aload_n hx hb dX10_offsetAgain_61 rfl (lv_at hl 1 rfl) ?_
        refine j_getr hx hb hts hown hK hG (k := a0) (fun w h => List.mem_cons_of_mem _ (u_X10 w h)) (ci := 9) rfl ka0 7 (k2 := a0 + 606) (by decide) (by show a0 + (606 : Int) = a0 + 606; omega) w_fl_RX10_58 dX10_offsetAgain_62 ?_
        refine lv_iload hx hb dX10_offsetAgain_65 (lv_at hl 0 rfl) ?_
        refine j_contv (va_runS (As := [.ref (rA o (a0 + 606)), .int (J z20)]) (rest := []) ⟨hx, hb, hml, hown, hts⟩ (A_X10_sortKeys l (kf_10_7 ka0) h) (va_cwS 2 hts (gj_S ml_RX10_219 i_X10_sortKeys n_RX10 k_X10_sortKeys) rfl rfl rfl (by decide +kernel) ⟨by exact Nat.le_of_ble_eq_true rfl, by exact Nat.le_of_ble_eq_true rfl⟩) (j_preS hK hSX hG) rfl rfl hl.1 rfl (lv_room (Nat.le_of_ble_eq_true rfl)) dX10_offsetAgain_67 ⟨by exact Nat.le_of_ble_eq_true rfl, by exact Nat.le_of_ble_eq_true rfl⟩) hG (c2 := 0) (s2 := 0) ⟨by exact Nat.le_of_ble_eq_true rfl, by exact Nat.le_of_ble_eq_true rfl⟩ (fun M23 h H locs hG => ?_)
        refine lv_iconst (v := J 0) hx hb dX10_offsetAgain_70 (by decide) ?_
        refine lv_istore (lv' := [(7, .int (J 0)), (6, .int (J z20)), (0, .ref (rA o a0)), (2, .int (J a2)), (3, .ref (rA o (a0 + 4 * a1 + 4))), (4, .int (J x13)), (5, .int (J x14))]) hx hb dX10_offsetAgain_71 hl (by decide) rfl (fun ls hl => ?_)
        obtain ⟨I27, ⟨n28s, iI27⟩, qI27⟩ := h
        have lI27 : ∀ (n28 : Nat) (x24 : Int) (x25 : Int) (M26 : jT), I27 n28 x24 x25 M26 → ∀ (H : Heap) (locs : List Loc), GM D cy o M26 s.heap H locs → ∀ ls : Array Slot, lv_has ls 8 [(0, .ref (rA o a0)), (2, .int (J a2)), (3, .ref (rA o (a0 + 4 * a1 + 4))), (4, .int (J x24)), (5, .int (J x14)), (6, .int (J z20)), (7, .int (J x25))] → W p l e rom_X10_offsetAgain s m args below meth c H locs 0 0 Qf (F0 m 73 ls []) := by
          intro n28
          induction n28 using Nat.strongRecOn with
          | ind n28 rI27 =>
            intro x24 x25 M26 iI27 H locs hG ls hl
            have h := qI27 n28 x24 x25 M26 iI27
            refine lv_iload hx hb dX10_offsetAgain_73 (lv_at hl 6 rfl) ?_
            refine lv_iload hx hb dX10_offsetAgain_75 (lv_at hl 5 rfl) ?_
            obtain ⟨g30, h⟩ := h
            obtain ⟨g31, h⟩ := h
            refine j_icmp_ge (tgt := 133) hx hb dX10_offsetAgain_77 (by decide) g30 g31 (fun c29 => ?_) (fun c29 => ?_)
            · have h := h.1 c29
              refine j_iinc hx hb dX10_offsetAgain_133 hl (k := 4) rfl (by decide) (fun x32 ex32 ls hl => ?_)
              have h := h x32 ex32
              have hl : lv_has ls 8 [(5, .int (J x32)), (0, .ref (rA o a0)), (2, .int (J a2)), (3, .ref (rA o (a0 + 4 * a1 + 4))), (4, .int (J x24)), (6, .int (J z20)), (7, .int (J x25))] := hl
              refine lv_goto (tgt := 42) hx hb dX10_offsetAgain_136 (by decide) ?_
              obtain ⟨n33, ln33, iI16⟩ := h
              exact rI16 n33 ln33 x24 x32 M26 iI16 H locs hG ls (lv_sub hl [1, 2, 3, 4, 0] rfl)
            · have h := h.2 c29
              refine lv_aload_n hx hb dX10_offsetAgain_80 rfl (lv_at hl 0 rfl) ?_
              refine j_getr hx hb hts hown hK hG (k := a0) (fun w h => List.mem_cons_of_mem _ (u_X10 w h)) (ci := 9) rfl ka0 4 (k2 := a0 + 600) (by decide) (by show a0 + (600 : Int) = a0 + 600; omega) w_fl_RX10_40 dX10_offsetAgain_81 ?_
              refine lv_aload_n hx hb dX10_offsetAgain_84 rfl (lv_at hl 2 rfl) ?_
              refine lv_aload_n hx hb dX10_offsetAgain_85 rfl (lv_at hl 0 rfl) ?_
              refine j_getr hx hb hts hown hK hG (k := a0) (fun w h => List.mem_cons_of_mem _ (u_X10 w h)) (ci := 9) rfl ka0 7 (k2 := a0 + 606) (by decide) (by show a0 + (606 : Int) = a0 + 606; omega) w_fl_RX10_58 dX10_offsetAgain_86 ?_
              refine lv_iload hx hb dX10_offsetAgain_89 (lv_at hl 6 rfl) ?_
              obtain ⟨g34, h⟩ := h
              refine j_lald hx hb hK hG (n := 260) (kf_10_7 ka0) (by decide) g34 dX10_offsetAgain_91 ?_
              refine j_conti (va_runV (As := [.ref (rA o (a0 + 4 * a1 + 4)), .long (JL (M26 (a0 + 606) x25))]) (rest := []) ⟨hx, hb, hml, hown, hts⟩ (A_X2_take l (kf_10_4 ka0) k9 h) (cwV 2 hts (gj_V ml_RX10_223 i_X2_take s_X2_take n_RX2 k_X2_take) rfl rfl rfl (by decide +kernel) ⟨by exact Nat.le_of_ble_eq_true rfl, by exact Nat.le_of_ble_eq_true rfl⟩) (j_preV hK hSX hG (ci := 1) rfl (kf_10_4 ka0) (by decide)) rfl rfl hl.1 rfl (lv_room (Nat.le_of_ble_eq_true rfl)) dX10_offsetAgain_92 ⟨by exact Nat.le_of_ble_eq_true rfl, by exact Nat.le_of_ble_eq_true rfl⟩) hG (c2 := 0) (s2 := 0) ⟨by exact Nat.le_of_ble_eq_true rfl, by exact Nat.le_of_ble_eq_true rfl⟩ (fun z35 M36 h H locs hG => ?_)
              refine lv_iconst (v := J 2) hx hb dX10_offsetAgain_95 (by decide) ?_
              obtain ⟨hg, h⟩ := h
              have jK43 : ∀ x42 : Int, (z35 ≠ 2 → x42 = x24) → (z35 = 2 ∧ a2 < M36 (a0 + 600) 2 → x42 = x24) → (z35 = 2 ∧ M36 (a0 + 600) 2 ≤ a2 → x42 = (M36 (a0 + 600) 0) + (M36 (a0 + 600) 1)) → ∀ (H : Heap) (locs : List Loc), GM D cy o M36 s.heap H locs → ∀ ls : Array Slot, lv_has ls 8 [(0, .ref (rA o a0)), (2, .int (J a2)), (3, .ref (rA o (a0 + 4 * a1 + 4))), (4, .int (J x42)), (5, .int (J x14)), (6, .int (J z20)), (7, .int (J x25))] → W p l e rom_X10_offsetAgain s m args below meth c H locs 0 0 Qf (F0 m 127 ls []) := by
                intro x42 qx42_0 qx42_1 qx42_2 H locs hG ls hl
                have h := h x42 qx42_0 qx42_1 qx42_2
                refine j_iinc hx hb dX10_offsetAgain_127 hl (k := 6) rfl (by decide) (fun x49 ex49 ls hl => ?_)
                have h := h x49 ex49
                have hl : lv_has ls 8 [(7, .int (J x49)), (0, .ref (rA o a0)), (2, .int (J a2)), (3, .ref (rA o (a0 + 4 * a1 + 4))), (4, .int (J x42)), (5, .int (J x14)), (6, .int (J z20))] := hl
                refine lv_goto (tgt := 73) hx hb dX10_offsetAgain_130 (by decide) ?_
                obtain ⟨n50, ln50, iI27⟩ := h
                exact rI27 n50 ln50 x42 x49 M36 iI27 H locs hG ls (lv_sub hl [1, 2, 3, 4, 5, 6, 0] rfl)
              have h := hg
              obtain ⟨g45, h⟩ := h
              refine j_icmp_ne (tgt := 127) hx hb dX10_offsetAgain_96 (by decide) g45 (by decide) (fun c44 => ?_) (fun c44 => ?_)
              · have h := h.1 c44
                exact jK43 x24 (fun _ => rfl) (fun q => absurd q.1 (by omega)) (fun q => absurd q.1 (by omega)) H locs hG ls (lv_sub hl [0, 1, 2, 3, 4, 5, 6] rfl)
              · have h := h.2 c44
                refine lv_aload_n hx hb dX10_offsetAgain_99 rfl (lv_at hl 0 rfl) ?_
                refine j_getr hx hb hts hown hK hG (k := a0) (fun w h => List.mem_cons_of_mem _ (u_X10 w h)) (ci := 9) rfl ka0 4 (k2 := a0 + 600) (by decide) (by show a0 + (600 : Int) = a0 + 600; omega) w_fl_RX10_40 dX10_offsetAgain_100 ?_
                refine j_geti hx hb hts hown hK hG (k := a0 + 600) (fun w h => List.mem_cons_of_mem _ (u_X2 w h)) (ci := 1) rfl (kf_10_4 ka0) 2 (by decide) (jz := 2) rfl w_fl_RX10_227 dX10_offsetAgain_103 ?_
                refine lv_iload_n hx hb dX10_offsetAgain_106 rfl (lv_at hl 1 rfl) ?_
                obtain ⟨g47, h⟩ := h
                obtain ⟨g48, h⟩ := h
                refine j_icmp_gt (tgt := 127) hx hb dX10_offsetAgain_107 (by decide) g47 g48 (fun c46 => ?_) (fun c46 => ?_)
                · have h := h.1 c46
                  exact jK43 x24 (fun q => absurd q (by omega)) (fun _ => rfl) (fun q => absurd q.2 (by omega)) H locs hG ls (lv_sub hl [0, 1, 2, 3, 4, 5, 6] rfl)
                · have h := h.2 c46
                  refine lv_aload_n hx hb dX10_offsetAgain_110 rfl (lv_at hl 0 rfl) ?_
                  refine j_getr hx hb hts hown hK hG (k := a0) (fun w h => List.mem_cons_of_mem _ (u_X10 w h)) (ci := 9) rfl ka0 4 (k2 := a0 + 600) (by decide) (by show a0 + (600 : Int) = a0 + 600; omega) w_fl_RX10_40 dX10_offsetAgain_111 ?_
                  refine j_geti hx hb hts hown hK hG (k := a0 + 600) (fun w h => List.mem_cons_of_mem _ (u_X2 w h)) (ci := 1) rfl (kf_10_4 ka0) 0 (by decide) (jz := 0) rfl w_fl_RX10_230 dX10_offsetAgain_114 ?_
                  refine lv_aload_n hx hb dX10_offsetAgain_117 rfl (lv_at hl 0 rfl) ?_
                  refine j_getr hx hb hts hown hK hG (k := a0) (fun w h => List.mem_cons_of_mem _ (u_X10 w h)) (ci := 9) rfl ka0 4 (k2 := a0 + 600) (by decide) (by show a0 + (600 : Int) = a0 + 600; omega) w_fl_RX10_40 dX10_offsetAgain_118 ?_
                  refine j_geti hx hb hts hown hK hG (k := a0 + 600) (fun w h => List.mem_cons_of_mem _ (u_X2 w h)) (ci := 1) rfl (kf_10_4 ka0) 1 (by decide) (jz := 1) rfl w_fl_RX10_231 dX10_offsetAgain_121 ?_
                  refine j_iadd hx hb dX10_offsetAgain_124 ?_
                  refine lv_istore (lv' := [(4, .int (J ((M36 (a0 + 600) 0) + (M36 (a0 + 600) 1)))), (0, .ref (rA o a0)), (2, .int (J a2)), (3, .ref (rA o (a0 + 4 * a1 + 4))), (5, .int (J x14)), (6, .int (J z20)), (7, .int (J x25))]) hx hb dX10_offsetAgain_125 hl (by decide) rfl (fun ls hl => ?_)
                  exact jK43 ((M36 (a0 + 600) 0) + (M36 (a0 + 600) 1)) (fun q => absurd q (by omega)) (fun q => absurd q.2 (by omega)) (fun _ => rfl) H locs hG ls (lv_sub hl [1, 2, 3, 0, 4, 5, 6] rfl)
        exact lI27 n28s x13 0 M23 iI27 H locs hG ls (lv_sub hl [2, 3, 4, 5, 6, 1, 0] rfl)
  exact lI16 n17s x12 0 M11 iI16 H locs hG ls (lv_sub hl [3, 5, 2, 1, 0] rfl)
abbrev rm_X10_offsetAgain : Room := { frames := 8, cells := 1, slots := 6, locals := 131 }
set_option maxRecDepth 100000 in
set_option maxHeartbeats 4000000 in
theorem A_X10_offsetAgain (l : Launch) (hst : l.stackTraces = false) {D : va_G} {cy : Nat → ClassId} {o : Nat} {sK sV : Nat → Nat} {M : jT} {a0 : Int} {a1 : Int} {a2 : Int} (ka0 : kd a0 = 10) {Q : Int → jT → Prop} {X : Nat → jT → Prop} (h : wp_X10_offsetAgain M a0 a1 a2 Q X) : CxI l yX10_offsetAgain (wj yX10_offsetAgain cX10_offsetAgain 8 (some .int)) rm_X10_offsetAgain D cy o sK sV M [.ref (rA o a0), .int (J a1), .int (J a2)] Q X := by
  refine j_ofWx (cc := cX10_offsetAgain) (maxL := 8) (ret := (some .int)) (by decide) rfl (Nat.le_of_ble_eq_true rfl) ?_
  intro p e s m args below meth c hx hb hr hlocks hout hml hown hts hK hSX H locs hsz hG ls hl Qf hQf
  have hown : s.vm.findClass RX10 = some m.cls := hown
  have hl : lv_has ls 8 [(0, .ref (rA o a0)), (1, .int (J a1)), (2, .int (J a2))] := hl
  have w_fl_RX10_12 := hts _ (List.mem_cons_of_mem _ fl_RX10_12)
  have w_fl_RX10_140 := hts _ (List.mem_cons_of_mem _ fl_RX10_140)
  have w_fl_RX10_40 := hts _ (List.mem_cons_of_mem _ fl_RX10_40)
  have w_fl_RX10_148 := hts _ (List.mem_cons_of_mem _ fl_RX10_148)
  have w_fl_RX10_58 := hts _ (List.mem_cons_of_mem _ fl_RX10_58)
  have w_fl_RX10_227 := hts _ (List.mem_cons_of_mem _ fl_RX10_227)
  have w_fl_RX10_230 := hts _ (List.mem_cons_of_mem _ fl_RX10_230)
  have w_fl_RX10_231 := hts _ (List.mem_cons_of_mem _ fl_RX10_231)
  unfold wp_X10_offsetAgain at h
  refine lv_aload_n hx hb dX10_offsetAgain_0 rfl (lv_at hl 0 rfl) ?_
  refine lv_iload_n hx hb dX10_offsetAgain_1 rfl (lv_at hl 1 rfl) ?_
  rcases h with h | h
  · refine j_contv (va_runV (As := [.int (J a1)]) (rest := []) ⟨hx, hb, hml, hown, hts⟩ (Ao_X10_needZone l ka0 h) (cwV 1 hts (gj_V ml_RX10_137 i_X10_needZone s_X10_needZone n_RX10 k_X10_needZone) rfl rfl rfl (by decide +kernel) ⟨by exact Nat.le_of_ble_eq_true rfl, by exact Nat.le_of_ble_eq_true rfl⟩) (j_preV hK hSX hG (ci := 9) rfl ka0 (by decide)) rfl rfl hl.1 rfl (lv_room (Nat.le_of_ble_eq_true rfl)) dX10_offsetAgain_2 ⟨by exact Nat.le_of_ble_eq_true rfl, by exact Nat.le_of_ble_eq_true rfl⟩) hG (c2 := 0) (s2 := 0) ⟨by exact Nat.le_of_ble_eq_true rfl, by exact Nat.le_of_ble_eq_true rfl⟩ (fun M2 h H locs hG => ?_)
    obtain ⟨h, eM2⟩ := h
    rw [eM2] at hG
    refine lv_iload_n hx hb dX10_offsetAgain_5 rfl (lv_at hl 2 rfl) ?_
    obtain ⟨g3, h⟩ := h
    refine j_conti (va_runS (As := [.int (J a2)]) (rest := []) ⟨hx, hb, hml, hown, hts⟩ (A_X10_isInstant l g3) (va_cwS 1 hts (gj_S ml_RX10_206 i_X10_isInstant n_RX10 k_X10_isInstant) rfl rfl rfl (by decide +kernel) ⟨by exact Nat.le_of_ble_eq_true rfl, by exact Nat.le_of_ble_eq_true rfl⟩) (j_preS hK hSX hG) rfl rfl hl.1 rfl (lv_room (Nat.le_of_ble_eq_true rfl)) dX10_offsetAgain_6 ⟨by exact Nat.le_of_ble_eq_true rfl, by exact Nat.le_of_ble_eq_true rfl⟩) hG (c2 := 0) (s2 := 0) ⟨by exact Nat.le_of_ble_eq_true rfl, by exact Nat.le_of_ble_eq_true rfl⟩ (fun z4 M5 ez4 H locs hG => ?_)
    obtain ⟨ez4, eM5⟩ := ez4
    subst ez4
    rw [eM5] at hG
    rcases h with h | h
    · refine j_contv (va_runS (As := [.int (J (b2i (pb_X10_isInstant a2)))]) (rest := []) ⟨hx, hb, hml, hown, hts⟩ (Ao_X10_needArgument l h) (va_cwS 1 hts (gj_S ml_RX10_72 i_X10_needArgument n_RX10 k_X10_needArgument) rfl rfl rfl (by decide +kernel) ⟨by exact Nat.le_of_ble_eq_true rfl, by exact Nat.le_of_ble_eq_true rfl⟩) (j_preS hK hSX hG) rfl rfl hl.1 rfl (lv_room (Nat.le_of_ble_eq_true rfl)) dX10_offsetAgain_9 ⟨by exact Nat.le_of_ble_eq_true rfl, by exact Nat.le_of_ble_eq_true rfl⟩) hG (c2 := 0) (s2 := 0) ⟨by exact Nat.le_of_ble_eq_true rfl, by exact Nat.le_of_ble_eq_true rfl⟩ (fun M7 h H locs hG => ?_)
      obtain ⟨h, eM7⟩ := h
      rw [eM7] at hG
      refine lv_aload_n hx hb dX10_offsetAgain_12 rfl (lv_at hl 0 rfl) ?_
      refine j_getr hx hb hts hown hK hG (k := a0) (fun w h => List.mem_cons_of_mem _ (u_X10 w h)) (ci := 9) rfl ka0 0 (k2 := a0 + 1) (by decide) (by show a0 + (1 : Int) = a0 + 1; omega) w_fl_RX10_12 dX10_offsetAgain_13 ?_
      refine j_getr hx hb hts hown hK hG (k := a0 + 1) (fun w h => List.mem_cons_of_mem _ (u_X0 w h)) (ci := 0) rfl (kf_10_0 ka0) 2 (k2 := a0 + 2) (by decide) (by show (a0 + 1) + (1 : Int) = a0 + 2; omega) w_fl_RX10_140 dX10_offsetAgain_16 ?_
      refine lv_iload_n hx hb dX10_offsetAgain_19 rfl (lv_at hl 1 rfl) ?_
      obtain ⟨g8, h⟩ := h
      refine j_aald hx hb hK hG (t := 20) (t0 := 3) (k2 := a0 + 4 * a1 + 4) (show kd (a0 + 2) = 20 from (show (a0 + 1) + 1 = a0 + 2 from by omega) ▸ (kf_1_2 (kf_10_0 ka0))) (by decide) rfl g8 (by simp only [ra_20]; omega) dX10_offsetAgain_20 ?_
      have k9 : kd (a0 + 4 * a1 + 4) = 9 := by have q9 := (ka_20 (show kd (a0 + 2) = 20 from (show (a0 + 1) + 1 = a0 + 2 from by omega) ▸ (kf_1_2 (kf_10_0 ka0))) g8); rwa [show (a0 + 2) + 2 + 4 * a1 = a0 + 4 * a1 + 4 from by omega] at q9
      refine lv_astore_n (lv' := [(3, .ref (rA o (a0 + 4 * a1 + 4))), (0, .ref (rA o a0)), (1, .int (J a1)), (2, .int (J a2))]) hx hb dX10_offsetAgain_21 rfl hl (by decide) rfl (fun ls hl => ?_)
      refine lv_aload_n hx hb dX10_offsetAgain_22 rfl (lv_at hl 1 rfl) ?_
      refine j_getr hx hb hts hown hK hG (k := a0) (fun w h => List.mem_cons_of_mem _ (u_X10 w h)) (ci := 9) rfl ka0 4 (k2 := a0 + 600) (by decide) (by show a0 + (600 : Int) = a0 + 600; omega) w_fl_RX10_40 dX10_offsetAgain_23 ?_
      refine lv_aload_n hx hb dX10_offsetAgain_26 rfl (lv_at hl 0 rfl) ?_
      refine j_geti hx hb hts hown hK hG (k := a0 + 4 * a1 + 4) (fun w h => List.mem_cons_of_mem _ (u_X9 w h)) (ci := 8) rfl k9 0 (by decide) (jz := 0) rfl w_fl_RX10_148 dX10_offsetAgain_27 ?_
      refine j_contv (va_runV (As := [.int (J (M (a0 + 4 * a1 + 4) 0))]) (rest := []) ⟨hx, hb, hml, hown, hts⟩ (A_X2_begin l (kf_10_4 ka0) h) (cwV 1 hts (gj_V ml_RX10_212 i_X2_begin s_X2_begin n_RX2 k_X2_begin) rfl rfl rfl (by decide +kernel) ⟨by exact Nat.le_of_ble_eq_true rfl, by exact Nat.le_of_ble_eq_true rfl⟩) (j_preV hK hSX hG (ci := 1) rfl (kf_10_4 ka0) (by decide)) rfl rfl hl.1 rfl (lv_room (Nat.le_of_ble_eq_true rfl)) dX10_offsetAgain_30 ⟨by exact Nat.le_of_ble_eq_true rfl, by exact Nat.le_of_ble_eq_true rfl⟩) hG (c2 := 0) (s2 := 0) ⟨by exact Nat.le_of_ble_eq_true rfl, by exact Nat.le_of_ble_eq_true rfl⟩ (fun M11 h H locs hG => ?_)
      refine lv_aload_n hx hb dX10_offsetAgain_33 rfl (lv_at hl 0 rfl) ?_
      refine j_geti hx hb hts hown hK hG (k := a0 + 4 * a1 + 4) (fun w h => List.mem_cons_of_mem _ (u_X9 w h)) (ci := 8) rfl k9 0 (by decide) (jz := 0) rfl w_fl_RX10_148 dX10_offsetAgain_34 ?_
      refine j_topi (fun x12 ex12 => ?_)
      have h := h x12 ex12
      refine lv_istore (lv' := [(4, .int (J x12)), (3, .ref (rA o (a0 + 4 * a1 + 4))), (0, .ref (rA o a0)), (1, .int (J a1)), (2, .int (J a2))]) hx hb dX10_offsetAgain_37 hl (by decide) rfl (fun ls hl => ?_)
      refine lv_iconst (v := J 0) hx hb dX10_offsetAgain_39 (by decide) ?_
      refine lv_istore (lv' := [(5, .int (J 0)), (4, .int (J x12)), (3, .ref (rA o (a0 + 4 * a1 + 4))), (0, .ref (rA o a0)), (1, .int (J a1)), (2, .int (J a2))]) hx hb dX10_offsetAgain_40 hl (by decide) rfl (fun ls hl => ?_)
      obtain ⟨I16, ⟨n17s, iI16⟩, qI16⟩ := h
      have lI16 : ∀ (n17 : Nat) (x13 : Int) (x14 : Int) (M15 : jT), I16 n17 x13 x14 M15 → ∀ (H : Heap) (locs : List Loc), GM D cy o M15 s.heap H locs → ∀ ls : Array Slot, lv_has ls 8 [(0, .ref (rA o a0)), (2, .int (J a2)), (3, .ref (rA o (a0 + 4 * a1 + 4))), (4, .int (J x13)), (5, .int (J x14))] → W p l e rm_X10_offsetAgain s m args below meth c H locs 0 0 Qf (F0 m 42 ls []) := by
        intro n17
        induction n17 using Nat.strongRecOn with
        | ind n17 rI16 =>
          intro x13 x14 M15 iI16 H locs hG ls hl
          have h := qI16 n17 x13 x14 M15 iI16
          refine lv_iload hx hb dX10_offsetAgain_42 (lv_at hl 4 rfl) ?_
          refine lv_bipush (v := J 32) hx hb dX10_offsetAgain_44 (by decide) ?_
          obtain ⟨g19, h⟩ := h
          refine j_icmp_ge (tgt := 139) hx hb dX10_offsetAgain_46 (by decide) g19 (by decide) (fun c18 => ?_) (fun c18 => ?_)
          · have h := h.1 c18
            refine lv_iload hx hb dX10_offsetAgain_139 (lv_at hl 3 rfl) ?_
            rw [hQf]
            exact vx_ret (j_ireti hx hb hr hlocks hG h (by decide) dX10_offsetAgain_141)
          · have h := h.2 c18
            refine lv_aload_n hx hb dX10_offsetAgain_49 rfl (lv_at hl 2 rfl) ?_
            refine lv_iload hx hb dX10_offsetAgain_50 (lv_at hl 4 rfl) ?_
            refine lv_aload_n hx hb dX10_offsetAgain_52 rfl (lv_at hl 0 rfl) ?_
            refine j_getr hx hb hts hown hK hG (k := a0) (fun w h => List.mem_cons_of_mem _ (u_X10 w h)) (ci := 9) rfl ka0 7 (k2 := a0 + 606) (by decide) (by show a0 + (606 : Int) = a0 + 606; omega) w_fl_RX10_58 dX10_offsetAgain_53 ?_
            refine j_conti (va_runV (As := [.int (J x14), .ref (rA o (a0 + 606))]) (rest := []) ⟨hx, hb, hml, hown, hts⟩ (A_X9_listEventsOfYear l k9 (kf_10_7 ka0) h) (cwV 2 hts (gj_V ml_RX10_215 i_X9_listEventsOfYear s_X9_listEventsOfYear n_RX9 k_X9_listEventsOfYear) rfl rfl rfl (by decide +kernel) ⟨by exact Nat.le_of_ble_eq_true rfl, by exact Nat.le_of_ble_eq_true rfl⟩) (j_preV hK hSX hG (ci := 8) rfl k9 (by decide)) rfl rfl hl.1 rfl (lv_room (Nat.le_of_ble_eq_true rfl)) dX10_offsetAgain_56 ⟨by exact Nat.le_of_ble_eq_true rfl, by exact Nat.le_of_ble_eq_true rfl⟩) hG (c2 := 0) (s2 := 0) ⟨by exact Nat.le_of_ble_eq_true rfl, by exact Nat.le_of_ble_eq_true rfl⟩ (fun z20 M21 h H locs hG => ?_)
            refine lv_istore (lv' := [(6, .int (J z20)), (0, .ref (rA o a0)), (2, .int (J a2)), (3, .ref (rA o (a0 + 4 * a1 + 4))), (4, .int (J x13)), (5, .int (J x14))]) hx hb dX10_offsetAgain_59 hl (by decide) rfl (fun ls hl => ?_)
            refine lv_aload_n hx hb dX10_offsetAgain_61 rfl (lv_at hl 1 rfl) ?_
            refine j_getr hx hb hts hown hK hG (k := a0) (fun w h => List.mem_cons_of_mem _ (u_X10 w h)) (ci := 9) rfl ka0 7 (k2 := a0 + 606) (by decide) (by show a0 + (606 : Int) = a0 + 606; omega) w_fl_RX10_58 dX10_offsetAgain_62 ?_
            refine lv_iload hx hb dX10_offsetAgain_65 (lv_at hl 0 rfl) ?_
            refine j_contv (va_runS (As := [.ref (rA o (a0 + 606)), .int (J z20)]) (rest := []) ⟨hx, hb, hml, hown, hts⟩ (A_X10_sortKeys l (kf_10_7 ka0) h) (va_cwS 2 hts (gj_S ml_RX10_219 i_X10_sortKeys n_RX10 k_X10_sortKeys) rfl rfl rfl (by decide +kernel) ⟨by exact Nat.le_of_ble_eq_true rfl, by exact Nat.le_of_ble_eq_true rfl⟩) (j_preS hK hSX hG) rfl rfl hl.1 rfl (lv_room (Nat.le_of_ble_eq_true rfl)) dX10_offsetAgain_67 ⟨by exact Nat.le_of_ble_eq_true rfl, by exact Nat.le_of_ble_eq_true rfl⟩) hG (c2 := 0) (s2 := 0) ⟨by exact Nat.le_of_ble_eq_true rfl, by exact Nat.le_of_ble_eq_true rfl⟩ (fun M23 h H locs hG => ?_)
            refine lv_iconst (v := J 0) hx hb dX10_offsetAgain_70 (by decide) ?_
            refine lv_istore (lv' := [(7, .int (J 0)), (6, .int (J z20)), (0, .ref (rA o a0)), (2, .int (J a2)), (3, .ref (rA o (a0 + 4 * a1 + 4))), (4, .int (J x13)), (5, .int (J x14))]) hx hb dX10_offsetAgain_71 hl (by decide) rfl (fun ls hl => ?_)
            obtain ⟨I27, ⟨n28s, iI27⟩, qI27⟩ := h
            have lI27 : ∀ (n28 : Nat) (x24 : Int) (x25 : Int) (M26 : jT), I27 n28 x24 x25 M26 → ∀ (H : Heap) (locs : List Loc), GM D cy o M26 s.heap H locs → ∀ ls : Array Slot, lv_has ls 8 [(0, .ref (rA o a0)), (2, .int (J a2)), (3, .ref (rA o (a0 + 4 * a1 + 4))), (4, .int (J x24)), (5, .int (J x14)), (6, .int (J z20)), (7, .int (J x25))] → W p l e rm_X10_offsetAgain s m args below meth c H locs 0 0 Qf (F0 m 73 ls []) := by
              intro n28
              induction n28 using Nat.strongRecOn with
              | ind n28 rI27 =>
                intro x24 x25 M26 iI27 H locs hG ls hl
                have h := qI27 n28 x24 x25 M26 iI27
                refine lv_iload hx hb dX10_offsetAgain_73 (lv_at hl 6 rfl) ?_
                refine lv_iload hx hb dX10_offsetAgain_75 (lv_at hl 5 rfl) ?_
                obtain ⟨g30, h⟩ := h
                obtain ⟨g31, h⟩ := h
                refine j_icmp_ge (tgt := 133) hx hb dX10_offsetAgain_77 (by decide) g30 g31 (fun c29 => ?_) (fun c29 => ?_)
                · have h := h.1 c29
                  refine j_iinc hx hb dX10_offsetAgain_133 hl (k := 4) rfl (by decide) (fun x32 ex32 ls hl => ?_)
                  have h := h x32 ex32
                  have hl : lv_has ls 8 [(5, .int (J x32)), (0, .ref (rA o a0)), (2, .int (J a2)), (3, .ref (rA o (a0 + 4 * a1 + 4))), (4, .int (J x24)), (6, .int (J z20)), (7, .int (J x25))] := hl
                  refine lv_goto (tgt := 42) hx hb dX10_offsetAgain_136 (by decide) ?_
                  obtain ⟨n33, ln33, iI16⟩ := h
                  exact rI16 n33 ln33 x24 x32 M26 iI16 H locs hG ls (lv_sub hl [1, 2, 3, 4, 0] rfl)
                · have h := h.2 c29
                  refine lv_aload_n hx hb dX10_offsetAgain_80 rfl (lv_at hl 0 rfl) ?_
                  refine j_getr hx hb hts hown hK hG (k := a0) (fun w h => List.mem_cons_of_mem _ (u_X10 w h)) (ci := 9) rfl ka0 4 (k2 := a0 + 600) (by decide) (by show a0 + (600 : Int) = a0 + 600; omega) w_fl_RX10_40 dX10_offsetAgain_81 ?_
                  refine lv_aload_n hx hb dX10_offsetAgain_84 rfl (lv_at hl 2 rfl) ?_
                  refine lv_aload_n hx hb dX10_offsetAgain_85 rfl (lv_at hl 0 rfl) ?_
                  refine j_getr hx hb hts hown hK hG (k := a0) (fun w h => List.mem_cons_of_mem _ (u_X10 w h)) (ci := 9) rfl ka0 7 (k2 := a0 + 606) (by decide) (by show a0 + (606 : Int) = a0 + 606; omega) w_fl_RX10_58 dX10_offsetAgain_86 ?_
                  refine lv_iload hx hb dX10_offsetAgain_89 (lv_at hl 6 rfl) ?_
                  obtain ⟨g34, h⟩ := h
                  refine j_lald hx hb hK hG (n := 260) (kf_10_7 ka0) (by decide) g34 dX10_offsetAgain_91 ?_
                  refine j_conti (va_runV (As := [.ref (rA o (a0 + 4 * a1 + 4)), .long (JL (M26 (a0 + 606) x25))]) (rest := []) ⟨hx, hb, hml, hown, hts⟩ (A_X2_take l (kf_10_4 ka0) k9 h) (cwV 2 hts (gj_V ml_RX10_223 i_X2_take s_X2_take n_RX2 k_X2_take) rfl rfl rfl (by decide +kernel) ⟨by exact Nat.le_of_ble_eq_true rfl, by exact Nat.le_of_ble_eq_true rfl⟩) (j_preV hK hSX hG (ci := 1) rfl (kf_10_4 ka0) (by decide)) rfl rfl hl.1 rfl (lv_room (Nat.le_of_ble_eq_true rfl)) dX10_offsetAgain_92 ⟨by exact Nat.le_of_ble_eq_true rfl, by exact Nat.le_of_ble_eq_true rfl⟩) hG (c2 := 0) (s2 := 0) ⟨by exact Nat.le_of_ble_eq_true rfl, by exact Nat.le_of_ble_eq_true rfl⟩ (fun z35 M36 h H locs hG => ?_)
                  refine lv_iconst (v := J 2) hx hb dX10_offsetAgain_95 (by decide) ?_
                  obtain ⟨hg, h⟩ := h
                  have jK43 : ∀ x42 : Int, (z35 ≠ 2 → x42 = x24) → (z35 = 2 ∧ a2 < M36 (a0 + 600) 2 → x42 = x24) → (z35 = 2 ∧ M36 (a0 + 600) 2 ≤ a2 → x42 = (M36 (a0 + 600) 0) + (M36 (a0 + 600) 1)) → ∀ (H : Heap) (locs : List Loc), GM D cy o M36 s.heap H locs → ∀ ls : Array Slot, lv_has ls 8 [(0, .ref (rA o a0)), (2, .int (J a2)), (3, .ref (rA o (a0 + 4 * a1 + 4))), (4, .int (J x42)), (5, .int (J x14)), (6, .int (J z20)), (7, .int (J x25))] → W p l e rm_X10_offsetAgain s m args below meth c H locs 0 0 Qf (F0 m 127 ls []) := by
                    intro x42 qx42_0 qx42_1 qx42_2 H locs hG ls hl
                    have h := h x42 qx42_0 qx42_1 qx42_2
                    refine j_iinc hx hb dX10_offsetAgain_127 hl (k := 6) rfl (by decide) (fun x49 ex49 ls hl => ?_)
                    have h := h x49 ex49
                    have hl : lv_has ls 8 [(7, .int (J x49)), (0, .ref (rA o a0)), (2, .int (J a2)), (3, .ref (rA o (a0 + 4 * a1 + 4))), (4, .int (J x42)), (5, .int (J x14)), (6, .int (J z20))] := hl
                    refine lv_goto (tgt := 73) hx hb dX10_offsetAgain_130 (by decide) ?_
                    obtain ⟨n50, ln50, iI27⟩ := h
                    exact rI27 n50 ln50 x42 x49 M36 iI27 H locs hG ls (lv_sub hl [1, 2, 3, 4, 5, 6, 0] rfl)
                  have h := hg
                  obtain ⟨g45, h⟩ := h
                  refine j_icmp_ne (tgt := 127) hx hb dX10_offsetAgain_96 (by decide) g45 (by decide) (fun c44 => ?_) (fun c44 => ?_)
                  · have h := h.1 c44
                    exact jK43 x24 (fun _ => rfl) (fun q => absurd q.1 (by omega)) (fun q => absurd q.1 (by omega)) H locs hG ls (lv_sub hl [0, 1, 2, 3, 4, 5, 6] rfl)
                  · have h := h.2 c44
                    refine lv_aload_n hx hb dX10_offsetAgain_99 rfl (lv_at hl 0 rfl) ?_
                    refine j_getr hx hb hts hown hK hG (k := a0) (fun w h => List.mem_cons_of_mem _ (u_X10 w h)) (ci := 9) rfl ka0 4 (k2 := a0 + 600) (by decide) (by show a0 + (600 : Int) = a0 + 600; omega) w_fl_RX10_40 dX10_offsetAgain_100 ?_
                    refine j_geti hx hb hts hown hK hG (k := a0 + 600) (fun w h => List.mem_cons_of_mem _ (u_X2 w h)) (ci := 1) rfl (kf_10_4 ka0) 2 (by decide) (jz := 2) rfl w_fl_RX10_227 dX10_offsetAgain_103 ?_
                    refine lv_iload_n hx hb dX10_offsetAgain_106 rfl (lv_at hl 1 rfl) ?_
                    obtain ⟨g47, h⟩ := h
                    obtain ⟨g48, h⟩ := h
                    refine j_icmp_gt (tgt := 127) hx hb dX10_offsetAgain_107 (by decide) g47 g48 (fun c46 => ?_) (fun c46 => ?_)
                    · have h := h.1 c46
                      exact jK43 x24 (fun q => absurd q (by omega)) (fun _ => rfl) (fun q => absurd q.2 (by omega)) H locs hG ls (lv_sub hl [0, 1, 2, 3, 4, 5, 6] rfl)
                    · have h := h.2 c46
                      refine lv_aload_n hx hb dX10_offsetAgain_110 rfl (lv_at hl 0 rfl) ?_
                      refine j_getr hx hb hts hown hK hG (k := a0) (fun w h => List.mem_cons_of_mem _ (u_X10 w h)) (ci := 9) rfl ka0 4 (k2 := a0 + 600) (by decide) (by show a0 + (600 : Int) = a0 + 600; omega) w_fl_RX10_40 dX10_offsetAgain_111 ?_
                      refine j_geti hx hb hts hown hK hG (k := a0 + 600) (fun w h => List.mem_cons_of_mem _ (u_X2 w h)) (ci := 1) rfl (kf_10_4 ka0) 0 (by decide) (jz := 0) rfl w_fl_RX10_230 dX10_offsetAgain_114 ?_
                      refine lv_aload_n hx hb dX10_offsetAgain_117 rfl (lv_at hl 0 rfl) ?_
                      refine j_getr hx hb hts hown hK hG (k := a0) (fun w h => List.mem_cons_of_mem _ (u_X10 w h)) (ci := 9) rfl ka0 4 (k2 := a0 + 600) (by decide) (by show a0 + (600 : Int) = a0 + 600; omega) w_fl_RX10_40 dX10_offsetAgain_118 ?_
                      refine j_geti hx hb hts hown hK hG (k := a0 + 600) (fun w h => List.mem_cons_of_mem _ (u_X2 w h)) (ci := 1) rfl (kf_10_4 ka0) 1 (by decide) (jz := 1) rfl w_fl_RX10_231 dX10_offsetAgain_121 ?_
                      refine j_iadd hx hb dX10_offsetAgain_124 ?_
                      refine lv_istore (lv' := [(4, .int (J ((M36 (a0 + 600) 0) + (M36 (a0 + 600) 1)))), (0, .ref (rA o a0)), (2, .int (J a2)), (3, .ref (rA o (a0 + 4 * a1 + 4))), (5, .int (J x14)), (6, .int (J z20)), (7, .int (J x25))]) hx hb dX10_offsetAgain_125 hl (by decide) rfl (fun ls hl => ?_)
                      exact jK43 ((M36 (a0 + 600) 0) + (M36 (a0 + 600) 1)) (fun q => absurd q (by omega)) (fun q => absurd q.2 (by omega)) (fun _ => rfl) H locs hG ls (lv_sub hl [1, 2, 3, 0, 4, 5, 6] rfl)
            exact lI27 n28s x13 0 M23 iI27 H locs hG ls (lv_sub hl [2, 3, 4, 5, 6, 1, 0] rfl)
      exact lI16 n17s x12 0 M11 iI16 H locs hG ls (lv_sub hl [3, 5, 2, 1, 0] rfl)
    · refine j_contxv (vx_runS (As := [.int (J (b2i (pb_X10_isInstant a2)))]) (rest := []) ⟨hx, hb, hml, hown, hts⟩ (A_X10_needArgument l hst h) (va_cwS 1 hts (gj_S ml_RX10_72 i_X10_needArgument n_RX10 k_X10_needArgument) rfl rfl rfl (by decide +kernel) ⟨by exact Nat.le_of_ble_eq_true rfl, by exact Nat.le_of_ble_eq_true rfl⟩) (j_preS hK hSX hG) rfl rfl hl.1 rfl (lv_room (Nat.le_of_ble_eq_true rfl)) dX10_offsetAgain_9 ⟨by exact Nat.le_of_ble_eq_true rfl, by exact Nat.le_of_ble_eq_true rfl⟩) hG (c2 := 1) (s2 := 6) ⟨by exact Nat.le_of_ble_eq_true rfl, by exact Nat.le_of_ble_eq_true rfl⟩ (fun x M h ce q H locs hG h1 h2 h3 => ?_) (fun M h H locs hG => h.elim)
      rw [hQf]
      exact j_xout hlocks hout hG h h1 h2 h3 (by decide)
  · refine j_contxv (vx_runV (As := [.int (J a1)]) (rest := []) ⟨hx, hb, hml, hown, hts⟩ (A_X10_needZone l hst ka0 h) (cwV 1 hts (gj_V ml_RX10_137 i_X10_needZone s_X10_needZone n_RX10 k_X10_needZone) rfl rfl rfl (by decide +kernel) ⟨by exact Nat.le_of_ble_eq_true rfl, by exact Nat.le_of_ble_eq_true rfl⟩) (j_preV hK hSX hG (ci := 9) rfl ka0 (by decide)) rfl rfl hl.1 rfl (lv_room (Nat.le_of_ble_eq_true rfl)) dX10_offsetAgain_2 ⟨by exact Nat.le_of_ble_eq_true rfl, by exact Nat.le_of_ble_eq_true rfl⟩) hG (c2 := 1) (s2 := 6) ⟨by exact Nat.le_of_ble_eq_true rfl, by exact Nat.le_of_ble_eq_true rfl⟩ (fun x M h ce q H locs hG h1 h2 h3 => ?_) (fun M h H locs hG => h.elim)
    rw [hQf]
    exact j_xout hlocks hout hG h h1 h2 h3 (by decide)

abbrev rom_X10_toLocal : Room := { frames := 4, cells := 0, slots := 0, locals := 99 }
set_option maxRecDepth 100000 in
set_option maxHeartbeats 4000000 in
theorem Ao_X10_toLocal (l : Launch) {D : va_G} {cy : Nat → ClassId} {o : Nat} {sK sV : Nat → Nat} {M : jT} {a0 : Int} {a1 : Int} {a2 : Int} (ka0 : kd a0 = 10) {Q : Int → jT → Prop} (h : wo_X10_toLocal M a0 a1 a2 Q) : CoI l yX10_toLocal (wj yX10_toLocal cX10_toLocal 3 (some .int)) rom_X10_toLocal D cy o sK sV M [.ref (rA o a0), .int (J a1), .int (J a2)] Q := by
  refine j_ofW (cc := cX10_toLocal) (maxL := 3) (ret := (some .int)) (by decide) rfl (Nat.le_of_ble_eq_true rfl) ?_
  intro p e s m args below meth c hx hb hr hlocks hml hown hts hK hSX H locs hG ls hl Qf hQf
  have hown : s.vm.findClass RX10 = some m.cls := hown
  have hl : lv_has ls 3 [(0, .ref (rA o a0)), (1, .int (J a1)), (2, .int (J a2))] := hl
  unfold wo_X10_toLocal at h
  refine lv_aload_n hx hb dX10_toLocal_0 rfl (lv_at hl 0 rfl) ?_
  refine lv_iload_n hx hb dX10_toLocal_1 rfl (lv_at hl 1 rfl) ?_
  refine j_contv (va_runV (As := [.int (J a1)]) (rest := []) ⟨hx, hb, hml, hown, hts⟩ (Ao_X10_needZone l ka0 h) (cwV 1 hts (gj_V ml_RX10_137 i_X10_needZone s_X10_needZone n_RX10 k_X10_needZone) rfl rfl rfl (by decide +kernel) ⟨by exact Nat.le_of_ble_eq_true rfl, by exact Nat.le_of_ble_eq_true rfl⟩) (j_preV hK hSX hG (ci := 9) rfl ka0 (by decide)) rfl rfl hl.1 rfl (lv_room (Nat.le_of_ble_eq_true rfl)) dX10_toLocal_2 ⟨by exact Nat.le_of_ble_eq_true rfl, by exact Nat.le_of_ble_eq_true rfl⟩) hG (c2 := 0) (s2 := 0) ⟨by exact Nat.le_of_ble_eq_true rfl, by exact Nat.le_of_ble_eq_true rfl⟩ (fun M2 h H locs hG => ?_)
  obtain ⟨h, eM2⟩ := h
  rw [eM2] at hG
  refine lv_iload_n hx hb dX10_toLocal_5 rfl (lv_at hl 2 rfl) ?_
  obtain ⟨g3, h⟩ := h
  refine j_conti (va_runS (As := [.int (J a2)]) (rest := []) ⟨hx, hb, hml, hown, hts⟩ (A_X10_isInstant l g3) (va_cwS 1 hts (gj_S ml_RX10_206 i_X10_isInstant n_RX10 k_X10_isInstant) rfl rfl rfl (by decide +kernel) ⟨by exact Nat.le_of_ble_eq_true rfl, by exact Nat.le_of_ble_eq_true rfl⟩) (j_preS hK hSX hG) rfl rfl hl.1 rfl (lv_room (Nat.le_of_ble_eq_true rfl)) dX10_toLocal_6 ⟨by exact Nat.le_of_ble_eq_true rfl, by exact Nat.le_of_ble_eq_true rfl⟩) hG (c2 := 0) (s2 := 0) ⟨by exact Nat.le_of_ble_eq_true rfl, by exact Nat.le_of_ble_eq_true rfl⟩ (fun z4 M5 ez4 H locs hG => ?_)
  obtain ⟨ez4, eM5⟩ := ez4
  subst ez4
  rw [eM5] at hG
  refine j_contv (va_runS (As := [.int (J (b2i (pb_X10_isInstant a2)))]) (rest := []) ⟨hx, hb, hml, hown, hts⟩ (Ao_X10_needArgument l h) (va_cwS 1 hts (gj_S ml_RX10_72 i_X10_needArgument n_RX10 k_X10_needArgument) rfl rfl rfl (by decide +kernel) ⟨by exact Nat.le_of_ble_eq_true rfl, by exact Nat.le_of_ble_eq_true rfl⟩) (j_preS hK hSX hG) rfl rfl hl.1 rfl (lv_room (Nat.le_of_ble_eq_true rfl)) dX10_toLocal_9 ⟨by exact Nat.le_of_ble_eq_true rfl, by exact Nat.le_of_ble_eq_true rfl⟩) hG (c2 := 0) (s2 := 0) ⟨by exact Nat.le_of_ble_eq_true rfl, by exact Nat.le_of_ble_eq_true rfl⟩ (fun M7 h H locs hG => ?_)
  obtain ⟨h, eM7⟩ := h
  rw [eM7] at hG
  refine lv_iload_n hx hb dX10_toLocal_12 rfl (lv_at hl 2 rfl) ?_
  refine lv_aload_n hx hb dX10_toLocal_13 rfl (lv_at hl 0 rfl) ?_
  refine lv_iload_n hx hb dX10_toLocal_14 rfl (lv_at hl 1 rfl) ?_
  refine j_contr (va_runV (As := [.int (J a1)]) (rest := [.int (J a2)]) ⟨hx, hb, hml, hown, hts⟩ (A_X10_compiled l ka0 h) (cwV 1 hts (gj_V ml_RX10_144 i_X10_compiled s_X10_compiled n_RX10 k_X10_compiled) rfl rfl rfl (by decide +kernel) ⟨by exact Nat.le_of_ble_eq_true rfl, by exact Nat.le_of_ble_eq_true rfl⟩) (j_preV hK hSX hG (ci := 9) rfl ka0 (by decide)) rfl rfl hl.1 rfl (lv_room (Nat.le_of_ble_eq_true rfl)) dX10_toLocal_15 ⟨by exact Nat.le_of_ble_eq_true rfl, by exact Nat.le_of_ble_eq_true rfl⟩) hG (c2 := 0) (s2 := 0) ⟨by exact Nat.le_of_ble_eq_true rfl, by exact Nat.le_of_ble_eq_true rfl⟩ (fun k8 M9 h hk8 H locs hG => ?_)
  refine lv_iload_n hx hb dX10_toLocal_18 rfl (lv_at hl 2 rfl) ?_
  refine j_conti (va_runV (As := [.int (J a2)]) (rest := [.int (J a2)]) ⟨hx, hb, hml, hown, hts⟩ (A_X7_offsetAt l hk8 h) (cwV 1 hts (gj_V ml_RX10_209 i_X7_offsetAt s_X7_offsetAt n_RX7 k_X7_offsetAt) rfl rfl rfl (by decide +kernel) ⟨by exact Nat.le_of_ble_eq_true rfl, by exact Nat.le_of_ble_eq_true rfl⟩) (j_preV hK hSX hG (ci := 6) rfl hk8 (by decide)) rfl rfl hl.1 rfl (lv_room (Nat.le_of_ble_eq_true rfl)) dX10_toLocal_19 ⟨by exact Nat.le_of_ble_eq_true rfl, by exact Nat.le_of_ble_eq_true rfl⟩) hG (c2 := 0) (s2 := 0) ⟨by exact Nat.le_of_ble_eq_true rfl, by exact Nat.le_of_ble_eq_true rfl⟩ (fun z10 M11 h H locs hG => ?_)
  obtain ⟨h, eM11⟩ := h
  rw [eM11] at hG
  refine j_iadd hx hb dX10_toLocal_22 ?_
  rw [hQf]
  exact j_ireti hx hb hr hlocks hG h (by decide) dX10_toLocal_23
abbrev rm_X10_toLocal : Room := { frames := 8, cells := 1, slots := 6, locals := 131 }
set_option maxRecDepth 100000 in
set_option maxHeartbeats 4000000 in
theorem A_X10_toLocal (l : Launch) (hst : l.stackTraces = false) {D : va_G} {cy : Nat → ClassId} {o : Nat} {sK sV : Nat → Nat} {M : jT} {a0 : Int} {a1 : Int} {a2 : Int} (ka0 : kd a0 = 10) {Q : Int → jT → Prop} {X : Nat → jT → Prop} (h : wp_X10_toLocal M a0 a1 a2 Q X) : CxI l yX10_toLocal (wj yX10_toLocal cX10_toLocal 3 (some .int)) rm_X10_toLocal D cy o sK sV M [.ref (rA o a0), .int (J a1), .int (J a2)] Q X := by
  refine j_ofWx (cc := cX10_toLocal) (maxL := 3) (ret := (some .int)) (by decide) rfl (Nat.le_of_ble_eq_true rfl) ?_
  intro p e s m args below meth c hx hb hr hlocks hout hml hown hts hK hSX H locs hsz hG ls hl Qf hQf
  have hown : s.vm.findClass RX10 = some m.cls := hown
  have hl : lv_has ls 3 [(0, .ref (rA o a0)), (1, .int (J a1)), (2, .int (J a2))] := hl
  unfold wp_X10_toLocal at h
  refine lv_aload_n hx hb dX10_toLocal_0 rfl (lv_at hl 0 rfl) ?_
  refine lv_iload_n hx hb dX10_toLocal_1 rfl (lv_at hl 1 rfl) ?_
  rcases h with h | h
  · refine j_contv (va_runV (As := [.int (J a1)]) (rest := []) ⟨hx, hb, hml, hown, hts⟩ (Ao_X10_needZone l ka0 h) (cwV 1 hts (gj_V ml_RX10_137 i_X10_needZone s_X10_needZone n_RX10 k_X10_needZone) rfl rfl rfl (by decide +kernel) ⟨by exact Nat.le_of_ble_eq_true rfl, by exact Nat.le_of_ble_eq_true rfl⟩) (j_preV hK hSX hG (ci := 9) rfl ka0 (by decide)) rfl rfl hl.1 rfl (lv_room (Nat.le_of_ble_eq_true rfl)) dX10_toLocal_2 ⟨by exact Nat.le_of_ble_eq_true rfl, by exact Nat.le_of_ble_eq_true rfl⟩) hG (c2 := 0) (s2 := 0) ⟨by exact Nat.le_of_ble_eq_true rfl, by exact Nat.le_of_ble_eq_true rfl⟩ (fun M2 h H locs hG => ?_)
    obtain ⟨h, eM2⟩ := h
    rw [eM2] at hG
    refine lv_iload_n hx hb dX10_toLocal_5 rfl (lv_at hl 2 rfl) ?_
    obtain ⟨g3, h⟩ := h
    refine j_conti (va_runS (As := [.int (J a2)]) (rest := []) ⟨hx, hb, hml, hown, hts⟩ (A_X10_isInstant l g3) (va_cwS 1 hts (gj_S ml_RX10_206 i_X10_isInstant n_RX10 k_X10_isInstant) rfl rfl rfl (by decide +kernel) ⟨by exact Nat.le_of_ble_eq_true rfl, by exact Nat.le_of_ble_eq_true rfl⟩) (j_preS hK hSX hG) rfl rfl hl.1 rfl (lv_room (Nat.le_of_ble_eq_true rfl)) dX10_toLocal_6 ⟨by exact Nat.le_of_ble_eq_true rfl, by exact Nat.le_of_ble_eq_true rfl⟩) hG (c2 := 0) (s2 := 0) ⟨by exact Nat.le_of_ble_eq_true rfl, by exact Nat.le_of_ble_eq_true rfl⟩ (fun z4 M5 ez4 H locs hG => ?_)
    obtain ⟨ez4, eM5⟩ := ez4
    subst ez4
    rw [eM5] at hG
    rcases h with h | h
    · refine j_contv (va_runS (As := [.int (J (b2i (pb_X10_isInstant a2)))]) (rest := []) ⟨hx, hb, hml, hown, hts⟩ (Ao_X10_needArgument l h) (va_cwS 1 hts (gj_S ml_RX10_72 i_X10_needArgument n_RX10 k_X10_needArgument) rfl rfl rfl (by decide +kernel) ⟨by exact Nat.le_of_ble_eq_true rfl, by exact Nat.le_of_ble_eq_true rfl⟩) (j_preS hK hSX hG) rfl rfl hl.1 rfl (lv_room (Nat.le_of_ble_eq_true rfl)) dX10_toLocal_9 ⟨by exact Nat.le_of_ble_eq_true rfl, by exact Nat.le_of_ble_eq_true rfl⟩) hG (c2 := 0) (s2 := 0) ⟨by exact Nat.le_of_ble_eq_true rfl, by exact Nat.le_of_ble_eq_true rfl⟩ (fun M7 h H locs hG => ?_)
      obtain ⟨h, eM7⟩ := h
      rw [eM7] at hG
      refine lv_iload_n hx hb dX10_toLocal_12 rfl (lv_at hl 2 rfl) ?_
      refine lv_aload_n hx hb dX10_toLocal_13 rfl (lv_at hl 0 rfl) ?_
      refine lv_iload_n hx hb dX10_toLocal_14 rfl (lv_at hl 1 rfl) ?_
      refine j_contr (va_runV (As := [.int (J a1)]) (rest := [.int (J a2)]) ⟨hx, hb, hml, hown, hts⟩ (A_X10_compiled l ka0 h) (cwV 1 hts (gj_V ml_RX10_144 i_X10_compiled s_X10_compiled n_RX10 k_X10_compiled) rfl rfl rfl (by decide +kernel) ⟨by exact Nat.le_of_ble_eq_true rfl, by exact Nat.le_of_ble_eq_true rfl⟩) (j_preV hK hSX hG (ci := 9) rfl ka0 (by decide)) rfl rfl hl.1 rfl (lv_room (Nat.le_of_ble_eq_true rfl)) dX10_toLocal_15 ⟨by exact Nat.le_of_ble_eq_true rfl, by exact Nat.le_of_ble_eq_true rfl⟩) hG (c2 := 0) (s2 := 0) ⟨by exact Nat.le_of_ble_eq_true rfl, by exact Nat.le_of_ble_eq_true rfl⟩ (fun k8 M9 h hk8 H locs hG => ?_)
      refine lv_iload_n hx hb dX10_toLocal_18 rfl (lv_at hl 2 rfl) ?_
      refine j_conti (va_runV (As := [.int (J a2)]) (rest := [.int (J a2)]) ⟨hx, hb, hml, hown, hts⟩ (A_X7_offsetAt l hk8 h) (cwV 1 hts (gj_V ml_RX10_209 i_X7_offsetAt s_X7_offsetAt n_RX7 k_X7_offsetAt) rfl rfl rfl (by decide +kernel) ⟨by exact Nat.le_of_ble_eq_true rfl, by exact Nat.le_of_ble_eq_true rfl⟩) (j_preV hK hSX hG (ci := 6) rfl hk8 (by decide)) rfl rfl hl.1 rfl (lv_room (Nat.le_of_ble_eq_true rfl)) dX10_toLocal_19 ⟨by exact Nat.le_of_ble_eq_true rfl, by exact Nat.le_of_ble_eq_true rfl⟩) hG (c2 := 0) (s2 := 0) ⟨by exact Nat.le_of_ble_eq_true rfl, by exact Nat.le_of_ble_eq_true rfl⟩ (fun z10 M11 h H locs hG => ?_)
      obtain ⟨h, eM11⟩ := h
      rw [eM11] at hG
      refine j_iadd hx hb dX10_toLocal_22 ?_
      rw [hQf]
      exact vx_ret (j_ireti hx hb hr hlocks hG h (by decide) dX10_toLocal_23)
    · refine j_contxv (vx_runS (As := [.int (J (b2i (pb_X10_isInstant a2)))]) (rest := []) ⟨hx, hb, hml, hown, hts⟩ (A_X10_needArgument l hst h) (va_cwS 1 hts (gj_S ml_RX10_72 i_X10_needArgument n_RX10 k_X10_needArgument) rfl rfl rfl (by decide +kernel) ⟨by exact Nat.le_of_ble_eq_true rfl, by exact Nat.le_of_ble_eq_true rfl⟩) (j_preS hK hSX hG) rfl rfl hl.1 rfl (lv_room (Nat.le_of_ble_eq_true rfl)) dX10_toLocal_9 ⟨by exact Nat.le_of_ble_eq_true rfl, by exact Nat.le_of_ble_eq_true rfl⟩) hG (c2 := 1) (s2 := 6) ⟨by exact Nat.le_of_ble_eq_true rfl, by exact Nat.le_of_ble_eq_true rfl⟩ (fun x M h ce q H locs hG h1 h2 h3 => ?_) (fun M h H locs hG => h.elim)
      rw [hQf]
      exact j_xout hlocks hout hG h h1 h2 h3 (by decide)
  · refine j_contxv (vx_runV (As := [.int (J a1)]) (rest := []) ⟨hx, hb, hml, hown, hts⟩ (A_X10_needZone l hst ka0 h) (cwV 1 hts (gj_V ml_RX10_137 i_X10_needZone s_X10_needZone n_RX10 k_X10_needZone) rfl rfl rfl (by decide +kernel) ⟨by exact Nat.le_of_ble_eq_true rfl, by exact Nat.le_of_ble_eq_true rfl⟩) (j_preV hK hSX hG (ci := 9) rfl ka0 (by decide)) rfl rfl hl.1 rfl (lv_room (Nat.le_of_ble_eq_true rfl)) dX10_toLocal_2 ⟨by exact Nat.le_of_ble_eq_true rfl, by exact Nat.le_of_ble_eq_true rfl⟩) hG (c2 := 1) (s2 := 6) ⟨by exact Nat.le_of_ble_eq_true rfl, by exact Nat.le_of_ble_eq_true rfl⟩ (fun x M h ce q H locs hG h1 h2 h3 => ?_) (fun M h H locs hG => h.elim)
    rw [hQf]
    exact j_xout hlocks hout hG h h1 h2 h3 (by decide)

abbrev rm_X10_isLocal : Room := { frames := 0, cells := 0, slots := 0, locals := 0 }
set_option maxRecDepth 100000 in
set_option maxHeartbeats 4000000 in
theorem A_X10_isLocal (l : Launch) {D : va_G} {cy : Nat → ClassId} {o : Nat} {sK sV : Nat → Nat} {M : jT} {a0 : Int} (h : pg_X10_isLocal a0) : CoI l yX10_isLocal (wj yX10_isLocal cX10_isLocal 1 (some .boolean)) rm_X10_isLocal D cy o sK sV M [.int (J a0)] (fun z M9 => z = b2i (pb_X10_isLocal a0) ∧ M9 = M) := by
  refine j_ofW (cc := cX10_isLocal) (maxL := 1) (ret := (some .boolean)) (by decide) rfl (Nat.le_of_ble_eq_true rfl) ?_
  intro p e s m args below meth c hx hb hr hlocks hml hown hts hK hSX H locs hG ls hl Qf hQf
  have hown : s.vm.findClass RX10 = some m.cls := hown
  have hl : lv_has ls 1 [(0, .int (J a0))] := hl
  have w_ck_RX10_478 := hts _ (List.mem_cons_of_mem _ ck_RX10_478)
  unfold pg_X10_isLocal at h
  refine lv_iload_n hx hb dX10_isLocal_0 rfl (lv_at hl 0 rfl) ?_
  obtain ⟨g2, h⟩ := h
  refine j_if_lt (tgt := 15) hx hb dX10_isLocal_1 (by decide) g2 (fun c1 => ?_) (fun c1 => ?_)
  · have h := h.1 c1
    refine lv_iconst (v := J 0) hx hb dX10_isLocal_15 (by decide) ?_
    rw [hQf]
    exact j_iretn hx hb hr hlocks (nar_b (by decide)) hG ⟨(b2i_iff0 (iff_of_false (fun q8 => (show ¬ (0 ≤ a0) from by omega) q8.1) id)), rfl⟩ (by decide) dX10_isLocal_16
  · have h := h.2 c1
    refine lv_iload_n hx hb dX10_isLocal_4 rfl (lv_at hl 0 rfl) ?_
    refine lv_ldcw (v := J 16830720) hx hb hown (show (Cond.constant RX10 478 (J 16830720)).before args s = true from w_ck_RX10_478) dX10_isLocal_5 ?_
    refine j_icmp_ge (tgt := 15) hx hb dX10_isLocal_8 (by decide) g2 (by decide) (fun c3 => ?_) (fun c3 => ?_)
    · have h := h.1 c3
      refine lv_iconst (v := J 0) hx hb dX10_isLocal_15 (by decide) ?_
      rw [hQf]
      exact j_iretn hx hb hr hlocks (nar_b (by decide)) hG ⟨(b2i_iff0 ((and_iff_right c1).trans (iff_of_false (show ¬ (a0 < 16830720) from by omega) id))), rfl⟩ (by decide) dX10_isLocal_16
    · have h := h.2 c3
      refine lv_iconst (v := J 1) hx hb dX10_isLocal_11 (by decide) ?_
      refine lv_goto (tgt := 16) hx hb dX10_isLocal_12 (by decide) ?_
      rw [hQf]
      exact j_iretn hx hb hr hlocks (nar_b (by decide)) hG ⟨(b2i_iff1 ((and_iff_right c1).trans (iff_of_true c3 trivial))), rfl⟩ (by decide) dX10_isLocal_16

abbrev rm_X7_spanHolds : Room := { frames := 0, cells := 0, slots := 0, locals := 0 }
set_option maxRecDepth 100000 in
set_option maxHeartbeats 4000000 in
theorem A_X7_spanHolds (l : Launch) {D : va_G} {cy : Nat → ClassId} {o : Nat} {sK sV : Nat → Nat} {M : jT} {a0 : Int} {a1 : Int} {a2 : Int} (ka0 : kd a0 = 7) (h : pg_X7_spanHolds M a0 a1 a2) : CoI l yX7_spanHolds (wj yX7_spanHolds cX7_spanHolds 3 (some .boolean)) rm_X7_spanHolds D cy o sK sV M [.ref (rA o a0), .int (J a1), .int (J a2)] (fun z M9 => z = b2i (pb_X7_spanHolds M a0 a1 a2) ∧ M9 = M) := by
  refine j_ofW (cc := cX7_spanHolds) (maxL := 3) (ret := (some .boolean)) (by decide) rfl (Nat.le_of_ble_eq_true rfl) ?_
  intro p e s m args below meth c hx hb hr hlocks hml hown hts hK hSX H locs hG ls hl Qf hQf
  have hown : s.vm.findClass RX7 = some m.cls := hown
  have hl : lv_has ls 3 [(0, .ref (rA o a0)), (1, .int (J a1)), (2, .int (J a2))] := hl
  have w_fl_RX7_37 := hts _ (List.mem_cons_of_mem _ fl_RX7_37)
  have w_fl_RX7_9 := hts _ (List.mem_cons_of_mem _ fl_RX7_9)
  unfold pg_X7_spanHolds at h
  refine lv_iload_n hx hb dX7_spanHolds_0 rfl (lv_at hl 1 rfl) ?_
  obtain ⟨g2, h⟩ := h
  refine j_if_eq (tgt := 16) hx hb dX7_spanHolds_1 (by decide) g2 (fun c1 => ?_) (fun c1 => ?_)
  · have h := h.1 c1
    refine lv_iload_n hx hb dX7_spanHolds_16 rfl (lv_at hl 1 rfl) ?_
    refine lv_aload_n hx hb dX7_spanHolds_17 rfl (lv_at hl 0 rfl) ?_
    refine j_geti hx hb hts hown hK hG (k := a0) (fun w h => List.mem_cons_of_mem _ (u_X7 w h)) (ci := 6) rfl ka0 2 (by decide) (jz := 2) rfl w_fl_RX7_37 dX7_spanHolds_18 ?_
    obtain ⟨g4, h⟩ := h
    refine j_icmp_eq (tgt := 34) hx hb dX7_spanHolds_21 (by decide) g2 g4 (fun c3 => ?_) (fun c3 => ?_)
    · have h := h.1 c3
      refine lv_iconst (v := J 1) hx hb dX7_spanHolds_34 (by decide) ?_
      refine lv_goto (tgt := 39) hx hb dX7_spanHolds_35 (by decide) ?_
      rw [hQf]
      exact j_iretn hx hb hr hlocks (nar_b (by decide)) hG ⟨(b2i_iff1 ((pj_t c1 (show ¬ (a1 ≠ 0) from by omega)).trans (iff_of_true (Or.inl c3) trivial))), rfl⟩ (by decide) dX7_spanHolds_39
    · have h := h.2 c3
      refine lv_iload_n hx hb dX7_spanHolds_24 rfl (lv_at hl 2 rfl) ?_
      refine lv_aload_n hx hb dX7_spanHolds_25 rfl (lv_at hl 0 rfl) ?_
      refine j_getr hx hb hts hown hK hG (k := a0) (fun w h => List.mem_cons_of_mem _ (u_X7 w h)) (ci := 6) rfl ka0 6 (k2 := a0 + 1) (by decide) (by show a0 + (1 : Int) = a0 + 1; omega) w_fl_RX7_9 dX7_spanHolds_26 ?_
      refine lv_iload_n hx hb dX7_spanHolds_29 rfl (lv_at hl 1 rfl) ?_
      obtain ⟨g5, h⟩ := h
      refine j_iald hx hb hK hG (n := 260) (kf_7_6 ka0) (by decide) g5 dX7_spanHolds_30 ?_
      obtain ⟨g7, h⟩ := h
      obtain ⟨g8, h⟩ := h
      refine j_icmp_ge (tgt := 38) hx hb dX7_spanHolds_31 (by decide) g7 g8 (fun c6 => ?_) (fun c6 => ?_)
      · have h := h.1 c6
        refine lv_iconst (v := J 0) hx hb dX7_spanHolds_38 (by decide) ?_
        rw [hQf]
        exact j_iretn hx hb hr hlocks (nar_b (by decide)) hG ⟨(b2i_iff0 ((pj_t c1 (show ¬ (a1 ≠ 0) from by omega)).trans ((or_iff_right (show ¬ (a1 = M a0 2) from by omega)).trans (iff_of_false (show ¬ (a2 < M (a0 + 1) a1) from by omega) id)))), rfl⟩ (by decide) dX7_spanHolds_39
      · have h := h.2 c6
        refine lv_iconst (v := J 1) hx hb dX7_spanHolds_34 (by decide) ?_
        refine lv_goto (tgt := 39) hx hb dX7_spanHolds_35 (by decide) ?_
        rw [hQf]
        exact j_iretn hx hb hr hlocks (nar_b (by decide)) hG ⟨(b2i_iff1 ((pj_t c1 (show ¬ (a1 ≠ 0) from by omega)).trans ((or_iff_right (show ¬ (a1 = M a0 2) from by omega)).trans (iff_of_true c6 trivial)))), rfl⟩ (by decide) dX7_spanHolds_39
  · have h := h.2 c1
    refine lv_aload_n hx hb dX7_spanHolds_4 rfl (lv_at hl 0 rfl) ?_
    refine j_getr hx hb hts hown hK hG (k := a0) (fun w h => List.mem_cons_of_mem _ (u_X7 w h)) (ci := 6) rfl ka0 6 (k2 := a0 + 1) (by decide) (by show a0 + (1 : Int) = a0 + 1; omega) w_fl_RX7_9 dX7_spanHolds_5 ?_
    refine lv_iload_n hx hb dX7_spanHolds_8 rfl (lv_at hl 1 rfl) ?_
    refine lv_iconst (v := J 1) hx hb dX7_spanHolds_9 (by decide) ?_
    refine j_isub hx hb dX7_spanHolds_10 ?_
    obtain ⟨g9, h⟩ := h
    refine j_iald hx hb hK hG (n := 260) (kf_7_6 ka0) (by decide) g9 dX7_spanHolds_11 ?_
    refine lv_iload_n hx hb dX7_spanHolds_12 rfl (lv_at hl 2 rfl) ?_
    obtain ⟨g11, h⟩ := h
    obtain ⟨g12, h⟩ := h
    refine j_icmp_gt (tgt := 38) hx hb dX7_spanHolds_13 (by decide) g11 g12 (fun c10 => ?_) (fun c10 => ?_)
    · have h := h.1 c10
      refine lv_iconst (v := J 0) hx hb dX7_spanHolds_38 (by decide) ?_
      rw [hQf]
      exact j_iretn hx hb hr hlocks (nar_b (by decide)) hG ⟨(b2i_iff0 ((pj_f (show ¬ (a1 = 0) from by omega) c1).trans (iff_of_false (fun q8 => (show ¬ (M (a0 + 1) (a1 - 1) ≤ a2) from by omega) q8.1) id))), rfl⟩ (by decide) dX7_spanHolds_39
    · have h := h.2 c10
      refine lv_iload_n hx hb dX7_spanHolds_16 rfl (lv_at hl 1 rfl) ?_
      refine lv_aload_n hx hb dX7_spanHolds_17 rfl (lv_at hl 0 rfl) ?_
      refine j_geti hx hb hts hown hK hG (k := a0) (fun w h => List.mem_cons_of_mem _ (u_X7 w h)) (ci := 6) rfl ka0 2 (by decide) (jz := 2) rfl w_fl_RX7_37 dX7_spanHolds_18 ?_
      obtain ⟨g14, h⟩ := h
      refine j_icmp_eq (tgt := 34) hx hb dX7_spanHolds_21 (by decide) g2 g14 (fun c13 => ?_) (fun c13 => ?_)
      · have h := h.1 c13
        refine lv_iconst (v := J 1) hx hb dX7_spanHolds_34 (by decide) ?_
        refine lv_goto (tgt := 39) hx hb dX7_spanHolds_35 (by decide) ?_
        rw [hQf]
        exact j_iretn hx hb hr hlocks (nar_b (by decide)) hG ⟨(b2i_iff1 ((pj_f (show ¬ (a1 = 0) from by omega) c1).trans ((and_iff_right c10).trans (iff_of_true (Or.inl c13) trivial)))), rfl⟩ (by decide) dX7_spanHolds_39
      · have h := h.2 c13
        refine lv_iload_n hx hb dX7_spanHolds_24 rfl (lv_at hl 2 rfl) ?_
        refine lv_aload_n hx hb dX7_spanHolds_25 rfl (lv_at hl 0 rfl) ?_
        refine j_getr hx hb hts hown hK hG (k := a0) (fun w h => List.mem_cons_of_mem _ (u_X7 w h)) (ci := 6) rfl ka0 6 (k2 := a0 + 1) (by decide) (by show a0 + (1 : Int) = a0 + 1; omega) w_fl_RX7_9 dX7_spanHolds_26 ?_
        refine lv_iload_n hx hb dX7_spanHolds_29 rfl (lv_at hl 1 rfl) ?_
        obtain ⟨g15, h⟩ := h
        refine j_iald hx hb hK hG (n := 260) (kf_7_6 ka0) (by decide) g15 dX7_spanHolds_30 ?_
        obtain ⟨g17, h⟩ := h
        refine j_icmp_ge (tgt := 38) hx hb dX7_spanHolds_31 (by decide) g12 g17 (fun c16 => ?_) (fun c16 => ?_)
        · have h := h.1 c16
          refine lv_iconst (v := J 0) hx hb dX7_spanHolds_38 (by decide) ?_
          rw [hQf]
          exact j_iretn hx hb hr hlocks (nar_b (by decide)) hG ⟨(b2i_iff0 ((pj_f (show ¬ (a1 = 0) from by omega) c1).trans ((and_iff_right c10).trans ((or_iff_right (show ¬ (a1 = M a0 2) from by omega)).trans (iff_of_false (show ¬ (a2 < M (a0 + 1) a1) from by omega) id))))), rfl⟩ (by decide) dX7_spanHolds_39
        · have h := h.2 c16
          refine lv_iconst (v := J 1) hx hb dX7_spanHolds_34 (by decide) ?_
          refine lv_goto (tgt := 39) hx hb dX7_spanHolds_35 (by decide) ?_
          rw [hQf]
          exact j_iretn hx hb hr hlocks (nar_b (by decide)) hG ⟨(b2i_iff1 ((pj_f (show ¬ (a1 = 0) from by omega) c1).trans ((and_iff_right c10).trans ((or_iff_right (show ¬ (a1 = M a0 2) from by omega)).trans (iff_of_true c16 trivial))))), rfl⟩ (by decide) dX7_spanHolds_39

abbrev rm_X7_look : Room := { frames := 1, cells := 0, slots := 0, locals := 24 }
set_option maxRecDepth 100000 in
set_option maxHeartbeats 4000000 in
theorem A_X7_look (l : Launch) {D : va_G} {cy : Nat → ClassId} {o : Nat} {sK sV : Nat → Nat} {M : jT} {a0 : Int} {a1 : Int} (ka0 : kd a0 = 7) {Q : jT → Prop} (h : wp_X7_look M a0 a1 Q) : CoV l yX7_look (wj yX7_look cX7_look 5 none) rm_X7_look D cy o sK sV M [.ref (rA o a0), .int (J a1)] Q := by
  refine j_ofW (cc := cX7_look) (maxL := 5) (ret := none) (by decide) rfl (Nat.le_of_ble_eq_true rfl) ?_
  intro p e s m args below meth c hx hb hr hlocks hml hown hts hK hSX H locs hG ls hl Qf hQf
  have hown : s.vm.findClass RX7 = some m.cls := hown
  have hl : lv_has ls 5 [(0, .ref (rA o a0)), (1, .int (J a1))] := hl
  have w_fl_RX7_101 := hts _ (List.mem_cons_of_mem _ fl_RX7_101)
  have w_ck_RX7_104 := hts _ (List.mem_cons_of_mem _ ck_RX7_104)
  have w_fl_RX7_105 := hts _ (List.mem_cons_of_mem _ fl_RX7_105)
  have w_fl_RX7_108 := hts _ (List.mem_cons_of_mem _ fl_RX7_108)
  have w_fl_RX7_51 := hts _ (List.mem_cons_of_mem _ fl_RX7_51)
  have w_fl_RX7_48 := hts _ (List.mem_cons_of_mem _ fl_RX7_48)
  have w_fl_RX7_37 := hts _ (List.mem_cons_of_mem _ fl_RX7_37)
  have w_fl_RX7_9 := hts _ (List.mem_cons_of_mem _ fl_RX7_9)
  have w_fl_RX7_30 := hts _ (List.mem_cons_of_mem _ fl_RX7_30)
  unfold wp_X7_look at h
  refine lv_aload_n hx hb dX7_look_0 rfl (lv_at hl 0 rfl) ?_
  refine lv_iconst (v := J 0) hx hb dX7_look_1 (by decide) ?_
  refine j_puti hx hb hts hown hK hG (k := a0) (fun w h => List.mem_cons_of_mem _ (u_X7 w h)) tyX7 tyX7_ok nmX7 (ci := 6) rfl ka0 13 (by decide) (jz := 13) rfl w_fl_RX7_101 (hd := rfl) (hn := rfl) (hfit := rfl) (hdg := dX7_look_2) (fun M1 eM1 H locs hG => ?_)
  have h := h M1 eM1
  refine lv_aload_n hx hb dX7_look_5 rfl (lv_at hl 0 rfl) ?_
  refine lv_ldc (v := J (-1000000000)) hx hb hown (show (Cond.constant RX7 104 (J (-1000000000))).before args s = true from w_ck_RX7_104) dX7_look_6 ?_
  refine j_puti hx hb hts hown hK hG (k := a0) (fun w h => List.mem_cons_of_mem _ (u_X7 w h)) tyX7 tyX7_ok nmX7 (ci := 6) rfl ka0 14 (by decide) (jz := 14) rfl w_fl_RX7_105 (hd := rfl) (hn := rfl) (hfit := rfl) (hdg := dX7_look_8) (fun M2 eM2 H locs hG => ?_)
  have h := h M2 eM2
  refine lv_aload_n hx hb dX7_look_11 rfl (lv_at hl 0 rfl) ?_
  refine lv_ldc (v := J (-1000000000)) hx hb hown (show (Cond.constant RX7 104 (J (-1000000000))).before args s = true from w_ck_RX7_104) dX7_look_12 ?_
  refine j_puti hx hb hts hown hK hG (k := a0) (fun w h => List.mem_cons_of_mem _ (u_X7 w h)) tyX7 tyX7_ok nmX7 (ci := 6) rfl ka0 15 (by decide) (jz := 15) rfl w_fl_RX7_108 (hd := rfl) (hn := rfl) (hfit := rfl) (hdg := dX7_look_14) (fun M3 eM3 H locs hG => ?_)
  have h := h M3 eM3
  refine lv_iload_n hx hb dX7_look_17 rfl (lv_at hl 1 rfl) ?_
  refine lv_aload_n hx hb dX7_look_18 rfl (lv_at hl 0 rfl) ?_
  refine j_geti hx hb hts hown hK hG (k := a0) (fun w h => List.mem_cons_of_mem _ (u_X7 w h)) (ci := 6) rfl ka0 5 (by decide) (jz := 5) rfl w_fl_RX7_51 dX7_look_19 ?_
  refine j_isub hx hb dX7_look_22 ?_
  refine j_topi (fun x4 ex4 => ?_)
  have h := h x4 ex4
  refine lv_istore_n (lv' := [(2, .int (J x4)), (0, .ref (rA o a0)), (1, .int (J a1))]) hx hb dX7_look_23 rfl hl (by decide) rfl (fun ls hl => ?_)
  refine lv_aload_n hx hb dX7_look_24 rfl (lv_at hl 1 rfl) ?_
  refine lv_iload_n hx hb dX7_look_25 rfl (lv_at hl 2 rfl) ?_
  refine lv_aload_n hx hb dX7_look_26 rfl (lv_at hl 1 rfl) ?_
  refine j_geti hx hb hts hown hK hG (k := a0) (fun w h => List.mem_cons_of_mem _ (u_X7 w h)) (ci := 6) rfl ka0 4 (by decide) (jz := 4) rfl w_fl_RX7_48 dX7_look_27 ?_
  refine j_isub hx hb dX7_look_30 ?_
  refine j_conti (va_runV (As := [.int (J (a1 - (M3 a0 4)))]) (rest := []) ⟨hx, hb, hml, hown, hts⟩ (A_X7_spanAt l ka0 h) (cwV 1 hts (gj_V ml_RX7_97 i_X7_spanAt s_X7_spanAt n_RX7 k_X7_spanAt) rfl rfl rfl (by decide +kernel) ⟨by exact Nat.le_of_ble_eq_true rfl, by exact Nat.le_of_ble_eq_true rfl⟩) (j_preV hK hSX hG (ci := 6) rfl ka0 (by decide)) rfl rfl hl.1 rfl (lv_room (Nat.le_of_ble_eq_true rfl)) dX7_look_31 ⟨by exact Nat.le_of_ble_eq_true rfl, by exact Nat.le_of_ble_eq_true rfl⟩) hG (c2 := 0) (s2 := 0) ⟨by exact Nat.le_of_ble_eq_true rfl, by exact Nat.le_of_ble_eq_true rfl⟩ (fun z5 M6 h H locs hG => ?_)
  obtain ⟨h, eM6⟩ := h
  rw [eM6] at hG
  refine lv_istore_n (lv' := [(3, .int (J z5)), (2, .int (J x4)), (0, .ref (rA o a0)), (1, .int (J a1))]) hx hb dX7_look_34 rfl hl (by decide) rfl (fun ls hl => ?_)
  obtain ⟨I9, ⟨n10s, iI9⟩, qI9⟩ := h
  have lI9 : ∀ (n10 : Nat) (x7 : Int) (M8 : jT), I9 n10 x7 M8 → ∀ (H : Heap) (locs : List Loc), GM D cy o M8 s.heap H locs → ∀ ls : Array Slot, lv_has ls 5 [(0, .ref (rA o a0)), (1, .int (J a1)), (2, .int (J x4)), (3, .int (J x7))] → W p l e rm_X7_look s m args below meth c H locs 0 0 Qf (F0 m 35 ls []) := by
    intro n10
    induction n10 using Nat.strongRecOn with
    | ind n10 rI9 =>
      intro x7 M8 iI9 H locs hG ls hl
      have h := qI9 n10 x7 M8 iI9
      refine lv_iload_n hx hb dX7_look_35 rfl (lv_at hl 3 rfl) ?_
      refine lv_aload_n hx hb dX7_look_36 rfl (lv_at hl 0 rfl) ?_
      refine j_geti hx hb hts hown hK hG (k := a0) (fun w h => List.mem_cons_of_mem _ (u_X7 w h)) (ci := 6) rfl ka0 2 (by decide) (jz := 2) rfl w_fl_RX7_37 dX7_look_37 ?_
      obtain ⟨K54, hK54, h⟩ := h
      have jK54 : K54 → ∀ (H : Heap) (locs : List Loc), GM D cy o M8 s.heap H locs → ∀ ls : Array Slot, lv_has ls 5 [] → W p l e rm_X7_look s m args below meth c H locs 0 0 Qf (F0 m 124 ls []) := by
        intro hcK54 H locs hG ls hl
        have h := hK54 hcK54
        rw [hQf]
        exact j_vret hx hb hr hlocks hG h (by decide) dX7_look_124
      obtain ⟨g56, h⟩ := h
      obtain ⟨g57, h⟩ := h
      refine j_icmp_gt (tgt := 124) hx hb dX7_look_40 (by decide) g56 g57 (fun c55 => ?_) (fun c55 => ?_)
      · have h := h.1 c55
        exact jK54 h H locs hG ls (lv_sub hl [] rfl)
      · have h := h.2 c55
        refine lv_iload_n hx hb dX7_look_43 rfl (lv_at hl 3 rfl) ?_
        obtain ⟨K63, hK63, h⟩ := h
        have jK63 : K63 → ∀ (H : Heap) (locs : List Loc), GM D cy o M8 s.heap H locs → ∀ ls : Array Slot, lv_has ls 5 [(0, .ref (rA o a0)), (1, .int (J a1)), (2, .int (J x4)), (3, .int (J x7))] → W p l e rm_X7_look s m args below meth c H locs 0 0 Qf (F0 m 62 ls []) := by
          intro hcK63 H locs hG ls hl
          have h := hK63 hcK63
          refine lv_iload_n hx hb dX7_look_62 rfl (lv_at hl 1 rfl) ?_
          refine lv_aload_n hx hb dX7_look_63 rfl (lv_at hl 0 rfl) ?_
          refine j_getr hx hb hts hown hK hG (k := a0) (fun w h => List.mem_cons_of_mem _ (u_X7 w h)) (ci := 6) rfl ka0 12 (k2 := a0 + 7) (by decide) (by show a0 + (7 : Int) = a0 + 7; omega) w_fl_RX7_30 dX7_look_64 ?_
          refine lv_iload_n hx hb dX7_look_67 rfl (lv_at hl 3 rfl) ?_
          obtain ⟨g64, h⟩ := h
          refine j_iald hx hb hK hG (n := 261) (kf_7_12 ka0) (by decide) g64 dX7_look_68 ?_
          refine j_isub hx hb dX7_look_69 ?_
          refine j_topi (fun x65 ex65 => ?_)
          have h := h x65 ex65
          refine lv_istore (lv' := [(4, .int (J x65)), (0, .ref (rA o a0)), (1, .int (J a1)), (2, .int (J x4)), (3, .int (J x7))]) hx hb dX7_look_70 hl (by decide) rfl (fun ls hl => ?_)
          refine lv_aload_n hx hb dX7_look_72 rfl (lv_at hl 1 rfl) ?_
          refine lv_iload_n hx hb dX7_look_73 rfl (lv_at hl 4 rfl) ?_
          refine lv_iload hx hb dX7_look_74 (lv_at hl 0 rfl) ?_
          obtain ⟨g66, h⟩ := h
          refine j_conti (va_runV (As := [.int (J x7), .int (J x65)]) (rest := []) ⟨hx, hb, hml, hown, hts⟩ (A_X7_spanHolds l ka0 g66) (cwV 2 hts (gj_V ml_RX7_111 i_X7_spanHolds s_X7_spanHolds n_RX7 k_X7_spanHolds) rfl rfl rfl (by decide +kernel) ⟨by exact Nat.le_of_ble_eq_true rfl, by exact Nat.le_of_ble_eq_true rfl⟩) (j_preV hK hSX hG (ci := 6) rfl ka0 (by decide)) rfl rfl hl.1 rfl (lv_room (Nat.le_of_ble_eq_true rfl)) dX7_look_76 ⟨by exact Nat.le_of_ble_eq_true rfl, by exact Nat.le_of_ble_eq_true rfl⟩) hG (c2 := 0) (s2 := 0) ⟨by exact Nat.le_of_ble_eq_true rfl, by exact Nat.le_of_ble_eq_true rfl⟩ (fun z67 M68 ez67 H locs hG => ?_)
          obtain ⟨ez67, eM68⟩ := ez67
          subst ez67
          rw [eM68] at hG
          obtain ⟨K80, hK80, h⟩ := h
          have jK80 : ∀ (M79 : jT), K80 M79 → ∀ (H : Heap) (locs : List Loc), GM D cy o M79 s.heap H locs → ∀ ls : Array Slot, lv_has ls 5 [(0, .ref (rA o a0)), (1, .int (J a1)), (2, .int (J x4)), (3, .int (J x7))] → W p l e rm_X7_look s m args below meth c H locs 0 0 Qf (F0 m 118 ls []) := by
            intro M79 hcK80 H locs hG ls hl
            have h := hK80 M79 hcK80
            refine j_iinc hx hb dX7_look_118 hl (k := 3) rfl (by decide) (fun x81 ex81 ls hl => ?_)
            have h := h x81 ex81
            have hl : lv_has ls 5 [(3, .int (J x81)), (0, .ref (rA o a0)), (1, .int (J a1)), (2, .int (J x4))] := hl
            refine lv_goto (tgt := 35) hx hb dX7_look_121 (by decide) ?_
            obtain ⟨n82, ln82, iI9⟩ := h
            exact rI9 n82 ln82 x81 M79 iI9 H locs hG ls (lv_sub hl [1, 2, 3, 0] rfl)
          refine j_if_eq_b (tgt := 118) hx hb dX7_look_79 (by decide) (fun c83 => ?_) (fun c83 => ?_)
          · have h := h.1 c83
            exact jK80 M8 h H locs hG ls (lv_sub hl [1, 2, 3, 4] rfl)
          · have h := h.2 c83
            refine lv_aload_n hx hb dX7_look_82 rfl (lv_at hl 1 rfl) ?_
            refine lv_aload_n hx hb dX7_look_83 rfl (lv_at hl 1 rfl) ?_
            refine j_geti hx hb hts hown hK hG (k := a0) (fun w h => List.mem_cons_of_mem _ (u_X7 w h)) (ci := 6) rfl ka0 13 (by decide) (jz := 13) rfl w_fl_RX7_101 dX7_look_84 ?_
            obtain ⟨hg, h⟩ := h
            have jK87 : ∀ x86 : Int, (M8 a0 13 ≠ 0 → x86 = M8 a0 14) → (M8 a0 13 = 0 → x86 = x65) → ∀ (H : Heap) (locs : List Loc), GM D cy o M8 s.heap H locs → ∀ ls : Array Slot, lv_has ls 5 [(0, .ref (rA o a0)), (1, .int (J a1)), (2, .int (J x4)), (3, .int (J x7)), (4, .int (J x65))] → W p l e rm_X7_look s m args below meth c H locs 0 0 Qf (F0 m 99 ls [.int (J x86), .ref (rA o a0)]) := by
              intro x86 qx86_0 qx86_1 H locs hG ls hl
              have h := h x86 qx86_0 qx86_1
              refine j_puti hx hb hts hown hK hG (k := a0) (fun w h => List.mem_cons_of_mem _ (u_X7 w h)) tyX7 tyX7_ok nmX7 (ci := 6) rfl ka0 14 (by decide) (jz := 14) rfl w_fl_RX7_105 (hd := rfl) (hn := rfl) (hfit := rfl) (hdg := dX7_look_99) (fun M90 eM90 H locs hG => ?_)
              have h := h M90 eM90
              refine lv_aload_n hx hb dX7_look_102 rfl (lv_at hl 0 rfl) ?_
              refine lv_iload hx hb dX7_look_103 (lv_at hl 4 rfl) ?_
              refine j_puti hx hb hts hown hK hG (k := a0) (fun w h => List.mem_cons_of_mem _ (u_X7 w h)) tyX7 tyX7_ok nmX7 (ci := 6) rfl ka0 15 (by decide) (jz := 15) rfl w_fl_RX7_108 (hd := rfl) (hn := rfl) (hfit := rfl) (hdg := dX7_look_105) (fun M91 eM91 H locs hG => ?_)
              have h := h M91 eM91
              refine lv_aload_n hx hb dX7_look_108 rfl (lv_at hl 0 rfl) ?_
              refine lv_dup hx hb dX7_look_109 rfl ?_
              refine j_geti hx hb hts hown hK hG (k := a0) (fun w h => List.mem_cons_of_mem _ (u_X7 w h)) (ci := 6) rfl ka0 13 (by decide) (jz := 13) rfl w_fl_RX7_101 dX7_look_110 ?_
              refine lv_iconst (v := J 1) hx hb dX7_look_113 (by decide) ?_
              refine j_iadd hx hb dX7_look_114 ?_
              refine j_puti hx hb hts hown hK hG (k := a0) (fun w h => List.mem_cons_of_mem _ (u_X7 w h)) tyX7 tyX7_ok nmX7 (ci := 6) rfl ka0 13 (by decide) (jz := 13) rfl w_fl_RX7_101 (hd := rfl) (hn := rfl) (hfit := rfl) (hdg := dX7_look_115) (fun M92 eM92 H locs hG => ?_)
              have h := h M92 eM92
              exact jK80 M92 h H locs hG ls (lv_sub hl [0, 1, 2, 3] rfl)
            have h := hg
            obtain ⟨g89, h⟩ := h
            refine j_if_ne (tgt := 95) hx hb dX7_look_87 (by decide) g89 (fun c88 => ?_) (fun c88 => ?_)
            · have h := h.1 c88
              refine lv_aload_n hx hb dX7_look_95 rfl (lv_at hl 1 rfl) ?_
              refine j_geti hx hb hts hown hK hG (k := a0) (fun w h => List.mem_cons_of_mem _ (u_X7 w h)) (ci := 6) rfl ka0 14 (by decide) (jz := 14) rfl w_fl_RX7_105 dX7_look_96 ?_
              exact jK87 (M8 a0 14) (fun _ => rfl) (fun q => absurd q (by omega)) H locs hG ls (lv_sub hl [1, 2, 3, 4, 0] rfl)
            · have h := h.2 c88
              refine lv_iload hx hb dX7_look_90 (lv_at hl 0 rfl) ?_
              refine lv_goto (tgt := 99) hx hb dX7_look_92 (by decide) ?_
              exact jK87 x65 (fun q => absurd q (by omega)) (fun _ => rfl) H locs hG ls (lv_sub hl [1, 2, 3, 4, 0] rfl)
        refine j_if_le (tgt := 62) hx hb dX7_look_44 (by decide) g56 (fun c93 => ?_) (fun c93 => ?_)
        · have h := h.1 c93
          exact jK63 h H locs hG ls (lv_sub hl [0, 1, 2, 3] rfl)
        · have h := h.2 c93
          refine lv_aload_n hx hb dX7_look_47 rfl (lv_at hl 0 rfl) ?_
          refine j_getr hx hb hts hown hK hG (k := a0) (fun w h => List.mem_cons_of_mem _ (u_X7 w h)) (ci := 6) rfl ka0 6 (k2 := a0 + 1) (by decide) (by show a0 + (1 : Int) = a0 + 1; omega) w_fl_RX7_9 dX7_look_48 ?_
          refine lv_iload_n hx hb dX7_look_51 rfl (lv_at hl 3 rfl) ?_
          refine lv_iconst (v := J 1) hx hb dX7_look_52 (by decide) ?_
          refine j_isub hx hb dX7_look_53 ?_
          obtain ⟨g94, h⟩ := h
          refine j_iald hx hb hK hG (n := 260) (kf_7_6 ka0) (by decide) g94 dX7_look_54 ?_
          refine lv_iload_n hx hb dX7_look_55 rfl (lv_at hl 2 rfl) ?_
          obtain ⟨g96, h⟩ := h
          obtain ⟨g97, h⟩ := h
          refine j_icmp_le (tgt := 62) hx hb dX7_look_56 (by decide) g96 g97 (fun c95 => ?_) (fun c95 => ?_)
          · have h := h.1 c95
            exact jK63 h H locs hG ls (lv_sub hl [0, 1, 2, 3] rfl)
          · have h := h.2 c95
            refine lv_goto (tgt := 124) hx hb dX7_look_59 (by decide) ?_
            exact jK54 h H locs hG ls (lv_sub hl [] rfl)
  exact lI9 n10s z5 M3 iI9 H locs hG ls (lv_sub hl [2, 3, 1, 0] rfl)

abbrev rom_X10_instants : Room := { frames := 4, cells := 0, slots := 0, locals := 99 }
set_option maxRecDepth 100000 in
set_option maxHeartbeats 4000000 in
theorem Ao_X10_instants (l : Launch) {D : va_G} {cy : Nat → ClassId} {o : Nat} {sK sV : Nat → Nat} {M : jT} {a0 : Int} {a1 : Int} {a2 : Int} (ka0 : kd a0 = 10) {Q : Int → jT → Prop} (h : wo_X10_instants M a0 a1 a2 Q) : CoI l yX10_instants (wj yX10_instants cX10_instants 4 (some .int)) rom_X10_instants D cy o sK sV M [.ref (rA o a0), .int (J a1), .int (J a2)] Q := by
  refine j_ofW (cc := cX10_instants) (maxL := 4) (ret := (some .int)) (by decide) rfl (Nat.le_of_ble_eq_true rfl) ?_
  intro p e s m args below meth c hx hb hr hlocks hml hown hts hK hSX H locs hG ls hl Qf hQf
  have hown : s.vm.findClass RX10 = some m.cls := hown
  have hl : lv_has ls 4 [(0, .ref (rA o a0)), (1, .int (J a1)), (2, .int (J a2))] := hl
  have w_fl_RX10_240 := hts _ (List.mem_cons_of_mem _ fl_RX10_240)
  unfold wo_X10_instants at h
  refine lv_aload_n hx hb dX10_instants_0 rfl (lv_at hl 0 rfl) ?_
  refine lv_iload_n hx hb dX10_instants_1 rfl (lv_at hl 1 rfl) ?_
  refine j_contv (va_runV (As := [.int (J a1)]) (rest := []) ⟨hx, hb, hml, hown, hts⟩ (Ao_X10_needZone l ka0 h) (cwV 1 hts (gj_V ml_RX10_137 i_X10_needZone s_X10_needZone n_RX10 k_X10_needZone) rfl rfl rfl (by decide +kernel) ⟨by exact Nat.le_of_ble_eq_true rfl, by exact Nat.le_of_ble_eq_true rfl⟩) (j_preV hK hSX hG (ci := 9) rfl ka0 (by decide)) rfl rfl hl.1 rfl (lv_room (Nat.le_of_ble_eq_true rfl)) dX10_instants_2 ⟨by exact Nat.le_of_ble_eq_true rfl, by exact Nat.le_of_ble_eq_true rfl⟩) hG (c2 := 0) (s2 := 0) ⟨by exact Nat.le_of_ble_eq_true rfl, by exact Nat.le_of_ble_eq_true rfl⟩ (fun M2 h H locs hG => ?_)
  obtain ⟨h, eM2⟩ := h
  rw [eM2] at hG
  refine lv_iload_n hx hb dX10_instants_5 rfl (lv_at hl 2 rfl) ?_
  obtain ⟨g3, h⟩ := h
  refine j_conti (va_runS (As := [.int (J a2)]) (rest := []) ⟨hx, hb, hml, hown, hts⟩ (A_X10_isLocal l g3) (va_cwS 1 hts (gj_S ml_RX10_234 i_X10_isLocal n_RX10 k_X10_isLocal) rfl rfl rfl (by decide +kernel) ⟨by exact Nat.le_of_ble_eq_true rfl, by exact Nat.le_of_ble_eq_true rfl⟩) (j_preS hK hSX hG) rfl rfl hl.1 rfl (lv_room (Nat.le_of_ble_eq_true rfl)) dX10_instants_6 ⟨by exact Nat.le_of_ble_eq_true rfl, by exact Nat.le_of_ble_eq_true rfl⟩) hG (c2 := 0) (s2 := 0) ⟨by exact Nat.le_of_ble_eq_true rfl, by exact Nat.le_of_ble_eq_true rfl⟩ (fun z4 M5 ez4 H locs hG => ?_)
  obtain ⟨ez4, eM5⟩ := ez4
  subst ez4
  rw [eM5] at hG
  refine j_contv (va_runS (As := [.int (J (b2i (pb_X10_isLocal a2)))]) (rest := []) ⟨hx, hb, hml, hown, hts⟩ (Ao_X10_needArgument l h) (va_cwS 1 hts (gj_S ml_RX10_72 i_X10_needArgument n_RX10 k_X10_needArgument) rfl rfl rfl (by decide +kernel) ⟨by exact Nat.le_of_ble_eq_true rfl, by exact Nat.le_of_ble_eq_true rfl⟩) (j_preS hK hSX hG) rfl rfl hl.1 rfl (lv_room (Nat.le_of_ble_eq_true rfl)) dX10_instants_9 ⟨by exact Nat.le_of_ble_eq_true rfl, by exact Nat.le_of_ble_eq_true rfl⟩) hG (c2 := 0) (s2 := 0) ⟨by exact Nat.le_of_ble_eq_true rfl, by exact Nat.le_of_ble_eq_true rfl⟩ (fun M7 h H locs hG => ?_)
  obtain ⟨h, eM7⟩ := h
  rw [eM7] at hG
  refine lv_aload_n hx hb dX10_instants_12 rfl (lv_at hl 0 rfl) ?_
  refine lv_iload_n hx hb dX10_instants_13 rfl (lv_at hl 1 rfl) ?_
  refine j_contr (va_runV (As := [.int (J a1)]) (rest := []) ⟨hx, hb, hml, hown, hts⟩ (A_X10_compiled l ka0 h) (cwV 1 hts (gj_V ml_RX10_144 i_X10_compiled s_X10_compiled n_RX10 k_X10_compiled) rfl rfl rfl (by decide +kernel) ⟨by exact Nat.le_of_ble_eq_true rfl, by exact Nat.le_of_ble_eq_true rfl⟩) (j_preV hK hSX hG (ci := 9) rfl ka0 (by decide)) rfl rfl hl.1 rfl (lv_room (Nat.le_of_ble_eq_true rfl)) dX10_instants_14 ⟨by exact Nat.le_of_ble_eq_true rfl, by exact Nat.le_of_ble_eq_true rfl⟩) hG (c2 := 0) (s2 := 0) ⟨by exact Nat.le_of_ble_eq_true rfl, by exact Nat.le_of_ble_eq_true rfl⟩ (fun k8 M9 h hk8 H locs hG => ?_)
  refine lv_astore_n (lv' := [(3, .ref (rA o k8)), (0, .ref (rA o a0)), (1, .int (J a1)), (2, .int (J a2))]) hx hb dX10_instants_17 rfl hl (by decide) rfl (fun ls hl => ?_)
  refine lv_aload_n hx hb dX10_instants_18 rfl (lv_at hl 0 rfl) ?_
  refine lv_iload_n hx hb dX10_instants_19 rfl (lv_at hl 3 rfl) ?_
  refine j_contv (va_runV (As := [.int (J a2)]) (rest := []) ⟨hx, hb, hml, hown, hts⟩ (A_X7_look l hk8 h) (cwV 1 hts (gj_V ml_RX10_237 i_X7_look s_X7_look n_RX7 k_X7_look) rfl rfl rfl (by decide +kernel) ⟨by exact Nat.le_of_ble_eq_true rfl, by exact Nat.le_of_ble_eq_true rfl⟩) (j_preV hK hSX hG (ci := 6) rfl hk8 (by decide)) rfl rfl hl.1 rfl (lv_room (Nat.le_of_ble_eq_true rfl)) dX10_instants_20 ⟨by exact Nat.le_of_ble_eq_true rfl, by exact Nat.le_of_ble_eq_true rfl⟩) hG (c2 := 0) (s2 := 0) ⟨by exact Nat.le_of_ble_eq_true rfl, by exact Nat.le_of_ble_eq_true rfl⟩ (fun M11 h H locs hG => ?_)
  refine lv_aload_n hx hb dX10_instants_23 rfl (lv_at hl 0 rfl) ?_
  refine j_geti hx hb hts hown hK hG (k := k8) (fun w h => List.mem_cons_of_mem _ (u_X7 w h)) (ci := 6) rfl hk8 13 (by decide) (jz := 13) rfl w_fl_RX10_240 dX10_instants_24 ?_
  rw [hQf]
  exact j_ireti hx hb hr hlocks hG h (by decide) dX10_instants_27
abbrev rm_X10_instants : Room := { frames := 8, cells := 1, slots := 6, locals := 131 }
set_option maxRecDepth 100000 in
set_option maxHeartbeats 4000000 in
theorem A_X10_instants (l : Launch) (hst : l.stackTraces = false) {D : va_G} {cy : Nat → ClassId} {o : Nat} {sK sV : Nat → Nat} {M : jT} {a0 : Int} {a1 : Int} {a2 : Int} (ka0 : kd a0 = 10) {Q : Int → jT → Prop} {X : Nat → jT → Prop} (h : wp_X10_instants M a0 a1 a2 Q X) : CxI l yX10_instants (wj yX10_instants cX10_instants 4 (some .int)) rm_X10_instants D cy o sK sV M [.ref (rA o a0), .int (J a1), .int (J a2)] Q X := by
  refine j_ofWx (cc := cX10_instants) (maxL := 4) (ret := (some .int)) (by decide) rfl (Nat.le_of_ble_eq_true rfl) ?_
  intro p e s m args below meth c hx hb hr hlocks hout hml hown hts hK hSX H locs hsz hG ls hl Qf hQf
  have hown : s.vm.findClass RX10 = some m.cls := hown
  have hl : lv_has ls 4 [(0, .ref (rA o a0)), (1, .int (J a1)), (2, .int (J a2))] := hl
  have w_fl_RX10_240 := hts _ (List.mem_cons_of_mem _ fl_RX10_240)
  unfold wp_X10_instants at h
  refine lv_aload_n hx hb dX10_instants_0 rfl (lv_at hl 0 rfl) ?_
  refine lv_iload_n hx hb dX10_instants_1 rfl (lv_at hl 1 rfl) ?_
  rcases h with h | h
  · refine j_contv (va_runV (As := [.int (J a1)]) (rest := []) ⟨hx, hb, hml, hown, hts⟩ (Ao_X10_needZone l ka0 h) (cwV 1 hts (gj_V ml_RX10_137 i_X10_needZone s_X10_needZone n_RX10 k_X10_needZone) rfl rfl rfl (by decide +kernel) ⟨by exact Nat.le_of_ble_eq_true rfl, by exact Nat.le_of_ble_eq_true rfl⟩) (j_preV hK hSX hG (ci := 9) rfl ka0 (by decide)) rfl rfl hl.1 rfl (lv_room (Nat.le_of_ble_eq_true rfl)) dX10_instants_2 ⟨by exact Nat.le_of_ble_eq_true rfl, by exact Nat.le_of_ble_eq_true rfl⟩) hG (c2 := 0) (s2 := 0) ⟨by exact Nat.le_of_ble_eq_true rfl, by exact Nat.le_of_ble_eq_true rfl⟩ (fun M2 h H locs hG => ?_)
    obtain ⟨h, eM2⟩ := h
    rw [eM2] at hG
    refine lv_iload_n hx hb dX10_instants_5 rfl (lv_at hl 2 rfl) ?_
    obtain ⟨g3, h⟩ := h
    refine j_conti (va_runS (As := [.int (J a2)]) (rest := []) ⟨hx, hb, hml, hown, hts⟩ (A_X10_isLocal l g3) (va_cwS 1 hts (gj_S ml_RX10_234 i_X10_isLocal n_RX10 k_X10_isLocal) rfl rfl rfl (by decide +kernel) ⟨by exact Nat.le_of_ble_eq_true rfl, by exact Nat.le_of_ble_eq_true rfl⟩) (j_preS hK hSX hG) rfl rfl hl.1 rfl (lv_room (Nat.le_of_ble_eq_true rfl)) dX10_instants_6 ⟨by exact Nat.le_of_ble_eq_true rfl, by exact Nat.le_of_ble_eq_true rfl⟩) hG (c2 := 0) (s2 := 0) ⟨by exact Nat.le_of_ble_eq_true rfl, by exact Nat.le_of_ble_eq_true rfl⟩ (fun z4 M5 ez4 H locs hG => ?_)
    obtain ⟨ez4, eM5⟩ := ez4
    subst ez4
    rw [eM5] at hG
    rcases h with h | h
    · refine j_contv (va_runS (As := [.int (J (b2i (pb_X10_isLocal a2)))]) (rest := []) ⟨hx, hb, hml, hown, hts⟩ (Ao_X10_needArgument l h) (va_cwS 1 hts (gj_S ml_RX10_72 i_X10_needArgument n_RX10 k_X10_needArgument) rfl rfl rfl (by decide +kernel) ⟨by exact Nat.le_of_ble_eq_true rfl, by exact Nat.le_of_ble_eq_true rfl⟩) (j_preS hK hSX hG) rfl rfl hl.1 rfl (lv_room (Nat.le_of_ble_eq_true rfl)) dX10_instants_9 ⟨by exact Nat.le_of_ble_eq_true rfl, by exact Nat.le_of_ble_eq_true rfl⟩) hG (c2 := 0) (s2 := 0) ⟨by exact Nat.le_of_ble_eq_true rfl, by exact Nat.le_of_ble_eq_true rfl⟩ (fun M7 h H locs hG => ?_)
      obtain ⟨h, eM7⟩ := h
      rw [eM7] at hG
      refine lv_aload_n hx hb dX10_instants_12 rfl (lv_at hl 0 rfl) ?_
      refine lv_iload_n hx hb dX10_instants_13 rfl (lv_at hl 1 rfl) ?_
      refine j_contr (va_runV (As := [.int (J a1)]) (rest := []) ⟨hx, hb, hml, hown, hts⟩ (A_X10_compiled l ka0 h) (cwV 1 hts (gj_V ml_RX10_144 i_X10_compiled s_X10_compiled n_RX10 k_X10_compiled) rfl rfl rfl (by decide +kernel) ⟨by exact Nat.le_of_ble_eq_true rfl, by exact Nat.le_of_ble_eq_true rfl⟩) (j_preV hK hSX hG (ci := 9) rfl ka0 (by decide)) rfl rfl hl.1 rfl (lv_room (Nat.le_of_ble_eq_true rfl)) dX10_instants_14 ⟨by exact Nat.le_of_ble_eq_true rfl, by exact Nat.le_of_ble_eq_true rfl⟩) hG (c2 := 0) (s2 := 0) ⟨by exact Nat.le_of_ble_eq_true rfl, by exact Nat.le_of_ble_eq_true rfl⟩ (fun k8 M9 h hk8 H locs hG => ?_)
      refine lv_astore_n (lv' := [(3, .ref (rA o k8)), (0, .ref (rA o a0)), (1, .int (J a1)), (2, .int (J a2))]) hx hb dX10_instants_17 rfl hl (by decide) rfl (fun ls hl => ?_)
      refine lv_aload_n hx hb dX10_instants_18 rfl (lv_at hl 0 rfl) ?_
      refine lv_iload_n hx hb dX10_instants_19 rfl (lv_at hl 3 rfl) ?_
      refine j_contv (va_runV (As := [.int (J a2)]) (rest := []) ⟨hx, hb, hml, hown, hts⟩ (A_X7_look l hk8 h) (cwV 1 hts (gj_V ml_RX10_237 i_X7_look s_X7_look n_RX7 k_X7_look) rfl rfl rfl (by decide +kernel) ⟨by exact Nat.le_of_ble_eq_true rfl, by exact Nat.le_of_ble_eq_true rfl⟩) (j_preV hK hSX hG (ci := 6) rfl hk8 (by decide)) rfl rfl hl.1 rfl (lv_room (Nat.le_of_ble_eq_true rfl)) dX10_instants_20 ⟨by exact Nat.le_of_ble_eq_true rfl, by exact Nat.le_of_ble_eq_true rfl⟩) hG (c2 := 0) (s2 := 0) ⟨by exact Nat.le_of_ble_eq_true rfl, by exact Nat.le_of_ble_eq_true rfl⟩ (fun M11 h H locs hG => ?_)
      refine lv_aload_n hx hb dX10_instants_23 rfl (lv_at hl 0 rfl) ?_
      refine j_geti hx hb hts hown hK hG (k := k8) (fun w h => List.mem_cons_of_mem _ (u_X7 w h)) (ci := 6) rfl hk8 13 (by decide) (jz := 13) rfl w_fl_RX10_240 dX10_instants_24 ?_
      rw [hQf]
      exact vx_ret (j_ireti hx hb hr hlocks hG h (by decide) dX10_instants_27)
    · refine j_contxv (vx_runS (As := [.int (J (b2i (pb_X10_isLocal a2)))]) (rest := []) ⟨hx, hb, hml, hown, hts⟩ (A_X10_needArgument l hst h) (va_cwS 1 hts (gj_S ml_RX10_72 i_X10_needArgument n_RX10 k_X10_needArgument) rfl rfl rfl (by decide +kernel) ⟨by exact Nat.le_of_ble_eq_true rfl, by exact Nat.le_of_ble_eq_true rfl⟩) (j_preS hK hSX hG) rfl rfl hl.1 rfl (lv_room (Nat.le_of_ble_eq_true rfl)) dX10_instants_9 ⟨by exact Nat.le_of_ble_eq_true rfl, by exact Nat.le_of_ble_eq_true rfl⟩) hG (c2 := 1) (s2 := 6) ⟨by exact Nat.le_of_ble_eq_true rfl, by exact Nat.le_of_ble_eq_true rfl⟩ (fun x M h ce q H locs hG h1 h2 h3 => ?_) (fun M h H locs hG => h.elim)
      rw [hQf]
      exact j_xout hlocks hout hG h h1 h2 h3 (by decide)
  · refine j_contxv (vx_runV (As := [.int (J a1)]) (rest := []) ⟨hx, hb, hml, hown, hts⟩ (A_X10_needZone l hst ka0 h) (cwV 1 hts (gj_V ml_RX10_137 i_X10_needZone s_X10_needZone n_RX10 k_X10_needZone) rfl rfl rfl (by decide +kernel) ⟨by exact Nat.le_of_ble_eq_true rfl, by exact Nat.le_of_ble_eq_true rfl⟩) (j_preV hK hSX hG (ci := 9) rfl ka0 (by decide)) rfl rfl hl.1 rfl (lv_room (Nat.le_of_ble_eq_true rfl)) dX10_instants_2 ⟨by exact Nat.le_of_ble_eq_true rfl, by exact Nat.le_of_ble_eq_true rfl⟩) hG (c2 := 1) (s2 := 6) ⟨by exact Nat.le_of_ble_eq_true rfl, by exact Nat.le_of_ble_eq_true rfl⟩ (fun x M h ce q H locs hG h1 h2 h3 => ?_) (fun M h H locs hG => h.elim)
    rw [hQf]
    exact j_xout hlocks hout hG h h1 h2 h3 (by decide)

abbrev rm_X10_addKey : Room := { frames := 0, cells := 0, slots := 0, locals := 0 }
set_option maxRecDepth 100000 in
set_option maxHeartbeats 4000000 in
theorem A_X10_addKey (l : Launch) {D : va_G} {cy : Nat → ClassId} {o : Nat} {sK sV : Nat → Nat} {M : jT} {a0 : Int} {a1 : Int} {a2 : Int} (ka0 : kd a0 = 100400) {Q : Int → jT → Prop} (h : wp_X10_addKey M a0 a1 a2 Q) : CoI l yX10_addKey (wj yX10_addKey cX10_addKey 5 (some .int)) rm_X10_addKey D cy o sK sV M [.ref (rA o a0), .int (J a1), .long (JL a2)] Q := by
  refine j_ofW (cc := cX10_addKey) (maxL := 5) (ret := (some .int)) (by decide) rfl (Nat.le_of_ble_eq_true rfl) ?_
  intro p e s m args below meth c hx hb hr hlocks hml hown hts hK hSX H locs hG ls hl Qf hQf
  have hown : s.vm.findClass RX10 = some m.cls := hown
  have hl : lv_has ls 5 [(0, .ref (rA o a0)), (1, .int (J a1)), (2, .long (JL a2))] := hl
  unfold wp_X10_addKey at h
  refine lv_iconst (v := J 0) hx hb dX10_addKey_0 (by decide) ?_
  refine lv_istore (lv' := [(4, .int (J 0)), (0, .ref (rA o a0)), (1, .int (J a1)), (2, .long (JL a2))]) hx hb dX10_addKey_1 hl (by decide) rfl (fun ls hl => ?_)
  obtain ⟨I2, ⟨n3s, iI2⟩, qI2⟩ := h
  have lI2 : ∀ (n3 : Nat) (x1 : Int), I2 n3 x1 → ∀ (H : Heap) (locs : List Loc), GM D cy o M s.heap H locs → ∀ ls : Array Slot, lv_has ls 5 [(0, .ref (rA o a0)), (1, .int (J a1)), (2, .long (JL a2)), (4, .int (J x1))] → W p l e rm_X10_addKey s m args below meth c H locs 0 0 Qf (F0 m 3 ls []) := by
    intro n3
    induction n3 using Nat.strongRecOn with
    | ind n3 rI2 =>
      intro x1 iI2 H locs hG ls hl
      have h := qI2 n3 x1 iI2
      refine lv_iload hx hb dX10_addKey_3 (lv_at hl 3 rfl) ?_
      refine lv_iload_n hx hb dX10_addKey_5 rfl (lv_at hl 1 rfl) ?_
      obtain ⟨g5, h⟩ := h
      obtain ⟨g6, h⟩ := h
      refine j_icmp_ge (tgt := 26) hx hb dX10_addKey_6 (by decide) g5 g6 (fun c4 => ?_) (fun c4 => ?_)
      · have h := h.1 c4
        refine lv_iload_n hx hb dX10_addKey_26 rfl (lv_at hl 1 rfl) ?_
        refine lv_aload_n hx hb dX10_addKey_27 rfl (lv_at hl 0 rfl) ?_
        refine j_alenz_l hx hb hK hG (n := 400) (nz := 400) rfl ka0 (by decide) dX10_addKey_28 ?_
        refine j_icmp_lt (tgt := 34) hx hb dX10_addKey_29 (by decide) g6 (by decide) (fun c7 => ?_) (fun c7 => ?_)
        · have h := h.1 c7
          refine lv_aload_n hx hb dX10_addKey_34 rfl (lv_at hl 0 rfl) ?_
          refine lv_iload_n hx hb dX10_addKey_35 rfl (lv_at hl 1 rfl) ?_
          refine lv_lload_n hx hb dX10_addKey_36 rfl (lv_at hl 2 rfl) ?_
          obtain ⟨g8, h⟩ := h
          refine j_last hx hb hK hG (n := 400) ka0 (by decide) g8 dX10_addKey_37 (fun M9 eM9 H locs hG => ?_)
          have h := h M9 eM9
          refine lv_iload_n hx hb dX10_addKey_38 rfl (lv_at hl 1 rfl) ?_
          refine lv_iconst (v := J 1) hx hb dX10_addKey_39 (by decide) ?_
          refine j_iadd hx hb dX10_addKey_40 ?_
          rw [hQf]
          exact j_ireti hx hb hr hlocks hG h (by decide) dX10_addKey_41
        · have h := h.2 c7
          refine lv_iload_n hx hb dX10_addKey_32 rfl (lv_at hl 1 rfl) ?_
          rw [hQf]
          exact j_ireti hx hb hr hlocks hG h (by decide) dX10_addKey_33
      · have h := h.2 c4
        refine lv_aload_n hx hb dX10_addKey_9 rfl (lv_at hl 0 rfl) ?_
        refine lv_iload hx hb dX10_addKey_10 (lv_at hl 3 rfl) ?_
        obtain ⟨g10, h⟩ := h
        refine j_lald hx hb hK hG (n := 400) ka0 (by decide) g10 dX10_addKey_12 ?_
        refine lv_lload_n hx hb dX10_addKey_13 rfl (lv_at hl 2 rfl) ?_
        obtain ⟨g12, h⟩ := h
        obtain ⟨g13, h⟩ := h
        refine j_lcmp_ne (tgt := 20) hx hb dX10_addKey_14 dX10_addKey_15 (by decide) g12 g13 (fun c11 => ?_) (fun c11 => ?_)
        · have h := h.1 c11
          refine j_iinc hx hb dX10_addKey_20 hl (k := 3) rfl (by decide) (fun x14 ex14 ls hl => ?_)
          have h := h x14 ex14
          have hl : lv_has ls 5 [(4, .int (J x14)), (0, .ref (rA o a0)), (1, .int (J a1)), (2, .long (JL a2))] := hl
          refine lv_goto (tgt := 3) hx hb dX10_addKey_23 (by decide) ?_
          obtain ⟨n15, ln15, iI2⟩ := h
          exact rI2 n15 ln15 x14 iI2 H locs hG ls (lv_sub hl [1, 2, 3, 0] rfl)
        · have h := h.2 c11
          refine lv_iload_n hx hb dX10_addKey_18 rfl (lv_at hl 1 rfl) ?_
          rw [hQf]
          exact j_ireti hx hb hr hlocks hG h (by decide) dX10_addKey_19
  exact lI2 n3s 0 iI2 H locs hG ls (lv_sub hl [1, 2, 3, 0] rfl)

abbrev rom_X10_instantsAgain : Room := { frames := 4, cells := 0, slots := 0, locals := 99 }
set_option maxRecDepth 100000 in
set_option maxHeartbeats 4000000 in
theorem Ao_X10_instantsAgain (l : Launch) {D : va_G} {cy : Nat → ClassId} {o : Nat} {sK sV : Nat → Nat} {M : jT} {a0 : Int} {a1 : Int} {a2 : Int} (ka0 : kd a0 = 10) {Q : Int → jT → Prop} (h : wo_X10_instantsAgain M a0 a1 a2 Q) : CoI l yX10_instantsAgain (wj yX10_instantsAgain cX10_instantsAgain 9 (some .int)) rom_X10_instantsAgain D cy o sK sV M [.ref (rA o a0), .int (J a1), .int (J a2)] Q := by
  refine j_ofW (cc := cX10_instantsAgain) (maxL := 9) (ret := (some .int)) (by decide) rfl (Nat.le_of_ble_eq_true rfl) ?_
  intro p e s m args below meth c hx hb hr hlocks hml hown hts hK hSX H locs hG ls hl Qf hQf
  have hown : s.vm.findClass RX10 = some m.cls := hown
  have hl : lv_has ls 9 [(0, .ref (rA o a0)), (1, .int (J a1)), (2, .int (J a2))] := hl
  have w_fl_RX10_160 := hts _ (List.mem_cons_of_mem _ fl_RX10_160)
  have w_fl_RX10_62 := hts _ (List.mem_cons_of_mem _ fl_RX10_62)
  unfold wo_X10_instantsAgain at h
  refine lv_aload_n hx hb dX10_instantsAgain_0 rfl (lv_at hl 0 rfl) ?_
  refine lv_iload_n hx hb dX10_instantsAgain_1 rfl (lv_at hl 1 rfl) ?_
  refine j_contv (va_runV (As := [.int (J a1)]) (rest := []) ⟨hx, hb, hml, hown, hts⟩ (Ao_X10_needZone l ka0 h) (cwV 1 hts (gj_V ml_RX10_137 i_X10_needZone s_X10_needZone n_RX10 k_X10_needZone) rfl rfl rfl (by decide +kernel) ⟨by exact Nat.le_of_ble_eq_true rfl, by exact Nat.le_of_ble_eq_true rfl⟩) (j_preV hK hSX hG (ci := 9) rfl ka0 (by decide)) rfl rfl hl.1 rfl (lv_room (Nat.le_of_ble_eq_true rfl)) dX10_instantsAgain_2 ⟨by exact Nat.le_of_ble_eq_true rfl, by exact Nat.le_of_ble_eq_true rfl⟩) hG (c2 := 0) (s2 := 0) ⟨by exact Nat.le_of_ble_eq_true rfl, by exact Nat.le_of_ble_eq_true rfl⟩ (fun M2 h H locs hG => ?_)
  obtain ⟨h, eM2⟩ := h
  rw [eM2] at hG
  refine lv_iload_n hx hb dX10_instantsAgain_5 rfl (lv_at hl 2 rfl) ?_
  obtain ⟨g3, h⟩ := h
  refine j_conti (va_runS (As := [.int (J a2)]) (rest := []) ⟨hx, hb, hml, hown, hts⟩ (A_X10_isLocal l g3) (va_cwS 1 hts (gj_S ml_RX10_234 i_X10_isLocal n_RX10 k_X10_isLocal) rfl rfl rfl (by decide +kernel) ⟨by exact Nat.le_of_ble_eq_true rfl, by exact Nat.le_of_ble_eq_true rfl⟩) (j_preS hK hSX hG) rfl rfl hl.1 rfl (lv_room (Nat.le_of_ble_eq_true rfl)) dX10_instantsAgain_6 ⟨by exact Nat.le_of_ble_eq_true rfl, by exact Nat.le_of_ble_eq_true rfl⟩) hG (c2 := 0) (s2 := 0) ⟨by exact Nat.le_of_ble_eq_true rfl, by exact Nat.le_of_ble_eq_true rfl⟩ (fun z4 M5 ez4 H locs hG => ?_)
  obtain ⟨ez4, eM5⟩ := ez4
  subst ez4
  rw [eM5] at hG
  refine j_contv (va_runS (As := [.int (J (b2i (pb_X10_isLocal a2)))]) (rest := []) ⟨hx, hb, hml, hown, hts⟩ (Ao_X10_needArgument l h) (va_cwS 1 hts (gj_S ml_RX10_72 i_X10_needArgument n_RX10 k_X10_needArgument) rfl rfl rfl (by decide +kernel) ⟨by exact Nat.le_of_ble_eq_true rfl, by exact Nat.le_of_ble_eq_true rfl⟩) (j_preS hK hSX hG) rfl rfl hl.1 rfl (lv_room (Nat.le_of_ble_eq_true rfl)) dX10_instantsAgain_9 ⟨by exact Nat.le_of_ble_eq_true rfl, by exact Nat.le_of_ble_eq_true rfl⟩) hG (c2 := 0) (s2 := 0) ⟨by exact Nat.le_of_ble_eq_true rfl, by exact Nat.le_of_ble_eq_true rfl⟩ (fun M7 h H locs hG => ?_)
  obtain ⟨h, eM7⟩ := h
  rw [eM7] at hG
  refine lv_aload_n hx hb dX10_instantsAgain_12 rfl (lv_at hl 0 rfl) ?_
  refine lv_iload_n hx hb dX10_instantsAgain_13 rfl (lv_at hl 1 rfl) ?_
  refine j_contr (va_runV (As := [.int (J a1)]) (rest := []) ⟨hx, hb, hml, hown, hts⟩ (A_X10_compiled l ka0 h) (cwV 1 hts (gj_V ml_RX10_144 i_X10_compiled s_X10_compiled n_RX10 k_X10_compiled) rfl rfl rfl (by decide +kernel) ⟨by exact Nat.le_of_ble_eq_true rfl, by exact Nat.le_of_ble_eq_true rfl⟩) (j_preV hK hSX hG (ci := 9) rfl ka0 (by decide)) rfl rfl hl.1 rfl (lv_room (Nat.le_of_ble_eq_true rfl)) dX10_instantsAgain_14 ⟨by exact Nat.le_of_ble_eq_true rfl, by exact Nat.le_of_ble_eq_true rfl⟩) hG (c2 := 0) (s2 := 0) ⟨by exact Nat.le_of_ble_eq_true rfl, by exact Nat.le_of_ble_eq_true rfl⟩ (fun k8 M9 h hk8 H locs hG => ?_)
  refine lv_astore_n (lv' := [(3, .ref (rA o k8)), (0, .ref (rA o a0)), (1, .int (J a1)), (2, .int (J a2))]) hx hb dX10_instantsAgain_17 rfl hl (by decide) rfl (fun ls hl => ?_)
  refine lv_iconst (v := J 0) hx hb dX10_instantsAgain_18 (by decide) ?_
  refine lv_istore (lv' := [(4, .int (J 0)), (3, .ref (rA o k8)), (0, .ref (rA o a0)), (1, .int (J a1)), (2, .int (J a2))]) hx hb dX10_instantsAgain_19 hl (by decide) rfl (fun ls hl => ?_)
  refine lv_iconst (v := J 0) hx hb dX10_instantsAgain_21 (by decide) ?_
  refine lv_istore (lv' := [(5, .int (J 0)), (4, .int (J 0)), (3, .ref (rA o k8)), (0, .ref (rA o a0)), (1, .int (J a1)), (2, .int (J a2))]) hx hb dX10_instantsAgain_22 hl (by decide) rfl (fun ls hl => ?_)
  refine lv_iconst (v := J 0) hx hb dX10_instantsAgain_24 (by decide) ?_
  refine lv_istore (lv' := [(6, .int (J 0)), (5, .int (J 0)), (4, .int (J 0)), (3, .ref (rA o k8)), (0, .ref (rA o a0)), (1, .int (J a1)), (2, .int (J a2))]) hx hb dX10_instantsAgain_25 hl (by decide) rfl (fun ls hl => ?_)
  obtain ⟨I14, ⟨n15s, iI14⟩, qI14⟩ := h
  have lI14 : ∀ (n15 : Nat) (x10 : Int) (x11 : Int) (x12 : Int) (M13 : jT), I14 n15 x10 x11 x12 M13 → ∀ (H : Heap) (locs : List Loc), GM D cy o M13 s.heap H locs → ∀ ls : Array Slot, lv_has ls 9 [(0, .ref (rA o a0)), (2, .int (J a2)), (3, .ref (rA o k8)), (4, .int (J x10)), (5, .int (J x11)), (6, .int (J x12))] → W p l e rom_X10_instantsAgain s m args below meth c H locs 0 0 Qf (F0 m 27 ls []) := by
    intro n15
    induction n15 using Nat.strongRecOn with
    | ind n15 rI14 =>
      intro x10 x11 x12 M13 iI14 H locs hG ls hl
      have h := qI14 n15 x10 x11 x12 M13 iI14
      refine lv_iload hx hb dX10_instantsAgain_27 (lv_at hl 5 rfl) ?_
      refine lv_aload_n hx hb dX10_instantsAgain_29 rfl (lv_at hl 2 rfl) ?_
      refine j_geti hx hb hts hown hK hG (k := k8) (fun w h => List.mem_cons_of_mem _ (u_X7 w h)) (ci := 6) rfl hk8 2 (by decide) (jz := 2) rfl w_fl_RX10_160 dX10_instantsAgain_30 ?_
      obtain ⟨g17, h⟩ := h
      obtain ⟨g18, h⟩ := h
      refine j_icmp_gt (tgt := 98) hx hb dX10_instantsAgain_33 (by decide) g17 g18 (fun c16 => ?_) (fun c16 => ?_)
      · have h := h.1 c16
        refine lv_iload hx hb dX10_instantsAgain_98 (lv_at hl 4 rfl) ?_
        rw [hQf]
        exact j_ireti hx hb hr hlocks hG h (by decide) dX10_instantsAgain_100
      · have h := h.2 c16
        refine lv_aload_n hx hb dX10_instantsAgain_36 rfl (lv_at hl 2 rfl) ?_
        refine lv_iload hx hb dX10_instantsAgain_37 (lv_at hl 5 rfl) ?_
        obtain ⟨g19, h⟩ := h
        refine j_conti (va_runV (As := [.int (J x12)]) (rest := []) ⟨hx, hb, hml, hown, hts⟩ (A_X7_offsetIn l hk8 g19) (cwV 1 hts (gj_V ml_RX10_169 i_X7_offsetIn s_X7_offsetIn n_RX7 k_X7_offsetIn) rfl rfl rfl (by decide +kernel) ⟨by exact Nat.le_of_ble_eq_true rfl, by exact Nat.le_of_ble_eq_true rfl⟩) (j_preV hK hSX hG (ci := 6) rfl hk8 (by decide)) rfl rfl hl.1 rfl (lv_room (Nat.le_of_ble_eq_true rfl)) dX10_instantsAgain_39 ⟨by exact Nat.le_of_ble_eq_true rfl, by exact Nat.le_of_ble_eq_true rfl⟩) hG (c2 := 0) (s2 := 0) ⟨by exact Nat.le_of_ble_eq_true rfl, by exact Nat.le_of_ble_eq_true rfl⟩ (fun z20 M21 ez20 H locs hG => ?_)
        obtain ⟨ez20, eM21⟩ := ez20
        subst ez20
        rw [eM21] at hG
        refine j_topi (fun x22 ex22 => ?_)
        have h := h x22 ex22
        refine lv_istore (lv' := [(7, .int (J x22)), (0, .ref (rA o a0)), (2, .int (J a2)), (3, .ref (rA o k8)), (4, .int (J x10)), (5, .int (J x11)), (6, .int (J x12))]) hx hb dX10_instantsAgain_42 hl (by decide) rfl (fun ls hl => ?_)
        refine lv_iload hx hb dX10_instantsAgain_44 (lv_at hl 4 rfl) ?_
        refine lv_istore (lv' := [(8, .int (J x10)), (7, .int (J x22)), (0, .ref (rA o a0)), (2, .int (J a2)), (3, .ref (rA o k8)), (4, .int (J x10)), (5, .int (J x11)), (6, .int (J x12))]) hx hb dX10_instantsAgain_46 hl (by decide) rfl (fun ls hl => ?_)
        refine lv_aload_n hx hb dX10_instantsAgain_48 rfl (lv_at hl 2 rfl) ?_
        refine j_getr hx hb hts hown hK hG (k := a0) (fun w h => List.mem_cons_of_mem _ (u_X10 w h)) (ci := 9) rfl ka0 8 (k2 := a0 + 607) (by decide) (by show a0 + (607 : Int) = a0 + 607; omega) w_fl_RX10_62 dX10_instantsAgain_49 ?_
        refine lv_iload hx hb dX10_instantsAgain_52 (lv_at hl 5 rfl) ?_
        refine lv_iload hx hb dX10_instantsAgain_54 (lv_at hl 1 rfl) ?_
        obtain ⟨g23, h⟩ := h
        refine j_i2l hx hb dX10_instantsAgain_56 g23 ?_
        refine j_conti (va_runS (As := [.ref (rA o (a0 + 607)), .int (J x10), .long (JL x22)]) (rest := []) ⟨hx, hb, hml, hown, hts⟩ (A_X10_addKey l (kf_10_8 ka0) h) (va_cwS 3 hts (gj_S ml_RX10_243 i_X10_addKey n_RX10 k_X10_addKey) rfl rfl rfl (by decide +kernel) ⟨by exact Nat.le_of_ble_eq_true rfl, by exact Nat.le_of_ble_eq_true rfl⟩) (j_preS hK hSX hG) rfl rfl hl.1 rfl (lv_room (Nat.le_of_ble_eq_true rfl)) dX10_instantsAgain_57 ⟨by exact Nat.le_of_ble_eq_true rfl, by exact Nat.le_of_ble_eq_true rfl⟩) hG (c2 := 0) (s2 := 0) ⟨by exact Nat.le_of_ble_eq_true rfl, by exact Nat.le_of_ble_eq_true rfl⟩ (fun z24 M25 h H locs hG => ?_)
        refine lv_istore (lv' := [(4, .int (J z24)), (8, .int (J x10)), (7, .int (J x22)), (0, .ref (rA o a0)), (2, .int (J a2)), (3, .ref (rA o k8)), (5, .int (J x11)), (6, .int (J x12))]) hx hb dX10_instantsAgain_60 hl (by decide) rfl (fun ls hl => ?_)
        refine lv_iload hx hb dX10_instantsAgain_62 (lv_at hl 6 rfl) ?_
        refine lv_iload hx hb dX10_instantsAgain_64 (lv_at hl 0 rfl) ?_
        refine lv_iload hx hb dX10_instantsAgain_66 (lv_at hl 1 rfl) ?_
        obtain ⟨K42, hK42, h⟩ := h
        have jK42 : ∀ (x41 : Int), K42 x41 → ∀ (H : Heap) (locs : List Loc), GM D cy o M25 s.heap H locs → ∀ ls : Array Slot, lv_has ls 9 [(0, .ref (rA o a0)), (2, .int (J a2)), (3, .ref (rA o k8)), (4, .int (J z24)), (6, .int (J x12))] → W p l e rom_X10_instantsAgain s m args below meth c H locs 0 0 Qf (F0 m 89 ls [.int (J x41), .int (J x11)]) := by
          intro x41 hcK42 H locs hG ls hl
          have h := hK42 x41 hcK42
          refine j_iadd hx hb dX10_instantsAgain_89 ?_
          refine j_topi (fun x43 ex43 => ?_)
          have h := h x43 ex43
          refine lv_istore (lv' := [(5, .int (J x43)), (0, .ref (rA o a0)), (2, .int (J a2)), (3, .ref (rA o k8)), (4, .int (J z24)), (6, .int (J x12))]) hx hb dX10_instantsAgain_90 hl (by decide) rfl (fun ls hl => ?_)
          refine j_iinc hx hb dX10_instantsAgain_92 hl (k := 5) rfl (by decide) (fun x44 ex44 ls hl => ?_)
          have h := h x44 ex44
          have hl : lv_has ls 9 [(6, .int (J x44)), (5, .int (J x43)), (0, .ref (rA o a0)), (2, .int (J a2)), (3, .ref (rA o k8)), (4, .int (J z24))] := hl
          refine lv_goto (tgt := 27) hx hb dX10_instantsAgain_95 (by decide) ?_
          obtain ⟨n45, ln45, iI14⟩ := h
          exact rI14 n45 ln45 z24 x43 x44 M25 iI14 H locs hG ls (lv_sub hl [2, 3, 4, 5, 1, 0] rfl)
        obtain ⟨K53, hK53, h⟩ := h
        have jK53 : K53 → ∀ (H : Heap) (locs : List Loc), GM D cy o M25 s.heap H locs → ∀ ls : Array Slot, lv_has ls 9 [(0, .ref (rA o a0)), (2, .int (J a2)), (3, .ref (rA o k8)), (4, .int (J z24)), (6, .int (J x12))] → W p l e rom_X10_instantsAgain s m args below meth c H locs 0 0 Qf (F0 m 88 ls [.int (J x11)]) := by
          intro hcK53 H locs hG ls hl
          have h := hK53 hcK53
          refine lv_iconst (v := J 0) hx hb dX10_instantsAgain_88 (by decide) ?_
          exact jK42 0 h H locs hG ls (lv_sub hl [0, 1, 2, 3, 4] rfl)
        obtain ⟨g55, h⟩ := h
        obtain ⟨g56, h⟩ := h
        refine j_icmp_le (tgt := 88) hx hb dX10_instantsAgain_68 (by decide) g55 g56 (fun c54 => ?_) (fun c54 => ?_)
        · have h := h.1 c54
          exact jK53 h H locs hG ls (lv_sub hl [3, 4, 5, 0, 7] rfl)
        · have h := h.2 c54
          refine lv_aload_n hx hb dX10_instantsAgain_71 rfl (lv_at hl 5 rfl) ?_
          refine lv_iload_n hx hb dX10_instantsAgain_72 rfl (lv_at hl 4 rfl) ?_
          refine lv_iload hx hb dX10_instantsAgain_73 (lv_at hl 2 rfl) ?_
          refine j_isub hx hb dX10_instantsAgain_75 ?_
          refine j_conti (va_runV (As := [.int (J (a2 - x22))]) (rest := [.int (J x11)]) ⟨hx, hb, hml, hown, hts⟩ (A_X7_offsetAt l hk8 h) (cwV 1 hts (gj_V ml_RX10_209 i_X7_offsetAt s_X7_offsetAt n_RX7 k_X7_offsetAt) rfl rfl rfl (by decide +kernel) ⟨by exact Nat.le_of_ble_eq_true rfl, by exact Nat.le_of_ble_eq_true rfl⟩) (j_preV hK hSX hG (ci := 6) rfl hk8 (by decide)) rfl rfl hl.1 rfl (lv_room (Nat.le_of_ble_eq_true rfl)) dX10_instantsAgain_76 ⟨by exact Nat.le_of_ble_eq_true rfl, by exact Nat.le_of_ble_eq_true rfl⟩) hG (c2 := 0) (s2 := 0) ⟨by exact Nat.le_of_ble_eq_true rfl, by exact Nat.le_of_ble_eq_true rfl⟩ (fun z57 M58 h H locs hG => ?_)
          obtain ⟨h, eM58⟩ := h
          rw [eM58] at hG
          refine lv_iload hx hb dX10_instantsAgain_79 (lv_at hl 2 rfl) ?_
          obtain ⟨g60, h⟩ := h
          refine j_icmp_ne (tgt := 88) hx hb dX10_instantsAgain_81 (by decide) g60 g23 (fun c59 => ?_) (fun c59 => ?_)
          · have h := h.1 c59
            exact jK53 h H locs hG ls (lv_sub hl [3, 4, 5, 0, 7] rfl)
          · have h := h.2 c59
            refine lv_iconst (v := J 1) hx hb dX10_instantsAgain_84 (by decide) ?_
            refine lv_goto (tgt := 89) hx hb dX10_instantsAgain_85 (by decide) ?_
            exact jK42 1 h H locs hG ls (lv_sub hl [3, 4, 5, 0, 7] rfl)
  exact lI14 n15s 0 0 0 M9 iI14 H locs hG ls (lv_sub hl [4, 6, 3, 2, 1, 0] rfl)
abbrev rm_X10_instantsAgain : Room := { frames := 8, cells := 1, slots := 6, locals := 131 }
set_option maxRecDepth 100000 in
set_option maxHeartbeats 4000000 in
theorem A_X10_instantsAgain (l : Launch) (hst : l.stackTraces = false) {D : va_G} {cy : Nat → ClassId} {o : Nat} {sK sV : Nat → Nat} {M : jT} {a0 : Int} {a1 : Int} {a2 : Int} (ka0 : kd a0 = 10) {Q : Int → jT → Prop} {X : Nat → jT → Prop} (h : wp_X10_instantsAgain M a0 a1 a2 Q X) : CxI l yX10_instantsAgain (wj yX10_instantsAgain cX10_instantsAgain 9 (some .int)) rm_X10_instantsAgain D cy o sK sV M [.ref (rA o a0), .int (J a1), .int (J a2)] Q X := by
  refine j_ofWx (cc := cX10_instantsAgain) (maxL := 9) (ret := (some .int)) (by decide) rfl (Nat.le_of_ble_eq_true rfl) ?_
  intro p e s m args below meth c hx hb hr hlocks hout hml hown hts hK hSX H locs hsz hG ls hl Qf hQf
  have hown : s.vm.findClass RX10 = some m.cls := hown
  have hl : lv_has ls 9 [(0, .ref (rA o a0)), (1, .int (J a1)), (2, .int (J a2))] := hl
  have w_fl_RX10_160 := hts _ (List.mem_cons_of_mem _ fl_RX10_160)
  have w_fl_RX10_62 := hts _ (List.mem_cons_of_mem _ fl_RX10_62)
  unfold wp_X10_instantsAgain at h
  refine lv_aload_n hx hb dX10_instantsAgain_0 rfl (lv_at hl 0 rfl) ?_
  refine lv_iload_n hx hb dX10_instantsAgain_1 rfl (lv_at hl 1 rfl) ?_
  rcases h with h | h
  · refine j_contv (va_runV (As := [.int (J a1)]) (rest := []) ⟨hx, hb, hml, hown, hts⟩ (Ao_X10_needZone l ka0 h) (cwV 1 hts (gj_V ml_RX10_137 i_X10_needZone s_X10_needZone n_RX10 k_X10_needZone) rfl rfl rfl (by decide +kernel) ⟨by exact Nat.le_of_ble_eq_true rfl, by exact Nat.le_of_ble_eq_true rfl⟩) (j_preV hK hSX hG (ci := 9) rfl ka0 (by decide)) rfl rfl hl.1 rfl (lv_room (Nat.le_of_ble_eq_true rfl)) dX10_instantsAgain_2 ⟨by exact Nat.le_of_ble_eq_true rfl, by exact Nat.le_of_ble_eq_true rfl⟩) hG (c2 := 0) (s2 := 0) ⟨by exact Nat.le_of_ble_eq_true rfl, by exact Nat.le_of_ble_eq_true rfl⟩ (fun M2 h H locs hG => ?_)
    obtain ⟨h, eM2⟩ := h
    rw [eM2] at hG
    refine lv_iload_n hx hb dX10_instantsAgain_5 rfl (lv_at hl 2 rfl) ?_
    obtain ⟨g3, h⟩ := h
    refine j_conti (va_runS (As := [.int (J a2)]) (rest := []) ⟨hx, hb, hml, hown, hts⟩ (A_X10_isLocal l g3) (va_cwS 1 hts (gj_S ml_RX10_234 i_X10_isLocal n_RX10 k_X10_isLocal) rfl rfl rfl (by decide +kernel) ⟨by exact Nat.le_of_ble_eq_true rfl, by exact Nat.le_of_ble_eq_true rfl⟩) (j_preS hK hSX hG) rfl rfl hl.1 rfl (lv_room (Nat.le_of_ble_eq_true rfl)) dX10_instantsAgain_6 ⟨by exact Nat.le_of_ble_eq_true rfl, by exact Nat.le_of_ble_eq_true rfl⟩) hG (c2 := 0) (s2 := 0) ⟨by exact Nat.le_of_ble_eq_true rfl, by exact Nat.le_of_ble_eq_true rfl⟩ (fun z4 M5 ez4 H locs hG => ?_)
    obtain ⟨ez4, eM5⟩ := ez4
    subst ez4
    rw [eM5] at hG
    rcases h with h | h
    · refine j_contv (va_runS (As := [.int (J (b2i (pb_X10_isLocal a2)))]) (rest := []) ⟨hx, hb, hml, hown, hts⟩ (Ao_X10_needArgument l h) (va_cwS 1 hts (gj_S ml_RX10_72 i_X10_needArgument n_RX10 k_X10_needArgument) rfl rfl rfl (by decide +kernel) ⟨by exact Nat.le_of_ble_eq_true rfl, by exact Nat.le_of_ble_eq_true rfl⟩) (j_preS hK hSX hG) rfl rfl hl.1 rfl (lv_room (Nat.le_of_ble_eq_true rfl)) dX10_instantsAgain_9 ⟨by exact Nat.le_of_ble_eq_true rfl, by exact Nat.le_of_ble_eq_true rfl⟩) hG (c2 := 0) (s2 := 0) ⟨by exact Nat.le_of_ble_eq_true rfl, by exact Nat.le_of_ble_eq_true rfl⟩ (fun M7 h H locs hG => ?_)
      obtain ⟨h, eM7⟩ := h
      rw [eM7] at hG
      refine lv_aload_n hx hb dX10_instantsAgain_12 rfl (lv_at hl 0 rfl) ?_
      refine lv_iload_n hx hb dX10_instantsAgain_13 rfl (lv_at hl 1 rfl) ?_
      refine j_contr (va_runV (As := [.int (J a1)]) (rest := []) ⟨hx, hb, hml, hown, hts⟩ (A_X10_compiled l ka0 h) (cwV 1 hts (gj_V ml_RX10_144 i_X10_compiled s_X10_compiled n_RX10 k_X10_compiled) rfl rfl rfl (by decide +kernel) ⟨by exact Nat.le_of_ble_eq_true rfl, by exact Nat.le_of_ble_eq_true rfl⟩) (j_preV hK hSX hG (ci := 9) rfl ka0 (by decide)) rfl rfl hl.1 rfl (lv_room (Nat.le_of_ble_eq_true rfl)) dX10_instantsAgain_14 ⟨by exact Nat.le_of_ble_eq_true rfl, by exact Nat.le_of_ble_eq_true rfl⟩) hG (c2 := 0) (s2 := 0) ⟨by exact Nat.le_of_ble_eq_true rfl, by exact Nat.le_of_ble_eq_true rfl⟩ (fun k8 M9 h hk8 H locs hG => ?_)
      refine lv_astore_n (lv' := [(3, .ref (rA o k8)), (0, .ref (rA o a0)), (1, .int (J a1)), (2, .int (J a2))]) hx hb dX10_instantsAgain_17 rfl hl (by decide) rfl (fun ls hl => ?_)
      refine lv_iconst (v := J 0) hx hb dX10_instantsAgain_18 (by decide) ?_
      refine lv_istore (lv' := [(4, .int (J 0)), (3, .ref (rA o k8)), (0, .ref (rA o a0)), (1, .int (J a1)), (2, .int (J a2))]) hx hb dX10_instantsAgain_19 hl (by decide) rfl (fun ls hl => ?_)
      refine lv_iconst (v := J 0) hx hb dX10_instantsAgain_21 (by decide) ?_
      refine lv_istore (lv' := [(5, .int (J 0)), (4, .int (J 0)), (3, .ref (rA o k8)), (0, .ref (rA o a0)), (1, .int (J a1)), (2, .int (J a2))]) hx hb dX10_instantsAgain_22 hl (by decide) rfl (fun ls hl => ?_)
      refine lv_iconst (v := J 0) hx hb dX10_instantsAgain_24 (by decide) ?_
      refine lv_istore (lv' := [(6, .int (J 0)), (5, .int (J 0)), (4, .int (J 0)), (3, .ref (rA o k8)), (0, .ref (rA o a0)), (1, .int (J a1)), (2, .int (J a2))]) hx hb dX10_instantsAgain_25 hl (by decide) rfl (fun ls hl => ?_)
      obtain ⟨I14, ⟨n15s, iI14⟩, qI14⟩ := h
      have lI14 : ∀ (n15 : Nat) (x10 : Int) (x11 : Int) (x12 : Int) (M13 : jT), I14 n15 x10 x11 x12 M13 → ∀ (H : Heap) (locs : List Loc), GM D cy o M13 s.heap H locs → ∀ ls : Array Slot, lv_has ls 9 [(0, .ref (rA o a0)), (2, .int (J a2)), (3, .ref (rA o k8)), (4, .int (J x10)), (5, .int (J x11)), (6, .int (J x12))] → W p l e rm_X10_instantsAgain s m args below meth c H locs 0 0 Qf (F0 m 27 ls []) := by
        intro n15
        induction n15 using Nat.strongRecOn with
        | ind n15 rI14 =>
          intro x10 x11 x12 M13 iI14 H locs hG ls hl
          have h := qI14 n15 x10 x11 x12 M13 iI14
          refine lv_iload hx hb dX10_instantsAgain_27 (lv_at hl 5 rfl) ?_
          refine lv_aload_n hx hb dX10_instantsAgain_29 rfl (lv_at hl 2 rfl) ?_
          refine j_geti hx hb hts hown hK hG (k := k8) (fun w h => List.mem_cons_of_mem _ (u_X7 w h)) (ci := 6) rfl hk8 2 (by decide) (jz := 2) rfl w_fl_RX10_160 dX10_instantsAgain_30 ?_
          obtain ⟨g17, h⟩ := h
          obtain ⟨g18, h⟩ := h
          refine j_icmp_gt (tgt := 98) hx hb dX10_instantsAgain_33 (by decide) g17 g18 (fun c16 => ?_) (fun c16 => ?_)
          · have h := h.1 c16
            refine lv_iload hx hb dX10_instantsAgain_98 (lv_at hl 4 rfl) ?_
            rw [hQf]
            exact vx_ret (j_ireti hx hb hr hlocks hG h (by decide) dX10_instantsAgain_100)
          · have h := h.2 c16
            refine lv_aload_n hx hb dX10_instantsAgain_36 rfl (lv_at hl 2 rfl) ?_
            refine lv_iload hx hb dX10_instantsAgain_37 (lv_at hl 5 rfl) ?_
            obtain ⟨g19, h⟩ := h
            refine j_conti (va_runV (As := [.int (J x12)]) (rest := []) ⟨hx, hb, hml, hown, hts⟩ (A_X7_offsetIn l hk8 g19) (cwV 1 hts (gj_V ml_RX10_169 i_X7_offsetIn s_X7_offsetIn n_RX7 k_X7_offsetIn) rfl rfl rfl (by decide +kernel) ⟨by exact Nat.le_of_ble_eq_true rfl, by exact Nat.le_of_ble_eq_true rfl⟩) (j_preV hK hSX hG (ci := 6) rfl hk8 (by decide)) rfl rfl hl.1 rfl (lv_room (Nat.le_of_ble_eq_true rfl)) dX10_instantsAgain_39 ⟨by exact Nat.le_of_ble_eq_true rfl, by exact Nat.le_of_ble_eq_true rfl⟩) hG (c2 := 0) (s2 := 0) ⟨by exact Nat.le_of_ble_eq_true rfl, by exact Nat.le_of_ble_eq_true rfl⟩ (fun z20 M21 ez20 H locs hG => ?_)
            obtain ⟨ez20, eM21⟩ := ez20
            subst ez20
            rw [eM21] at hG
            refine j_topi (fun x22 ex22 => ?_)
            have h := h x22 ex22
            refine lv_istore (lv' := [(7, .int (J x22)), (0, .ref (rA o a0)), (2, .int (J a2)), (3, .ref (rA o k8)), (4, .int (J x10)), (5, .int (J x11)), (6, .int (J x12))]) hx hb dX10_instantsAgain_42 hl (by decide) rfl (fun ls hl => ?_)
            refine lv_iload hx hb dX10_instantsAgain_44 (lv_at hl 4 rfl) ?_
            refine lv_istore (lv' := [(8, .int (J x10)), (7, .int (J x22)), (0, .ref (rA o a0)), (2, .int (J a2)), (3, .ref (rA o k8)), (4, .int (J x10)), (5, .int (J x11)), (6, .int (J x12))]) hx hb dX10_instantsAgain_46 hl (by decide) rfl (fun ls hl => ?_)
            refine lv_aload_n hx hb dX10_instantsAgain_48 rfl (lv_at hl 2 rfl) ?_
            refine j_getr hx hb hts hown hK hG (k := a0) (fun w h => List.mem_cons_of_mem _ (u_X10 w h)) (ci := 9) rfl ka0 8 (k2 := a0 + 607) (by decide) (by show a0 + (607 : Int) = a0 + 607; omega) w_fl_RX10_62 dX10_instantsAgain_49 ?_
            refine lv_iload hx hb dX10_instantsAgain_52 (lv_at hl 5 rfl) ?_
            refine lv_iload hx hb dX10_instantsAgain_54 (lv_at hl 1 rfl) ?_
            obtain ⟨g23, h⟩ := h
            refine j_i2l hx hb dX10_instantsAgain_56 g23 ?_
            refine j_conti (va_runS (As := [.ref (rA o (a0 + 607)), .int (J x10), .long (JL x22)]) (rest := []) ⟨hx, hb, hml, hown, hts⟩ (A_X10_addKey l (kf_10_8 ka0) h) (va_cwS 3 hts (gj_S ml_RX10_243 i_X10_addKey n_RX10 k_X10_addKey) rfl rfl rfl (by decide +kernel) ⟨by exact Nat.le_of_ble_eq_true rfl, by exact Nat.le_of_ble_eq_true rfl⟩) (j_preS hK hSX hG) rfl rfl hl.1 rfl (lv_room (Nat.le_of_ble_eq_true rfl)) dX10_instantsAgain_57 ⟨by exact Nat.le_of_ble_eq_true rfl, by exact Nat.le_of_ble_eq_true rfl⟩) hG (c2 := 0) (s2 := 0) ⟨by exact Nat.le_of_ble_eq_true rfl, by exact Nat.le_of_ble_eq_true rfl⟩ (fun z24 M25 h H locs hG => ?_)
            refine lv_istore (lv' := [(4, .int (J z24)), (8, .int (J x10)), (7, .int (J x22)), (0, .ref (rA o a0)), (2, .int (J a2)), (3, .ref (rA o k8)), (5, .int (J x11)), (6, .int (J x12))]) hx hb dX10_instantsAgain_60 hl (by decide) rfl (fun ls hl => ?_)
            refine lv_iload hx hb dX10_instantsAgain_62 (lv_at hl 6 rfl) ?_
            refine lv_iload hx hb dX10_instantsAgain_64 (lv_at hl 0 rfl) ?_
            refine lv_iload hx hb dX10_instantsAgain_66 (lv_at hl 1 rfl) ?_
            obtain ⟨K42, hK42, h⟩ := h
            have jK42 : ∀ (x41 : Int), K42 x41 → ∀ (H : Heap) (locs : List Loc), GM D cy o M25 s.heap H locs → ∀ ls : Array Slot, lv_has ls 9 [(0, .ref (rA o a0)), (2, .int (J a2)), (3, .ref (rA o k8)), (4, .int (J z24)), (6, .int (J x12))] → W p l e rm_X10_instantsAgain s m args below meth c H locs 0 0 Qf (F0 m 89 ls [.int (J x41), .int (J x11)]) := by
              intro x41 hcK42 H locs hG ls hl
              have h := hK42 x41 hcK42
              refine j_iadd hx hb dX10_instantsAgain_89 ?_
              refine j_topi (fun x43 ex43 => ?_)
              have h := h x43 ex43
              refine lv_istore (lv' := [(5, .int (J x43)), (0, .ref (rA o a0)), (2, .int (J a2)), (3, .ref (rA o k8)), (4, .int (J z24)), (6, .int (J x12))]) hx hb dX10_instantsAgain_90 hl (by decide) rfl (fun ls hl => ?_)
              refine j_iinc hx hb dX10_instantsAgain_92 hl (k := 5) rfl (by decide) (fun x44 ex44 ls hl => ?_)
              have h := h x44 ex44
              have hl : lv_has ls 9 [(6, .int (J x44)), (5, .int (J x43)), (0, .ref (rA o a0)), (2, .int (J a2)), (3, .ref (rA o k8)), (4, .int (J z24))] := hl
              refine lv_goto (tgt := 27) hx hb dX10_instantsAgain_95 (by decide) ?_
              obtain ⟨n45, ln45, iI14⟩ := h
              exact rI14 n45 ln45 z24 x43 x44 M25 iI14 H locs hG ls (lv_sub hl [2, 3, 4, 5, 1, 0] rfl)
            obtain ⟨K53, hK53, h⟩ := h
            have jK53 : K53 → ∀ (H : Heap) (locs : List Loc), GM D cy o M25 s.heap H locs → ∀ ls : Array Slot, lv_has ls 9 [(0, .ref (rA o a0)), (2, .int (J a2)), (3, .ref (rA o k8)), (4, .int (J z24)), (6, .int (J x12))] → W p l e rm_X10_instantsAgain s m args below meth c H locs 0 0 Qf (F0 m 88 ls [.int (J x11)]) := by
              intro hcK53 H locs hG ls hl
              have h := hK53 hcK53
              refine lv_iconst (v := J 0) hx hb dX10_instantsAgain_88 (by decide) ?_
              exact jK42 0 h H locs hG ls (lv_sub hl [0, 1, 2, 3, 4] rfl)
            obtain ⟨g55, h⟩ := h
            obtain ⟨g56, h⟩ := h
            refine j_icmp_le (tgt := 88) hx hb dX10_instantsAgain_68 (by decide) g55 g56 (fun c54 => ?_) (fun c54 => ?_)
            · have h := h.1 c54
              exact jK53 h H locs hG ls (lv_sub hl [3, 4, 5, 0, 7] rfl)
            · have h := h.2 c54
              refine lv_aload_n hx hb dX10_instantsAgain_71 rfl (lv_at hl 5 rfl) ?_
              refine lv_iload_n hx hb dX10_instantsAgain_72 rfl (lv_at hl 4 rfl) ?_
              refine lv_iload hx hb dX10_instantsAgain_73 (lv_at hl 2 rfl) ?_
              refine j_isub hx hb dX10_instantsAgain_75 ?_
              refine j_conti (va_runV (As := [.int (J (a2 - x22))]) (rest := [.int (J x11)]) ⟨hx, hb, hml, hown, hts⟩ (A_X7_offsetAt l hk8 h) (cwV 1 hts (gj_V ml_RX10_209 i_X7_offsetAt s_X7_offsetAt n_RX7 k_X7_offsetAt) rfl rfl rfl (by decide +kernel) ⟨by exact Nat.le_of_ble_eq_true rfl, by exact Nat.le_of_ble_eq_true rfl⟩) (j_preV hK hSX hG (ci := 6) rfl hk8 (by decide)) rfl rfl hl.1 rfl (lv_room (Nat.le_of_ble_eq_true rfl)) dX10_instantsAgain_76 ⟨by exact Nat.le_of_ble_eq_true rfl, by exact Nat.le_of_ble_eq_true rfl⟩) hG (c2 := 0) (s2 := 0) ⟨by exact Nat.le_of_ble_eq_true rfl, by exact Nat.le_of_ble_eq_true rfl⟩ (fun z57 M58 h H locs hG => ?_)
              obtain ⟨h, eM58⟩ := h
              rw [eM58] at hG
              refine lv_iload hx hb dX10_instantsAgain_79 (lv_at hl 2 rfl) ?_
              obtain ⟨g60, h⟩ := h
              refine j_icmp_ne (tgt := 88) hx hb dX10_instantsAgain_81 (by decide) g60 g23 (fun c59 => ?_) (fun c59 => ?_)
              · have h := h.1 c59
                exact jK53 h H locs hG ls (lv_sub hl [3, 4, 5, 0, 7] rfl)
              · have h := h.2 c59
                refine lv_iconst (v := J 1) hx hb dX10_instantsAgain_84 (by decide) ?_
                refine lv_goto (tgt := 89) hx hb dX10_instantsAgain_85 (by decide) ?_
                exact jK42 1 h H locs hG ls (lv_sub hl [3, 4, 5, 0, 7] rfl)
      exact lI14 n15s 0 0 0 M9 iI14 H locs hG ls (lv_sub hl [4, 6, 3, 2, 1, 0] rfl)
    · refine j_contxv (vx_runS (As := [.int (J (b2i (pb_X10_isLocal a2)))]) (rest := []) ⟨hx, hb, hml, hown, hts⟩ (A_X10_needArgument l hst h) (va_cwS 1 hts (gj_S ml_RX10_72 i_X10_needArgument n_RX10 k_X10_needArgument) rfl rfl rfl (by decide +kernel) ⟨by exact Nat.le_of_ble_eq_true rfl, by exact Nat.le_of_ble_eq_true rfl⟩) (j_preS hK hSX hG) rfl rfl hl.1 rfl (lv_room (Nat.le_of_ble_eq_true rfl)) dX10_instantsAgain_9 ⟨by exact Nat.le_of_ble_eq_true rfl, by exact Nat.le_of_ble_eq_true rfl⟩) hG (c2 := 1) (s2 := 6) ⟨by exact Nat.le_of_ble_eq_true rfl, by exact Nat.le_of_ble_eq_true rfl⟩ (fun x M h ce q H locs hG h1 h2 h3 => ?_) (fun M h H locs hG => h.elim)
      rw [hQf]
      exact j_xout hlocks hout hG h h1 h2 h3 (by decide)
  · refine j_contxv (vx_runV (As := [.int (J a1)]) (rest := []) ⟨hx, hb, hml, hown, hts⟩ (A_X10_needZone l hst ka0 h) (cwV 1 hts (gj_V ml_RX10_137 i_X10_needZone s_X10_needZone n_RX10 k_X10_needZone) rfl rfl rfl (by decide +kernel) ⟨by exact Nat.le_of_ble_eq_true rfl, by exact Nat.le_of_ble_eq_true rfl⟩) (j_preV hK hSX hG (ci := 9) rfl ka0 (by decide)) rfl rfl hl.1 rfl (lv_room (Nat.le_of_ble_eq_true rfl)) dX10_instantsAgain_2 ⟨by exact Nat.le_of_ble_eq_true rfl, by exact Nat.le_of_ble_eq_true rfl⟩) hG (c2 := 1) (s2 := 6) ⟨by exact Nat.le_of_ble_eq_true rfl, by exact Nat.le_of_ble_eq_true rfl⟩ (fun x M h ce q H locs hG h1 h2 h3 => ?_) (fun M h H locs hG => h.elim)
    rw [hQf]
    exact j_xout hlocks hout hG h h1 h2 h3 (by decide)

abbrev rm_X7_gapOf : Room := { frames := 1, cells := 0, slots := 0, locals := 24 }
set_option maxRecDepth 100000 in
set_option maxHeartbeats 4000000 in
theorem A_X7_gapOf (l : Launch) {D : va_G} {cy : Nat → ClassId} {o : Nat} {sK sV : Nat → Nat} {M : jT} {a0 : Int} {a1 : Int} (ka0 : kd a0 = 7) {Q : Int → Prop} (h : wp_X7_gapOf M a0 a1 Q) : CoI l yX7_gapOf (wj yX7_gapOf cX7_gapOf 3 (some .int)) rm_X7_gapOf D cy o sK sV M [.ref (rA o a0), .int (J a1)] (fun z M9 => Q z ∧ M9 = M) := by
  refine j_ofW (cc := cX7_gapOf) (maxL := 3) (ret := (some .int)) (by decide) rfl (Nat.le_of_ble_eq_true rfl) ?_
  intro p e s m args below meth c hx hb hr hlocks hml hown hts hK hSX H locs hG ls hl Qf hQf
  have hown : s.vm.findClass RX7 = some m.cls := hown
  have hl : lv_has ls 3 [(0, .ref (rA o a0)), (1, .int (J a1))] := hl
  have w_fl_RX7_48 := hts _ (List.mem_cons_of_mem _ fl_RX7_48)
  have w_fl_RX7_37 := hts _ (List.mem_cons_of_mem _ fl_RX7_37)
  have w_fl_RX7_9 := hts _ (List.mem_cons_of_mem _ fl_RX7_9)
  have w_fl_RX7_30 := hts _ (List.mem_cons_of_mem _ fl_RX7_30)
  unfold wp_X7_gapOf at h
  refine lv_aload_n hx hb dX7_gapOf_0 rfl (lv_at hl 0 rfl) ?_
  refine lv_iload_n hx hb dX7_gapOf_1 rfl (lv_at hl 1 rfl) ?_
  refine lv_aload_n hx hb dX7_gapOf_2 rfl (lv_at hl 0 rfl) ?_
  refine j_geti hx hb hts hown hK hG (k := a0) (fun w h => List.mem_cons_of_mem _ (u_X7 w h)) (ci := 6) rfl ka0 4 (by decide) (jz := 4) rfl w_fl_RX7_48 dX7_gapOf_3 ?_
  refine j_isub hx hb dX7_gapOf_6 ?_
  refine j_conti (va_runV (As := [.int (J (a1 - (M a0 4)))]) (rest := []) ⟨hx, hb, hml, hown, hts⟩ (A_X7_spanAt l ka0 h) (cwV 1 hts (gj_V ml_RX7_97 i_X7_spanAt s_X7_spanAt n_RX7 k_X7_spanAt) rfl rfl rfl (by decide +kernel) ⟨by exact Nat.le_of_ble_eq_true rfl, by exact Nat.le_of_ble_eq_true rfl⟩) (j_preV hK hSX hG (ci := 6) rfl ka0 (by decide)) rfl rfl hl.1 rfl (lv_room (Nat.le_of_ble_eq_true rfl)) dX7_gapOf_7 ⟨by exact Nat.le_of_ble_eq_true rfl, by exact Nat.le_of_ble_eq_true rfl⟩) hG (c2 := 0) (s2 := 0) ⟨by exact Nat.le_of_ble_eq_true rfl, by exact Nat.le_of_ble_eq_true rfl⟩ (fun z1 M2 h H locs hG => ?_)
  obtain ⟨h, eM2⟩ := h
  rw [eM2] at hG
  refine lv_istore_n (lv' := [(2, .int (J z1)), (0, .ref (rA o a0)), (1, .int (J a1))]) hx hb dX7_gapOf_10 rfl hl (by decide) rfl (fun ls hl => ?_)
  obtain ⟨I4, ⟨n5s, iI4⟩, qI4⟩ := h
  have lI4 : ∀ (n5 : Nat) (x3 : Int), I4 n5 x3 → ∀ (H : Heap) (locs : List Loc), GM D cy o M s.heap H locs → ∀ ls : Array Slot, lv_has ls 3 [(0, .ref (rA o a0)), (1, .int (J a1)), (2, .int (J x3))] → W p l e rm_X7_gapOf s m args below meth c H locs 0 0 Qf (F0 m 11 ls []) := by
    intro n5
    induction n5 using Nat.strongRecOn with
    | ind n5 rI4 =>
      intro x3 iI4 H locs hG ls hl
      have h := qI4 n5 x3 iI4
      refine lv_iload_n hx hb dX7_gapOf_11 rfl (lv_at hl 2 rfl) ?_
      refine lv_aload_n hx hb dX7_gapOf_12 rfl (lv_at hl 0 rfl) ?_
      refine j_geti hx hb hts hown hK hG (k := a0) (fun w h => List.mem_cons_of_mem _ (u_X7 w h)) (ci := 6) rfl ka0 2 (by decide) (jz := 2) rfl w_fl_RX7_37 dX7_gapOf_13 ?_
      obtain ⟨g7, h⟩ := h
      obtain ⟨g8, h⟩ := h
      refine j_icmp_ge (tgt := 63) hx hb dX7_gapOf_16 (by decide) g7 g8 (fun c6 => ?_) (fun c6 => ?_)
      · have h := h.1 c6
        refine lv_iconst (v := J (-1)) hx hb dX7_gapOf_63 (by decide) ?_
        rw [hQf]
        exact j_ireti hx hb hr hlocks hG ⟨h, rfl⟩ (by decide) dX7_gapOf_64
      · have h := h.2 c6
        refine lv_aload_n hx hb dX7_gapOf_19 rfl (lv_at hl 0 rfl) ?_
        refine j_getr hx hb hts hown hK hG (k := a0) (fun w h => List.mem_cons_of_mem _ (u_X7 w h)) (ci := 6) rfl ka0 6 (k2 := a0 + 1) (by decide) (by show a0 + (1 : Int) = a0 + 1; omega) w_fl_RX7_9 dX7_gapOf_20 ?_
        refine lv_iload_n hx hb dX7_gapOf_23 rfl (lv_at hl 2 rfl) ?_
        obtain ⟨g9, h⟩ := h
        refine j_iald hx hb hK hG (n := 260) (kf_7_6 ka0) (by decide) g9 dX7_gapOf_24 ?_
        refine lv_aload_n hx hb dX7_gapOf_25 rfl (lv_at hl 0 rfl) ?_
        refine j_getr hx hb hts hown hK hG (k := a0) (fun w h => List.mem_cons_of_mem _ (u_X7 w h)) (ci := 6) rfl ka0 12 (k2 := a0 + 7) (by decide) (by show a0 + (7 : Int) = a0 + 7; omega) w_fl_RX7_30 dX7_gapOf_26 ?_
        refine lv_iload_n hx hb dX7_gapOf_29 rfl (lv_at hl 2 rfl) ?_
        obtain ⟨g10, h⟩ := h
        refine j_iald hx hb hK hG (n := 261) (kf_7_12 ka0) (by decide) g10 dX7_gapOf_30 ?_
        refine j_iadd hx hb dX7_gapOf_31 ?_
        refine lv_iload_n hx hb dX7_gapOf_32 rfl (lv_at hl 1 rfl) ?_
        obtain ⟨K17, hK17, h⟩ := h
        have jK17 : K17 → ∀ (H : Heap) (locs : List Loc), GM D cy o M s.heap H locs → ∀ ls : Array Slot, lv_has ls 3 [(0, .ref (rA o a0)), (1, .int (J a1)), (2, .int (J x3))] → W p l e rm_X7_gapOf s m args below meth c H locs 0 0 Qf (F0 m 57 ls []) := by
          intro hcK17 H locs hG ls hl
          have h := hK17 hcK17
          refine j_iinc hx hb dX7_gapOf_57 hl (k := 2) rfl (by decide) (fun x18 ex18 ls hl => ?_)
          have h := h x18 ex18
          have hl : lv_has ls 3 [(2, .int (J x18)), (0, .ref (rA o a0)), (1, .int (J a1))] := hl
          refine lv_goto (tgt := 11) hx hb dX7_gapOf_60 (by decide) ?_
          obtain ⟨n19, ln19, iI4⟩ := h
          exact rI4 n19 ln19 x18 iI4 H locs hG ls (lv_sub hl [1, 2, 0] rfl)
        obtain ⟨g21, h⟩ := h
        obtain ⟨g22, h⟩ := h
        refine j_icmp_gt (tgt := 57) hx hb dX7_gapOf_33 (by decide) g21 g22 (fun c20 => ?_) (fun c20 => ?_)
        · have h := h.1 c20
          exact jK17 h H locs hG ls (lv_sub hl [0, 1, 2] rfl)
        · have h := h.2 c20
          refine lv_aload_n hx hb dX7_gapOf_36 rfl (lv_at hl 0 rfl) ?_
          refine j_getr hx hb hts hown hK hG (k := a0) (fun w h => List.mem_cons_of_mem _ (u_X7 w h)) (ci := 6) rfl ka0 6 (k2 := a0 + 1) (by decide) (by show a0 + (1 : Int) = a0 + 1; omega) w_fl_RX7_9 dX7_gapOf_37 ?_
          refine lv_iload_n hx hb dX7_gapOf_40 rfl (lv_at hl 2 rfl) ?_
          refine j_iald hx hb hK hG (n := 260) (kf_7_6 ka0) (by decide) g9 dX7_gapOf_41 ?_
          refine lv_aload_n hx hb dX7_gapOf_42 rfl (lv_at hl 0 rfl) ?_
          refine j_getr hx hb hts hown hK hG (k := a0) (fun w h => List.mem_cons_of_mem _ (u_X7 w h)) (ci := 6) rfl ka0 12 (k2 := a0 + 7) (by decide) (by show a0 + (7 : Int) = a0 + 7; omega) w_fl_RX7_30 dX7_gapOf_43 ?_
          refine lv_iload_n hx hb dX7_gapOf_46 rfl (lv_at hl 2 rfl) ?_
          refine lv_iconst (v := J 1) hx hb dX7_gapOf_47 (by decide) ?_
          refine j_iadd hx hb dX7_gapOf_48 ?_
          obtain ⟨g23, h⟩ := h
          refine j_iald hx hb hK hG (n := 261) (kf_7_12 ka0) (by decide) g23 dX7_gapOf_49 ?_
          refine j_iadd hx hb dX7_gapOf_50 ?_
          refine lv_iload_n hx hb dX7_gapOf_51 rfl (lv_at hl 1 rfl) ?_
          obtain ⟨g25, h⟩ := h
          refine j_icmp_le (tgt := 57) hx hb dX7_gapOf_52 (by decide) g25 g22 (fun c24 => ?_) (fun c24 => ?_)
          · have h := h.1 c24
            exact jK17 h H locs hG ls (lv_sub hl [0, 1, 2] rfl)
          · have h := h.2 c24
            refine lv_iload_n hx hb dX7_gapOf_55 rfl (lv_at hl 2 rfl) ?_
            rw [hQf]
            exact j_ireti hx hb hr hlocks hG ⟨h, rfl⟩ (by decide) dX7_gapOf_56
  exact lI4 n5s z1 iI4 H locs hG ls (lv_sub hl [1, 2, 0] rfl)

abbrev rm_X7_causeOf : Room := { frames := 2, cells := 0, slots := 0, locals := 48 }
set_option maxRecDepth 100000 in
set_option maxHeartbeats 4000000 in
theorem A_X7_causeOf (l : Launch) {D : va_G} {cy : Nat → ClassId} {o : Nat} {sK sV : Nat → Nat} {M : jT} {a0 : Int} {a1 : Int} (ka0 : kd a0 = 7) {Q : Int → jT → Prop} (h : wp_X7_causeOf M a0 a1 Q) : CoI l yX7_causeOf (wj yX7_causeOf cX7_causeOf 2 (some .int)) rm_X7_causeOf D cy o sK sV M [.ref (rA o a0), .int (J a1)] Q := by
  refine j_ofW (cc := cX7_causeOf) (maxL := 2) (ret := (some .int)) (by decide) rfl (Nat.le_of_ble_eq_true rfl) ?_
  intro p e s m args below meth c hx hb hr hlocks hml hown hts hK hSX H locs hG ls hl Qf hQf
  have hown : s.vm.findClass RX7 = some m.cls := hown
  have hl : lv_has ls 2 [(0, .ref (rA o a0)), (1, .int (J a1))] := hl
  have w_fl_RX7_101 := hts _ (List.mem_cons_of_mem _ fl_RX7_101)
  have w_fl_RX7_105 := hts _ (List.mem_cons_of_mem _ fl_RX7_105)
  unfold wp_X7_causeOf at h
  refine lv_aload_n hx hb dX7_causeOf_0 rfl (lv_at hl 0 rfl) ?_
  refine lv_iload_n hx hb dX7_causeOf_1 rfl (lv_at hl 1 rfl) ?_
  refine j_contv (va_runV (As := [.int (J a1)]) (rest := []) ⟨hx, hb, hml, hown, hts⟩ (A_X7_look l ka0 h) (cwV 1 hts (gj_V ml_RX7_115 i_X7_look s_X7_look n_RX7 k_X7_look) rfl rfl rfl (by decide +kernel) ⟨by exact Nat.le_of_ble_eq_true rfl, by exact Nat.le_of_ble_eq_true rfl⟩) (j_preV hK hSX hG (ci := 6) rfl ka0 (by decide)) rfl rfl hl.1 rfl (lv_room (Nat.le_of_ble_eq_true rfl)) dX7_causeOf_2 ⟨by exact Nat.le_of_ble_eq_true rfl, by exact Nat.le_of_ble_eq_true rfl⟩) hG (c2 := 0) (s2 := 0) ⟨by exact Nat.le_of_ble_eq_true rfl, by exact Nat.le_of_ble_eq_true rfl⟩ (fun M2 h H locs hG => ?_)
  refine lv_aload_n hx hb dX7_causeOf_5 rfl (lv_at hl 0 rfl) ?_
  refine j_geti hx hb hts hown hK hG (k := a0) (fun w h => List.mem_cons_of_mem _ (u_X7 w h)) (ci := 6) rfl ka0 13 (by decide) (jz := 13) rfl w_fl_RX7_101 dX7_causeOf_6 ?_
  obtain ⟨g4, h⟩ := h
  refine j_if_ne (tgt := 18) hx hb dX7_causeOf_9 (by decide) g4 (fun c3 => ?_) (fun c3 => ?_)
  · have h := h.1 c3
    refine lv_aload_n hx hb dX7_causeOf_18 rfl (lv_at hl 0 rfl) ?_
    refine j_geti hx hb hts hown hK hG (k := a0) (fun w h => List.mem_cons_of_mem _ (u_X7 w h)) (ci := 6) rfl ka0 13 (by decide) (jz := 13) rfl w_fl_RX7_101 dX7_causeOf_19 ?_
    refine lv_iconst (v := J 1) hx hb dX7_causeOf_22 (by decide) ?_
    obtain ⟨K9, hK9, h⟩ := h
    have jK9 : ∀ (x8 : Int), K9 x8 → ∀ (H : Heap) (locs : List Loc), GM D cy o M2 s.heap H locs → ∀ ls : Array Slot, lv_has ls 2 [] → W p l e rm_X7_causeOf s m args below meth c H locs 0 0 Qf (F0 m 38 ls [.int (J x8)]) := by
      intro x8 hcK9 H locs hG ls hl
      have h := hK9 x8 hcK9
      rw [hQf]
      exact j_ireti hx hb hr hlocks hG h (by decide) dX7_causeOf_38
    refine j_icmp_ne (tgt := 30) hx hb dX7_causeOf_23 (by decide) g4 (by decide) (fun c10 => ?_) (fun c10 => ?_)
    · have h := h.1 c10
      refine lv_aload_n hx hb dX7_causeOf_30 rfl (lv_at hl 0 rfl) ?_
      refine lv_aload_n hx hb dX7_causeOf_31 rfl (lv_at hl 0 rfl) ?_
      refine j_geti hx hb hts hown hK hG (k := a0) (fun w h => List.mem_cons_of_mem _ (u_X7 w h)) (ci := 6) rfl ka0 14 (by decide) (jz := 14) rfl w_fl_RX7_105 dX7_causeOf_32 ?_
      refine j_conti (va_runV (As := [.int (J (M2 a0 14))]) (rest := []) ⟨hx, hb, hml, hown, hts⟩ (A_X7_spanAt l ka0 h) (cwV 1 hts (gj_V ml_RX7_97 i_X7_spanAt s_X7_spanAt n_RX7 k_X7_spanAt) rfl rfl rfl (by decide +kernel) ⟨by exact Nat.le_of_ble_eq_true rfl, by exact Nat.le_of_ble_eq_true rfl⟩) (j_preV hK hSX hG (ci := 6) rfl ka0 (by decide)) rfl rfl hl.1 rfl (lv_room (Nat.le_of_ble_eq_true rfl)) dX7_causeOf_35 ⟨by exact Nat.le_of_ble_eq_true rfl, by exact Nat.le_of_ble_eq_true rfl⟩) hG (c2 := 0) (s2 := 0) ⟨by exact Nat.le_of_ble_eq_true rfl, by exact Nat.le_of_ble_eq_true rfl⟩ (fun z11 M12 h H locs hG => ?_)
      obtain ⟨h, eM12⟩ := h
      rw [eM12] at hG
      exact jK9 z11 h H locs hG ls (lv_sub hl [] rfl)
    · have h := h.2 c10
      refine lv_iconst (v := J (-1)) hx hb dX7_causeOf_26 (by decide) ?_
      refine lv_goto (tgt := 38) hx hb dX7_causeOf_27 (by decide) ?_
      exact jK9 ((-1)) h H locs hG ls (lv_sub hl [] rfl)
  · have h := h.2 c3
    refine lv_aload_n hx hb dX7_causeOf_12 rfl (lv_at hl 0 rfl) ?_
    refine lv_iload_n hx hb dX7_causeOf_13 rfl (lv_at hl 1 rfl) ?_
    refine j_conti (va_runV (As := [.int (J a1)]) (rest := []) ⟨hx, hb, hml, hown, hts⟩ (A_X7_gapOf l ka0 h) (cwV 1 hts (gj_V ml_RX7_118 i_X7_gapOf s_X7_gapOf n_RX7 k_X7_gapOf) rfl rfl rfl (by decide +kernel) ⟨by exact Nat.le_of_ble_eq_true rfl, by exact Nat.le_of_ble_eq_true rfl⟩) (j_preV hK hSX hG (ci := 6) rfl ka0 (by decide)) rfl rfl hl.1 rfl (lv_room (Nat.le_of_ble_eq_true rfl)) dX7_causeOf_14 ⟨by exact Nat.le_of_ble_eq_true rfl, by exact Nat.le_of_ble_eq_true rfl⟩) hG (c2 := 0) (s2 := 0) ⟨by exact Nat.le_of_ble_eq_true rfl, by exact Nat.le_of_ble_eq_true rfl⟩ (fun z13 M14 h H locs hG => ?_)
    obtain ⟨h, eM14⟩ := h
    rw [eM14] at hG
    rw [hQf]
    exact j_ireti hx hb hr hlocks hG h (by decide) dX7_causeOf_17

abbrev rom_X10_cause : Room := { frames := 4, cells := 0, slots := 0, locals := 99 }
set_option maxRecDepth 100000 in
set_option maxHeartbeats 4000000 in
theorem Ao_X10_cause (l : Launch) {D : va_G} {cy : Nat → ClassId} {o : Nat} {sK sV : Nat → Nat} {M : jT} {a0 : Int} {a1 : Int} {a2 : Int} (ka0 : kd a0 = 10) {Q : Int → jT → Prop} (h : wo_X10_cause M a0 a1 a2 Q) : CoI l yX10_cause (wj yX10_cause cX10_cause 3 (some .int)) rom_X10_cause D cy o sK sV M [.ref (rA o a0), .int (J a1), .int (J a2)] Q := by
  refine j_ofW (cc := cX10_cause) (maxL := 3) (ret := (some .int)) (by decide) rfl (Nat.le_of_ble_eq_true rfl) ?_
  intro p e s m args below meth c hx hb hr hlocks hml hown hts hK hSX H locs hG ls hl Qf hQf
  have hown : s.vm.findClass RX10 = some m.cls := hown
  have hl : lv_has ls 3 [(0, .ref (rA o a0)), (1, .int (J a1)), (2, .int (J a2))] := hl
  unfold wo_X10_cause at h
  refine lv_aload_n hx hb dX10_cause_0 rfl (lv_at hl 0 rfl) ?_
  refine lv_iload_n hx hb dX10_cause_1 rfl (lv_at hl 1 rfl) ?_
  refine j_contv (va_runV (As := [.int (J a1)]) (rest := []) ⟨hx, hb, hml, hown, hts⟩ (Ao_X10_needZone l ka0 h) (cwV 1 hts (gj_V ml_RX10_137 i_X10_needZone s_X10_needZone n_RX10 k_X10_needZone) rfl rfl rfl (by decide +kernel) ⟨by exact Nat.le_of_ble_eq_true rfl, by exact Nat.le_of_ble_eq_true rfl⟩) (j_preV hK hSX hG (ci := 9) rfl ka0 (by decide)) rfl rfl hl.1 rfl (lv_room (Nat.le_of_ble_eq_true rfl)) dX10_cause_2 ⟨by exact Nat.le_of_ble_eq_true rfl, by exact Nat.le_of_ble_eq_true rfl⟩) hG (c2 := 0) (s2 := 0) ⟨by exact Nat.le_of_ble_eq_true rfl, by exact Nat.le_of_ble_eq_true rfl⟩ (fun M2 h H locs hG => ?_)
  obtain ⟨h, eM2⟩ := h
  rw [eM2] at hG
  refine lv_iload_n hx hb dX10_cause_5 rfl (lv_at hl 2 rfl) ?_
  obtain ⟨g3, h⟩ := h
  refine j_conti (va_runS (As := [.int (J a2)]) (rest := []) ⟨hx, hb, hml, hown, hts⟩ (A_X10_isLocal l g3) (va_cwS 1 hts (gj_S ml_RX10_234 i_X10_isLocal n_RX10 k_X10_isLocal) rfl rfl rfl (by decide +kernel) ⟨by exact Nat.le_of_ble_eq_true rfl, by exact Nat.le_of_ble_eq_true rfl⟩) (j_preS hK hSX hG) rfl rfl hl.1 rfl (lv_room (Nat.le_of_ble_eq_true rfl)) dX10_cause_6 ⟨by exact Nat.le_of_ble_eq_true rfl, by exact Nat.le_of_ble_eq_true rfl⟩) hG (c2 := 0) (s2 := 0) ⟨by exact Nat.le_of_ble_eq_true rfl, by exact Nat.le_of_ble_eq_true rfl⟩ (fun z4 M5 ez4 H locs hG => ?_)
  obtain ⟨ez4, eM5⟩ := ez4
  subst ez4
  rw [eM5] at hG
  refine j_contv (va_runS (As := [.int (J (b2i (pb_X10_isLocal a2)))]) (rest := []) ⟨hx, hb, hml, hown, hts⟩ (Ao_X10_needArgument l h) (va_cwS 1 hts (gj_S ml_RX10_72 i_X10_needArgument n_RX10 k_X10_needArgument) rfl rfl rfl (by decide +kernel) ⟨by exact Nat.le_of_ble_eq_true rfl, by exact Nat.le_of_ble_eq_true rfl⟩) (j_preS hK hSX hG) rfl rfl hl.1 rfl (lv_room (Nat.le_of_ble_eq_true rfl)) dX10_cause_9 ⟨by exact Nat.le_of_ble_eq_true rfl, by exact Nat.le_of_ble_eq_true rfl⟩) hG (c2 := 0) (s2 := 0) ⟨by exact Nat.le_of_ble_eq_true rfl, by exact Nat.le_of_ble_eq_true rfl⟩ (fun M7 h H locs hG => ?_)
  obtain ⟨h, eM7⟩ := h
  rw [eM7] at hG
  refine lv_aload_n hx hb dX10_cause_12 rfl (lv_at hl 0 rfl) ?_
  refine lv_iload_n hx hb dX10_cause_13 rfl (lv_at hl 1 rfl) ?_
  refine j_contr (va_runV (As := [.int (J a1)]) (rest := []) ⟨hx, hb, hml, hown, hts⟩ (A_X10_compiled l ka0 h) (cwV 1 hts (gj_V ml_RX10_144 i_X10_compiled s_X10_compiled n_RX10 k_X10_compiled) rfl rfl rfl (by decide +kernel) ⟨by exact Nat.le_of_ble_eq_true rfl, by exact Nat.le_of_ble_eq_true rfl⟩) (j_preV hK hSX hG (ci := 9) rfl ka0 (by decide)) rfl rfl hl.1 rfl (lv_room (Nat.le_of_ble_eq_true rfl)) dX10_cause_14 ⟨by exact Nat.le_of_ble_eq_true rfl, by exact Nat.le_of_ble_eq_true rfl⟩) hG (c2 := 0) (s2 := 0) ⟨by exact Nat.le_of_ble_eq_true rfl, by exact Nat.le_of_ble_eq_true rfl⟩ (fun k8 M9 h hk8 H locs hG => ?_)
  refine lv_iload_n hx hb dX10_cause_17 rfl (lv_at hl 2 rfl) ?_
  refine j_conti (va_runV (As := [.int (J a2)]) (rest := []) ⟨hx, hb, hml, hown, hts⟩ (A_X7_causeOf l hk8 h) (cwV 1 hts (gj_V ml_RX10_247 i_X7_causeOf s_X7_causeOf n_RX7 k_X7_causeOf) rfl rfl rfl (by decide +kernel) ⟨by exact Nat.le_of_ble_eq_true rfl, by exact Nat.le_of_ble_eq_true rfl⟩) (j_preV hK hSX hG (ci := 6) rfl hk8 (by decide)) rfl rfl hl.1 rfl (lv_room (Nat.le_of_ble_eq_true rfl)) dX10_cause_18 ⟨by exact Nat.le_of_ble_eq_true rfl, by exact Nat.le_of_ble_eq_true rfl⟩) hG (c2 := 0) (s2 := 0) ⟨by exact Nat.le_of_ble_eq_true rfl, by exact Nat.le_of_ble_eq_true rfl⟩ (fun z10 M11 h H locs hG => ?_)
  rw [hQf]
  exact j_ireti hx hb hr hlocks hG h (by decide) dX10_cause_21
abbrev rm_X10_cause : Room := { frames := 8, cells := 1, slots := 6, locals := 131 }
set_option maxRecDepth 100000 in
set_option maxHeartbeats 4000000 in
theorem A_X10_cause (l : Launch) (hst : l.stackTraces = false) {D : va_G} {cy : Nat → ClassId} {o : Nat} {sK sV : Nat → Nat} {M : jT} {a0 : Int} {a1 : Int} {a2 : Int} (ka0 : kd a0 = 10) {Q : Int → jT → Prop} {X : Nat → jT → Prop} (h : wp_X10_cause M a0 a1 a2 Q X) : CxI l yX10_cause (wj yX10_cause cX10_cause 3 (some .int)) rm_X10_cause D cy o sK sV M [.ref (rA o a0), .int (J a1), .int (J a2)] Q X := by
  refine j_ofWx (cc := cX10_cause) (maxL := 3) (ret := (some .int)) (by decide) rfl (Nat.le_of_ble_eq_true rfl) ?_
  intro p e s m args below meth c hx hb hr hlocks hout hml hown hts hK hSX H locs hsz hG ls hl Qf hQf
  have hown : s.vm.findClass RX10 = some m.cls := hown
  have hl : lv_has ls 3 [(0, .ref (rA o a0)), (1, .int (J a1)), (2, .int (J a2))] := hl
  unfold wp_X10_cause at h
  refine lv_aload_n hx hb dX10_cause_0 rfl (lv_at hl 0 rfl) ?_
  refine lv_iload_n hx hb dX10_cause_1 rfl (lv_at hl 1 rfl) ?_
  rcases h with h | h
  · refine j_contv (va_runV (As := [.int (J a1)]) (rest := []) ⟨hx, hb, hml, hown, hts⟩ (Ao_X10_needZone l ka0 h) (cwV 1 hts (gj_V ml_RX10_137 i_X10_needZone s_X10_needZone n_RX10 k_X10_needZone) rfl rfl rfl (by decide +kernel) ⟨by exact Nat.le_of_ble_eq_true rfl, by exact Nat.le_of_ble_eq_true rfl⟩) (j_preV hK hSX hG (ci := 9) rfl ka0 (by decide)) rfl rfl hl.1 rfl (lv_room (Nat.le_of_ble_eq_true rfl)) dX10_cause_2 ⟨by exact Nat.le_of_ble_eq_true rfl, by exact Nat.le_of_ble_eq_true rfl⟩) hG (c2 := 0) (s2 := 0) ⟨by exact Nat.le_of_ble_eq_true rfl, by exact Nat.le_of_ble_eq_true rfl⟩ (fun M2 h H locs hG => ?_)
    obtain ⟨h, eM2⟩ := h
    rw [eM2] at hG
    refine lv_iload_n hx hb dX10_cause_5 rfl (lv_at hl 2 rfl) ?_
    obtain ⟨g3, h⟩ := h
    refine j_conti (va_runS (As := [.int (J a2)]) (rest := []) ⟨hx, hb, hml, hown, hts⟩ (A_X10_isLocal l g3) (va_cwS 1 hts (gj_S ml_RX10_234 i_X10_isLocal n_RX10 k_X10_isLocal) rfl rfl rfl (by decide +kernel) ⟨by exact Nat.le_of_ble_eq_true rfl, by exact Nat.le_of_ble_eq_true rfl⟩) (j_preS hK hSX hG) rfl rfl hl.1 rfl (lv_room (Nat.le_of_ble_eq_true rfl)) dX10_cause_6 ⟨by exact Nat.le_of_ble_eq_true rfl, by exact Nat.le_of_ble_eq_true rfl⟩) hG (c2 := 0) (s2 := 0) ⟨by exact Nat.le_of_ble_eq_true rfl, by exact Nat.le_of_ble_eq_true rfl⟩ (fun z4 M5 ez4 H locs hG => ?_)
    obtain ⟨ez4, eM5⟩ := ez4
    subst ez4
    rw [eM5] at hG
    rcases h with h | h
    · refine j_contv (va_runS (As := [.int (J (b2i (pb_X10_isLocal a2)))]) (rest := []) ⟨hx, hb, hml, hown, hts⟩ (Ao_X10_needArgument l h) (va_cwS 1 hts (gj_S ml_RX10_72 i_X10_needArgument n_RX10 k_X10_needArgument) rfl rfl rfl (by decide +kernel) ⟨by exact Nat.le_of_ble_eq_true rfl, by exact Nat.le_of_ble_eq_true rfl⟩) (j_preS hK hSX hG) rfl rfl hl.1 rfl (lv_room (Nat.le_of_ble_eq_true rfl)) dX10_cause_9 ⟨by exact Nat.le_of_ble_eq_true rfl, by exact Nat.le_of_ble_eq_true rfl⟩) hG (c2 := 0) (s2 := 0) ⟨by exact Nat.le_of_ble_eq_true rfl, by exact Nat.le_of_ble_eq_true rfl⟩ (fun M7 h H locs hG => ?_)
      obtain ⟨h, eM7⟩ := h
      rw [eM7] at hG
      refine lv_aload_n hx hb dX10_cause_12 rfl (lv_at hl 0 rfl) ?_
      refine lv_iload_n hx hb dX10_cause_13 rfl (lv_at hl 1 rfl) ?_
      refine j_contr (va_runV (As := [.int (J a1)]) (rest := []) ⟨hx, hb, hml, hown, hts⟩ (A_X10_compiled l ka0 h) (cwV 1 hts (gj_V ml_RX10_144 i_X10_compiled s_X10_compiled n_RX10 k_X10_compiled) rfl rfl rfl (by decide +kernel) ⟨by exact Nat.le_of_ble_eq_true rfl, by exact Nat.le_of_ble_eq_true rfl⟩) (j_preV hK hSX hG (ci := 9) rfl ka0 (by decide)) rfl rfl hl.1 rfl (lv_room (Nat.le_of_ble_eq_true rfl)) dX10_cause_14 ⟨by exact Nat.le_of_ble_eq_true rfl, by exact Nat.le_of_ble_eq_true rfl⟩) hG (c2 := 0) (s2 := 0) ⟨by exact Nat.le_of_ble_eq_true rfl, by exact Nat.le_of_ble_eq_true rfl⟩ (fun k8 M9 h hk8 H locs hG => ?_)
      refine lv_iload_n hx hb dX10_cause_17 rfl (lv_at hl 2 rfl) ?_
      refine j_conti (va_runV (As := [.int (J a2)]) (rest := []) ⟨hx, hb, hml, hown, hts⟩ (A_X7_causeOf l hk8 h) (cwV 1 hts (gj_V ml_RX10_247 i_X7_causeOf s_X7_causeOf n_RX7 k_X7_causeOf) rfl rfl rfl (by decide +kernel) ⟨by exact Nat.le_of_ble_eq_true rfl, by exact Nat.le_of_ble_eq_true rfl⟩) (j_preV hK hSX hG (ci := 6) rfl hk8 (by decide)) rfl rfl hl.1 rfl (lv_room (Nat.le_of_ble_eq_true rfl)) dX10_cause_18 ⟨by exact Nat.le_of_ble_eq_true rfl, by exact Nat.le_of_ble_eq_true rfl⟩) hG (c2 := 0) (s2 := 0) ⟨by exact Nat.le_of_ble_eq_true rfl, by exact Nat.le_of_ble_eq_true rfl⟩ (fun z10 M11 h H locs hG => ?_)
      rw [hQf]
      exact vx_ret (j_ireti hx hb hr hlocks hG h (by decide) dX10_cause_21)
    · refine j_contxv (vx_runS (As := [.int (J (b2i (pb_X10_isLocal a2)))]) (rest := []) ⟨hx, hb, hml, hown, hts⟩ (A_X10_needArgument l hst h) (va_cwS 1 hts (gj_S ml_RX10_72 i_X10_needArgument n_RX10 k_X10_needArgument) rfl rfl rfl (by decide +kernel) ⟨by exact Nat.le_of_ble_eq_true rfl, by exact Nat.le_of_ble_eq_true rfl⟩) (j_preS hK hSX hG) rfl rfl hl.1 rfl (lv_room (Nat.le_of_ble_eq_true rfl)) dX10_cause_9 ⟨by exact Nat.le_of_ble_eq_true rfl, by exact Nat.le_of_ble_eq_true rfl⟩) hG (c2 := 1) (s2 := 6) ⟨by exact Nat.le_of_ble_eq_true rfl, by exact Nat.le_of_ble_eq_true rfl⟩ (fun x M h ce q H locs hG h1 h2 h3 => ?_) (fun M h H locs hG => h.elim)
      rw [hQf]
      exact j_xout hlocks hout hG h h1 h2 h3 (by decide)
  · refine j_contxv (vx_runV (As := [.int (J a1)]) (rest := []) ⟨hx, hb, hml, hown, hts⟩ (A_X10_needZone l hst ka0 h) (cwV 1 hts (gj_V ml_RX10_137 i_X10_needZone s_X10_needZone n_RX10 k_X10_needZone) rfl rfl rfl (by decide +kernel) ⟨by exact Nat.le_of_ble_eq_true rfl, by exact Nat.le_of_ble_eq_true rfl⟩) (j_preV hK hSX hG (ci := 9) rfl ka0 (by decide)) rfl rfl hl.1 rfl (lv_room (Nat.le_of_ble_eq_true rfl)) dX10_cause_2 ⟨by exact Nat.le_of_ble_eq_true rfl, by exact Nat.le_of_ble_eq_true rfl⟩) hG (c2 := 1) (s2 := 6) ⟨by exact Nat.le_of_ble_eq_true rfl, by exact Nat.le_of_ble_eq_true rfl⟩ (fun x M h ce q H locs hG h1 h2 h3 => ?_) (fun M h H locs hG => h.elim)
    rw [hQf]
    exact j_xout hlocks hout hG h h1 h2 h3 (by decide)

abbrev rm_X10_isMode : Room := { frames := 0, cells := 0, slots := 0, locals := 0 }
set_option maxRecDepth 100000 in
set_option maxHeartbeats 4000000 in
theorem A_X10_isMode (l : Launch) {D : va_G} {cy : Nat → ClassId} {o : Nat} {sK sV : Nat → Nat} {M : jT} {a0 : Int} (h : pg_X10_isMode a0) : CoI l yX10_isMode (wj yX10_isMode cX10_isMode 1 (some .boolean)) rm_X10_isMode D cy o sK sV M [.int (J a0)] (fun z M9 => z = b2i (pb_X10_isMode a0) ∧ M9 = M) := by
  refine j_ofW (cc := cX10_isMode) (maxL := 1) (ret := (some .boolean)) (by decide) rfl (Nat.le_of_ble_eq_true rfl) ?_
  intro p e s m args below meth c hx hb hr hlocks hml hown hts hK hSX H locs hG ls hl Qf hQf
  have hown : s.vm.findClass RX10 = some m.cls := hown
  have hl : lv_has ls 1 [(0, .int (J a0))] := hl
  unfold pg_X10_isMode at h
  refine lv_iload_n hx hb dX10_isMode_0 rfl (lv_at hl 0 rfl) ?_
  obtain ⟨g2, h⟩ := h
  refine j_if_lt (tgt := 13) hx hb dX10_isMode_1 (by decide) g2 (fun c1 => ?_) (fun c1 => ?_)
  · have h := h.1 c1
    refine lv_iconst (v := J 0) hx hb dX10_isMode_13 (by decide) ?_
    rw [hQf]
    exact j_iretn hx hb hr hlocks (nar_b (by decide)) hG ⟨(b2i_iff0 (iff_of_false (fun q8 => (show ¬ (0 ≤ a0) from by omega) q8.1) id)), rfl⟩ (by decide) dX10_isMode_14
  · have h := h.2 c1
    refine lv_iload_n hx hb dX10_isMode_4 rfl (lv_at hl 0 rfl) ?_
    refine lv_iconst (v := J 3) hx hb dX10_isMode_5 (by decide) ?_
    refine j_icmp_gt (tgt := 13) hx hb dX10_isMode_6 (by decide) g2 (by decide) (fun c3 => ?_) (fun c3 => ?_)
    · have h := h.1 c3
      refine lv_iconst (v := J 0) hx hb dX10_isMode_13 (by decide) ?_
      rw [hQf]
      exact j_iretn hx hb hr hlocks (nar_b (by decide)) hG ⟨(b2i_iff0 ((and_iff_right c1).trans (iff_of_false (show ¬ (a0 ≤ 3) from by omega) id))), rfl⟩ (by decide) dX10_isMode_14
    · have h := h.2 c3
      refine lv_iconst (v := J 1) hx hb dX10_isMode_9 (by decide) ?_
      refine lv_goto (tgt := 14) hx hb dX10_isMode_10 (by decide) ?_
      rw [hQf]
      exact j_iretn hx hb hr hlocks (nar_b (by decide)) hG ⟨(b2i_iff1 ((and_iff_right c1).trans (iff_of_true c3 trivial))), rfl⟩ (by decide) dX10_isMode_14

abbrev rm_X7_instantOf : Room := { frames := 2, cells := 0, slots := 0, locals := 48 }
set_option maxRecDepth 100000 in
set_option maxHeartbeats 4000000 in
theorem A_X7_instantOf (l : Launch) {D : va_G} {cy : Nat → ClassId} {o : Nat} {sK sV : Nat → Nat} {M : jT} {a0 : Int} {a1 : Int} {a2 : Int} (ka0 : kd a0 = 7) {Q : Int → jT → Prop} (h : wp_X7_instantOf M a0 a1 a2 Q) : CoI l yX7_instantOf (wj yX7_instantOf cX7_instantOf 4 (some .int)) rm_X7_instantOf D cy o sK sV M [.ref (rA o a0), .int (J a1), .int (J a2)] Q := by
  refine j_ofW (cc := cX7_instantOf) (maxL := 4) (ret := (some .int)) (by decide) rfl (Nat.le_of_ble_eq_true rfl) ?_
  intro p e s m args below meth c hx hb hr hlocks hml hown hts hK hSX H locs hG ls hl Qf hQf
  have hown : s.vm.findClass RX7 = some m.cls := hown
  have hl : lv_has ls 4 [(0, .ref (rA o a0)), (1, .int (J a1)), (2, .int (J a2))] := hl
  have w_fl_RX7_101 := hts _ (List.mem_cons_of_mem _ fl_RX7_101)
  have w_fl_RX7_30 := hts _ (List.mem_cons_of_mem _ fl_RX7_30)
  have w_fl_RX7_9 := hts _ (List.mem_cons_of_mem _ fl_RX7_9)
  have w_ck_RX7_104 := hts _ (List.mem_cons_of_mem _ ck_RX7_104)
  have w_fl_RX7_105 := hts _ (List.mem_cons_of_mem _ fl_RX7_105)
  have w_fl_RX7_108 := hts _ (List.mem_cons_of_mem _ fl_RX7_108)
  unfold wp_X7_instantOf at h
  refine lv_aload_n hx hb dX7_instantOf_0 rfl (lv_at hl 0 rfl) ?_
  refine lv_iload_n hx hb dX7_instantOf_1 rfl (lv_at hl 1 rfl) ?_
  refine j_contv (va_runV (As := [.int (J a1)]) (rest := []) ⟨hx, hb, hml, hown, hts⟩ (A_X7_look l ka0 h) (cwV 1 hts (gj_V ml_RX7_115 i_X7_look s_X7_look n_RX7 k_X7_look) rfl rfl rfl (by decide +kernel) ⟨by exact Nat.le_of_ble_eq_true rfl, by exact Nat.le_of_ble_eq_true rfl⟩) (j_preV hK hSX hG (ci := 6) rfl ka0 (by decide)) rfl rfl hl.1 rfl (lv_room (Nat.le_of_ble_eq_true rfl)) dX7_instantOf_2 ⟨by exact Nat.le_of_ble_eq_true rfl, by exact Nat.le_of_ble_eq_true rfl⟩) hG (c2 := 0) (s2 := 0) ⟨by exact Nat.le_of_ble_eq_true rfl, by exact Nat.le_of_ble_eq_true rfl⟩ (fun M2 h H locs hG => ?_)
  refine lv_aload_n hx hb dX7_instantOf_5 rfl (lv_at hl 0 rfl) ?_
  refine j_geti hx hb hts hown hK hG (k := a0) (fun w h => List.mem_cons_of_mem _ (u_X7 w h)) (ci := 6) rfl ka0 13 (by decide) (jz := 13) rfl w_fl_RX7_101 dX7_instantOf_6 ?_
  refine lv_iconst (v := J 1) hx hb dX7_instantOf_9 (by decide) ?_
  obtain ⟨g4, h⟩ := h
  refine j_icmp_ne (tgt := 18) hx hb dX7_instantOf_10 (by decide) g4 (by decide) (fun c3 => ?_) (fun c3 => ?_)
  · have h := h.1 c3
    refine lv_iload_n hx hb dX7_instantOf_18 rfl (lv_at hl 2 rfl) ?_
    refine lv_iconst (v := J 3) hx hb dX7_instantOf_19 (by decide) ?_
    obtain ⟨g6, h⟩ := h
    refine j_icmp_ne (tgt := 26) hx hb dX7_instantOf_20 (by decide) g6 (by decide) (fun c5 => ?_) (fun c5 => ?_)
    · have h := h.1 c5
      refine lv_aload_n hx hb dX7_instantOf_26 rfl (lv_at hl 0 rfl) ?_
      refine j_geti hx hb hts hown hK hG (k := a0) (fun w h => List.mem_cons_of_mem _ (u_X7 w h)) (ci := 6) rfl ka0 13 (by decide) (jz := 13) rfl w_fl_RX7_101 dX7_instantOf_27 ?_
      refine lv_iconst (v := J 1) hx hb dX7_instantOf_30 (by decide) ?_
      refine j_icmp_le (tgt := 51) hx hb dX7_instantOf_31 (by decide) g4 (by decide) (fun c7 => ?_) (fun c7 => ?_)
      · have h := h.1 c7
        refine lv_aload_n hx hb dX7_instantOf_51 rfl (lv_at hl 0 rfl) ?_
        refine lv_iload_n hx hb dX7_instantOf_52 rfl (lv_at hl 1 rfl) ?_
        refine j_conti (va_runV (As := [.int (J a1)]) (rest := []) ⟨hx, hb, hml, hown, hts⟩ (A_X7_gapOf l ka0 h) (cwV 1 hts (gj_V ml_RX7_118 i_X7_gapOf s_X7_gapOf n_RX7 k_X7_gapOf) rfl rfl rfl (by decide +kernel) ⟨by exact Nat.le_of_ble_eq_true rfl, by exact Nat.le_of_ble_eq_true rfl⟩) (j_preV hK hSX hG (ci := 6) rfl ka0 (by decide)) rfl rfl hl.1 rfl (lv_room (Nat.le_of_ble_eq_true rfl)) dX7_instantOf_53 ⟨by exact Nat.le_of_ble_eq_true rfl, by exact Nat.le_of_ble_eq_true rfl⟩) hG (c2 := 0) (s2 := 0) ⟨by exact Nat.le_of_ble_eq_true rfl, by exact Nat.le_of_ble_eq_true rfl⟩ (fun z8 M9 h H locs hG => ?_)
        obtain ⟨h, eM9⟩ := h
        rw [eM9] at hG
        refine lv_istore_n (lv' := [(3, .int (J z8)), (0, .ref (rA o a0)), (1, .int (J a1)), (2, .int (J a2))]) hx hb dX7_instantOf_56 rfl hl (by decide) rfl (fun ls hl => ?_)
        refine lv_iload_n hx hb dX7_instantOf_57 rfl (lv_at hl 0 rfl) ?_
        obtain ⟨g11, h⟩ := h
        refine j_if_ge (tgt := 64) hx hb dX7_instantOf_58 (by decide) g11 (fun c10 => ?_) (fun c10 => ?_)
        · have h := h.1 c10
          refine lv_iload_n hx hb dX7_instantOf_64 rfl (lv_at hl 3 rfl) ?_
          refine lv_iconst (v := J 2) hx hb dX7_instantOf_65 (by decide) ?_
          obtain ⟨hg, h⟩ := h
          have jK16 : ∀ x15 : Int, (a2 ≠ 2 → x15 = a1 - (M2 (a0 + 7) (z8 + a2))) → (a2 = 2 → x15 = M2 (a0 + 1) z8) → ∀ (H : Heap) (locs : List Loc), GM D cy o M2 s.heap H locs → ∀ ls : Array Slot, lv_has ls 4 [] → W p l e rm_X7_instantOf s m args below meth c H locs 0 0 Qf (F0 m 88 ls [.int (J x15)]) := by
            intro x15 qx15_0 qx15_1 H locs hG ls hl
            have h := h x15 qx15_0 qx15_1
            rw [hQf]
            exact j_ireti hx hb hr hlocks hG h (by decide) dX7_instantOf_88
          have h := hg
          refine j_icmp_ne (tgt := 78) hx hb dX7_instantOf_66 (by decide) g6 (by decide) (fun c17 => ?_) (fun c17 => ?_)
          · have h := h.1 c17
            refine lv_iload_n hx hb dX7_instantOf_78 rfl (lv_at hl 2 rfl) ?_
            refine lv_aload_n hx hb dX7_instantOf_79 rfl (lv_at hl 1 rfl) ?_
            refine j_getr hx hb hts hown hK hG (k := a0) (fun w h => List.mem_cons_of_mem _ (u_X7 w h)) (ci := 6) rfl ka0 12 (k2 := a0 + 7) (by decide) (by show a0 + (7 : Int) = a0 + 7; omega) w_fl_RX7_30 dX7_instantOf_80 ?_
            refine lv_iload_n hx hb dX7_instantOf_83 rfl (lv_at hl 0 rfl) ?_
            refine lv_iload_n hx hb dX7_instantOf_84 rfl (lv_at hl 3 rfl) ?_
            refine j_iadd hx hb dX7_instantOf_85 ?_
            obtain ⟨g18, h⟩ := h
            refine j_iald hx hb hK hG (n := 261) (kf_7_12 ka0) (by decide) g18 dX7_instantOf_86 ?_
            refine j_isub hx hb dX7_instantOf_87 ?_
            exact jK16 (a1 - (M2 (a0 + 7) (z8 + a2))) (fun _ => rfl) (fun q => absurd q (by omega)) H locs hG ls (lv_sub hl [] rfl)
          · have h := h.2 c17
            refine lv_aload_n hx hb dX7_instantOf_69 rfl (lv_at hl 1 rfl) ?_
            refine j_getr hx hb hts hown hK hG (k := a0) (fun w h => List.mem_cons_of_mem _ (u_X7 w h)) (ci := 6) rfl ka0 6 (k2 := a0 + 1) (by decide) (by show a0 + (1 : Int) = a0 + 1; omega) w_fl_RX7_9 dX7_instantOf_70 ?_
            refine lv_iload_n hx hb dX7_instantOf_73 rfl (lv_at hl 0 rfl) ?_
            obtain ⟨g19, h⟩ := h
            refine j_iald hx hb hK hG (n := 260) (kf_7_6 ka0) (by decide) g19 dX7_instantOf_74 ?_
            refine lv_goto (tgt := 88) hx hb dX7_instantOf_75 (by decide) ?_
            exact jK16 (M2 (a0 + 1) z8) (fun q => absurd q (by omega)) (fun _ => rfl) H locs hG ls (lv_sub hl [] rfl)
        · have h := h.2 c10
          refine lv_ldc (v := J (-1000000000)) hx hb hown (show (Cond.constant RX7 104 (J (-1000000000))).before args s = true from w_ck_RX7_104) dX7_instantOf_61 ?_
          rw [hQf]
          exact j_ireti hx hb hr hlocks hG h (by decide) dX7_instantOf_63
      · have h := h.2 c7
        refine lv_iload_n hx hb dX7_instantOf_34 rfl (lv_at hl 2 rfl) ?_
        refine lv_iconst (v := J 1) hx hb dX7_instantOf_35 (by decide) ?_
        have jK22 : ∀ x21 : Int, (a2 ≠ 1 → x21 = M2 a0 14) → (a2 = 1 → x21 = M2 a0 15) → ∀ (H : Heap) (locs : List Loc), GM D cy o M2 s.heap H locs → ∀ ls : Array Slot, lv_has ls 4 [] → W p l e rm_X7_instantOf s m args below meth c H locs 0 0 Qf (F0 m 50 ls [.int (J x21)]) := by
          intro x21 qx21_0 qx21_1 H locs hG ls hl
          have h := h x21 qx21_0 qx21_1
          rw [hQf]
          exact j_ireti hx hb hr hlocks hG h (by decide) dX7_instantOf_50
        refine j_icmp_ne (tgt := 46) hx hb dX7_instantOf_36 (by decide) g6 (by decide) (fun c23 => ?_) (fun c23 => ?_)
        · refine lv_aload_n hx hb dX7_instantOf_46 rfl (lv_at hl 0 rfl) ?_
          refine j_geti hx hb hts hown hK hG (k := a0) (fun w h => List.mem_cons_of_mem _ (u_X7 w h)) (ci := 6) rfl ka0 14 (by decide) (jz := 14) rfl w_fl_RX7_105 dX7_instantOf_47 ?_
          exact jK22 (M2 a0 14) (fun _ => rfl) (fun q => absurd q (by omega)) H locs hG ls (lv_sub hl [] rfl)
        · refine lv_aload_n hx hb dX7_instantOf_39 rfl (lv_at hl 0 rfl) ?_
          refine j_geti hx hb hts hown hK hG (k := a0) (fun w h => List.mem_cons_of_mem _ (u_X7 w h)) (ci := 6) rfl ka0 15 (by decide) (jz := 15) rfl w_fl_RX7_108 dX7_instantOf_40 ?_
          refine lv_goto (tgt := 50) hx hb dX7_instantOf_43 (by decide) ?_
          exact jK22 (M2 a0 15) (fun q => absurd q (by omega)) (fun _ => rfl) H locs hG ls (lv_sub hl [] rfl)
    · have h := h.2 c5
      refine lv_ldc (v := J (-1000000000)) hx hb hown (show (Cond.constant RX7 104 (J (-1000000000))).before args s = true from w_ck_RX7_104) dX7_instantOf_23 ?_
      rw [hQf]
      exact j_ireti hx hb hr hlocks hG h (by decide) dX7_instantOf_25
  · have h := h.2 c3
    refine lv_aload_n hx hb dX7_instantOf_13 rfl (lv_at hl 0 rfl) ?_
    refine j_geti hx hb hts hown hK hG (k := a0) (fun w h => List.mem_cons_of_mem _ (u_X7 w h)) (ci := 6) rfl ka0 14 (by decide) (jz := 14) rfl w_fl_RX7_105 dX7_instantOf_14 ?_
    rw [hQf]
    exact j_ireti hx hb hr hlocks hG h (by decide) dX7_instantOf_17

abbrev rom_X10_needInstant : Room := { frames := 0, cells := 0, slots := 0, locals := 0 }
set_option maxRecDepth 100000 in
set_option maxHeartbeats 4000000 in
theorem Ao_X10_needInstant (l : Launch) {D : va_G} {cy : Nat → ClassId} {o : Nat} {sK sV : Nat → Nat} {M : jT} {a0 : Int} {Q : Int → Prop} (h : wo_X10_needInstant M a0 Q) : CoI l yX10_needInstant (wj yX10_needInstant cX10_needInstant 1 (some .int)) rom_X10_needInstant D cy o sK sV M [.int (J a0)] (fun z M9 => Q z ∧ M9 = M) := by
  refine j_ofW (cc := cX10_needInstant) (maxL := 1) (ret := (some .int)) (by decide) rfl (Nat.le_of_ble_eq_true rfl) ?_
  intro p e s m args below meth c hx hb hr hlocks hml hown hts hK hSX H locs hG ls hl Qf hQf
  have hown : s.vm.findClass RX10 = some m.cls := hown
  have hl : lv_has ls 1 [(0, .int (J a0))] := hl
  have w_ck_RX10_469 := hts _ (List.mem_cons_of_mem _ ck_RX10_469)
  unfold wo_X10_needInstant at h
  refine lv_iload_n hx hb dX10_needInstant_0 rfl (lv_at hl 0 rfl) ?_
  refine lv_ldcw (v := J (-1000000000)) hx hb hown (show (Cond.constant RX10 469 (J (-1000000000))).before args s = true from w_ck_RX10_469) dX10_needInstant_1 ?_
  obtain ⟨g2, h⟩ := h
  refine j_icmp_ne (tgt := 18) hx hb dX10_needInstant_4 (by decide) g2 (by decide) (fun c1 => ?_) (fun c1 => ?_)
  · have h := h.1 c1
    refine lv_iload_n hx hb dX10_needInstant_18 rfl (lv_at hl 0 rfl) ?_
    rw [hQf]
    exact j_ireti hx hb hr hlocks hG ⟨h, rfl⟩ (by decide) dX10_needInstant_19
  · have h := h.2 c1
    exact h.elim
abbrev rm_X10_needInstant : Room := { frames := 6, cells := 1, slots := 6, locals := 90 }
set_option maxRecDepth 100000 in
set_option maxHeartbeats 4000000 in
theorem A_X10_needInstant (l : Launch) (hst : l.stackTraces = false) {D : va_G} {cy : Nat → ClassId} {o : Nat} {sK sV : Nat → Nat} {M : jT} {a0 : Int} {Q : Int → jT → Prop} {X : Nat → jT → Prop} (h : wp_X10_needInstant M a0 Q X) : CxI l yX10_needInstant (wj yX10_needInstant cX10_needInstant 1 (some .int)) rm_X10_needInstant D cy o sK sV M [.int (J a0)] Q X := by
  refine j_ofWx (cc := cX10_needInstant) (maxL := 1) (ret := (some .int)) (by decide) rfl (Nat.le_of_ble_eq_true rfl) ?_
  intro p e s m args below meth c hx hb hr hlocks hout hml hown hts hK hSX H locs hsz hG ls hl Qf hQf
  have hown : s.vm.findClass RX10 = some m.cls := hown
  have hl : lv_has ls 1 [(0, .int (J a0))] := hl
  have w_ck_RX10_469 := hts _ (List.mem_cons_of_mem _ ck_RX10_469)
  unfold wp_X10_needInstant at h
  refine lv_iload_n hx hb dX10_needInstant_0 rfl (lv_at hl 0 rfl) ?_
  refine lv_ldcw (v := J (-1000000000)) hx hb hown (show (Cond.constant RX10 469 (J (-1000000000))).before args s = true from w_ck_RX10_469) dX10_needInstant_1 ?_
  obtain ⟨g2, h⟩ := h
  refine j_icmp_ne (tgt := 18) hx hb dX10_needInstant_4 (by decide) g2 (by decide) (fun c1 => ?_) (fun c1 => ?_)
  · have h := h.1 c1
    refine lv_iload_n hx hb dX10_needInstant_18 rfl (lv_at hl 0 rfl) ?_
    rw [hQf]
    exact vx_ret (j_ireti hx hb hr hlocks hG h (by decide) dX10_needInstant_19)
  · have h := h.2 c1
    rw [hQf]
    exact j_throw (xn := 5) (si := 5) hx hb hst hts hown hSX hG (hml.trans hl.1.symm) (by decide +kernel) (List.mem_cons_of_mem _ xl_RX10_470) (List.mem_cons_of_mem _ xi_5) rfl (fun w h => List.mem_cons_of_mem _ (xg_RX10_474 w h)) xb_RX10_474 xo_RX10_474 rfl dX10_needInstant_7 dX10_needInstant_10 dX10_needInstant_11 dX10_needInstant_14 dX10_needInstant_17 hout (by decide) (by exact Nat.le_of_ble_eq_true rfl) (by decide) (by decide) hlocks h (by decide)

abbrev rom_X10_toInstant : Room := { frames := 4, cells := 0, slots := 0, locals := 99 }
set_option maxRecDepth 100000 in
set_option maxHeartbeats 4000000 in
theorem Ao_X10_toInstant (l : Launch) {D : va_G} {cy : Nat → ClassId} {o : Nat} {sK sV : Nat → Nat} {M : jT} {a0 : Int} {a1 : Int} {a2 : Int} {a3 : Int} (ka0 : kd a0 = 10) {Q : Int → jT → Prop} (h : wo_X10_toInstant M a0 a1 a2 a3 Q) : CoI l yX10_toInstant (wj yX10_toInstant cX10_toInstant 4 (some .int)) rom_X10_toInstant D cy o sK sV M [.ref (rA o a0), .int (J a1), .int (J a2), .int (J a3)] Q := by
  refine j_ofW (cc := cX10_toInstant) (maxL := 4) (ret := (some .int)) (by decide) rfl (Nat.le_of_ble_eq_true rfl) ?_
  intro p e s m args below meth c hx hb hr hlocks hml hown hts hK hSX H locs hG ls hl Qf hQf
  have hown : s.vm.findClass RX10 = some m.cls := hown
  have hl : lv_has ls 4 [(0, .ref (rA o a0)), (1, .int (J a1)), (2, .int (J a2)), (3, .int (J a3))] := hl
  unfold wo_X10_toInstant at h
  refine lv_aload_n hx hb dX10_toInstant_0 rfl (lv_at hl 0 rfl) ?_
  refine lv_iload_n hx hb dX10_toInstant_1 rfl (lv_at hl 1 rfl) ?_
  refine j_contv (va_runV (As := [.int (J a1)]) (rest := []) ⟨hx, hb, hml, hown, hts⟩ (Ao_X10_needZone l ka0 h) (cwV 1 hts (gj_V ml_RX10_137 i_X10_needZone s_X10_needZone n_RX10 k_X10_needZone) rfl rfl rfl (by decide +kernel) ⟨by exact Nat.le_of_ble_eq_true rfl, by exact Nat.le_of_ble_eq_true rfl⟩) (j_preV hK hSX hG (ci := 9) rfl ka0 (by decide)) rfl rfl hl.1 rfl (lv_room (Nat.le_of_ble_eq_true rfl)) dX10_toInstant_2 ⟨by exact Nat.le_of_ble_eq_true rfl, by exact Nat.le_of_ble_eq_true rfl⟩) hG (c2 := 0) (s2 := 0) ⟨by exact Nat.le_of_ble_eq_true rfl, by exact Nat.le_of_ble_eq_true rfl⟩ (fun M2 h H locs hG => ?_)
  obtain ⟨h, eM2⟩ := h
  rw [eM2] at hG
  refine lv_iload_n hx hb dX10_toInstant_5 rfl (lv_at hl 2 rfl) ?_
  obtain ⟨g3, h⟩ := h
  refine j_conti (va_runS (As := [.int (J a2)]) (rest := []) ⟨hx, hb, hml, hown, hts⟩ (A_X10_isLocal l g3) (va_cwS 1 hts (gj_S ml_RX10_234 i_X10_isLocal n_RX10 k_X10_isLocal) rfl rfl rfl (by decide +kernel) ⟨by exact Nat.le_of_ble_eq_true rfl, by exact Nat.le_of_ble_eq_true rfl⟩) (j_preS hK hSX hG) rfl rfl hl.1 rfl (lv_room (Nat.le_of_ble_eq_true rfl)) dX10_toInstant_6 ⟨by exact Nat.le_of_ble_eq_true rfl, by exact Nat.le_of_ble_eq_true rfl⟩) hG (c2 := 0) (s2 := 0) ⟨by exact Nat.le_of_ble_eq_true rfl, by exact Nat.le_of_ble_eq_true rfl⟩ (fun z4 M5 ez4 H locs hG => ?_)
  obtain ⟨ez4, eM5⟩ := ez4
  subst ez4
  rw [eM5] at hG
  obtain ⟨K18, hK18, h⟩ := h
  have jK18 : ∀ (x17 : Int), K18 x17 → ∀ (H : Heap) (locs : List Loc), GM D cy o M s.heap H locs → ∀ ls : Array Slot, lv_has ls 4 [(0, .ref (rA o a0)), (1, .int (J a1)), (2, .int (J a2)), (3, .int (J a3))] → W p l e rom_X10_toInstant s m args below meth c H locs 0 0 Qf (F0 m 24 ls [.int (J x17)]) := by
    intro x17 hcK18 H locs hG ls hl
    have h := hK18 x17 hcK18
    refine j_contv (va_runS (As := [.int (J x17)]) (rest := []) ⟨hx, hb, hml, hown, hts⟩ (Ao_X10_needArgument l h) (va_cwS 1 hts (gj_S ml_RX10_72 i_X10_needArgument n_RX10 k_X10_needArgument) rfl rfl rfl (by decide +kernel) ⟨by exact Nat.le_of_ble_eq_true rfl, by exact Nat.le_of_ble_eq_true rfl⟩) (j_preS hK hSX hG) rfl rfl hl.1 rfl (lv_room (Nat.le_of_ble_eq_true rfl)) dX10_toInstant_24 ⟨by exact Nat.le_of_ble_eq_true rfl, by exact Nat.le_of_ble_eq_true rfl⟩) hG (c2 := 0) (s2 := 0) ⟨by exact Nat.le_of_ble_eq_true rfl, by exact Nat.le_of_ble_eq_true rfl⟩ (fun M20 h H locs hG => ?_)
    obtain ⟨h, eM20⟩ := h
    rw [eM20] at hG
    refine lv_aload_n hx hb dX10_toInstant_27 rfl (lv_at hl 0 rfl) ?_
    refine lv_iload_n hx hb dX10_toInstant_28 rfl (lv_at hl 1 rfl) ?_
    refine j_contr (va_runV (As := [.int (J a1)]) (rest := []) ⟨hx, hb, hml, hown, hts⟩ (A_X10_compiled l ka0 h) (cwV 1 hts (gj_V ml_RX10_144 i_X10_compiled s_X10_compiled n_RX10 k_X10_compiled) rfl rfl rfl (by decide +kernel) ⟨by exact Nat.le_of_ble_eq_true rfl, by exact Nat.le_of_ble_eq_true rfl⟩) (j_preV hK hSX hG (ci := 9) rfl ka0 (by decide)) rfl rfl hl.1 rfl (lv_room (Nat.le_of_ble_eq_true rfl)) dX10_toInstant_29 ⟨by exact Nat.le_of_ble_eq_true rfl, by exact Nat.le_of_ble_eq_true rfl⟩) hG (c2 := 0) (s2 := 0) ⟨by exact Nat.le_of_ble_eq_true rfl, by exact Nat.le_of_ble_eq_true rfl⟩ (fun k21 M22 h hk21 H locs hG => ?_)
    refine lv_iload_n hx hb dX10_toInstant_32 rfl (lv_at hl 2 rfl) ?_
    refine lv_iload_n hx hb dX10_toInstant_33 rfl (lv_at hl 3 rfl) ?_
    refine j_conti (va_runV (As := [.int (J a2), .int (J a3)]) (rest := []) ⟨hx, hb, hml, hown, hts⟩ (A_X7_instantOf l hk21 h) (cwV 2 hts (gj_V ml_RX10_253 i_X7_instantOf s_X7_instantOf n_RX7 k_X7_instantOf) rfl rfl rfl (by decide +kernel) ⟨by exact Nat.le_of_ble_eq_true rfl, by exact Nat.le_of_ble_eq_true rfl⟩) (j_preV hK hSX hG (ci := 6) rfl hk21 (by decide)) rfl rfl hl.1 rfl (lv_room (Nat.le_of_ble_eq_true rfl)) dX10_toInstant_34 ⟨by exact Nat.le_of_ble_eq_true rfl, by exact Nat.le_of_ble_eq_true rfl⟩) hG (c2 := 0) (s2 := 0) ⟨by exact Nat.le_of_ble_eq_true rfl, by exact Nat.le_of_ble_eq_true rfl⟩ (fun z23 M24 h H locs hG => ?_)
    refine j_conti (va_runS (As := [.int (J z23)]) (rest := []) ⟨hx, hb, hml, hown, hts⟩ (Ao_X10_needInstant l h) (va_cwS 1 hts (gj_S ml_RX10_256 i_X10_needInstant n_RX10 k_X10_needInstant) rfl rfl rfl (by decide +kernel) ⟨by exact Nat.le_of_ble_eq_true rfl, by exact Nat.le_of_ble_eq_true rfl⟩) (j_preS hK hSX hG) rfl rfl hl.1 rfl (lv_room (Nat.le_of_ble_eq_true rfl)) dX10_toInstant_37 ⟨by exact Nat.le_of_ble_eq_true rfl, by exact Nat.le_of_ble_eq_true rfl⟩) hG (c2 := 0) (s2 := 0) ⟨by exact Nat.le_of_ble_eq_true rfl, by exact Nat.le_of_ble_eq_true rfl⟩ (fun z25 M26 h H locs hG => ?_)
    obtain ⟨h, eM26⟩ := h
    rw [eM26] at hG
    rw [hQf]
    exact j_ireti hx hb hr hlocks hG h (by decide) dX10_toInstant_40
  obtain ⟨K32, hK32, h⟩ := h
  have jK32 : K32 → ∀ (H : Heap) (locs : List Loc), GM D cy o M s.heap H locs → ∀ ls : Array Slot, lv_has ls 4 [(0, .ref (rA o a0)), (1, .int (J a1)), (2, .int (J a2)), (3, .int (J a3))] → W p l e rom_X10_toInstant s m args below meth c H locs 0 0 Qf (F0 m 23 ls []) := by
    intro hcK32 H locs hG ls hl
    have h := hK32 hcK32
    refine lv_iconst (v := J 0) hx hb dX10_toInstant_23 (by decide) ?_
    exact jK18 0 h H locs hG ls (lv_sub hl [0, 1, 2, 3] rfl)
  refine j_if_eq_b (tgt := 23) hx hb dX10_toInstant_9 (by decide) (fun c33 => ?_) (fun c33 => ?_)
  · have h := h.1 c33
    exact jK32 h H locs hG ls (lv_sub hl [0, 1, 2, 3] rfl)
  · have h := h.2 c33
    refine lv_iload_n hx hb dX10_toInstant_12 rfl (lv_at hl 3 rfl) ?_
    obtain ⟨g34, h⟩ := h
    refine j_conti (va_runS (As := [.int (J a3)]) (rest := []) ⟨hx, hb, hml, hown, hts⟩ (A_X10_isMode l g34) (va_cwS 1 hts (gj_S ml_RX10_250 i_X10_isMode n_RX10 k_X10_isMode) rfl rfl rfl (by decide +kernel) ⟨by exact Nat.le_of_ble_eq_true rfl, by exact Nat.le_of_ble_eq_true rfl⟩) (j_preS hK hSX hG) rfl rfl hl.1 rfl (lv_room (Nat.le_of_ble_eq_true rfl)) dX10_toInstant_13 ⟨by exact Nat.le_of_ble_eq_true rfl, by exact Nat.le_of_ble_eq_true rfl⟩) hG (c2 := 0) (s2 := 0) ⟨by exact Nat.le_of_ble_eq_true rfl, by exact Nat.le_of_ble_eq_true rfl⟩ (fun z35 M36 ez35 H locs hG => ?_)
    obtain ⟨ez35, eM36⟩ := ez35
    subst ez35
    rw [eM36] at hG
    refine j_if_eq_b (tgt := 23) hx hb dX10_toInstant_16 (by decide) (fun c37 => ?_) (fun c37 => ?_)
    · have h := h.1 c37
      exact jK32 h H locs hG ls (lv_sub hl [0, 1, 2, 3] rfl)
    · have h := h.2 c37
      refine lv_iconst (v := J 1) hx hb dX10_toInstant_19 (by decide) ?_
      refine lv_goto (tgt := 24) hx hb dX10_toInstant_20 (by decide) ?_
      exact jK18 1 h H locs hG ls (lv_sub hl [0, 1, 2, 3] rfl)
abbrev rm_X10_toInstant : Room := { frames := 8, cells := 1, slots := 6, locals := 131 }
set_option maxRecDepth 100000 in
set_option maxHeartbeats 4000000 in
theorem A_X10_toInstant (l : Launch) (hst : l.stackTraces = false) {D : va_G} {cy : Nat → ClassId} {o : Nat} {sK sV : Nat → Nat} {M : jT} {a0 : Int} {a1 : Int} {a2 : Int} {a3 : Int} (ka0 : kd a0 = 10) {Q : Int → jT → Prop} {X : Nat → jT → Prop} (h : wp_X10_toInstant M a0 a1 a2 a3 Q X) : CxI l yX10_toInstant (wj yX10_toInstant cX10_toInstant 4 (some .int)) rm_X10_toInstant D cy o sK sV M [.ref (rA o a0), .int (J a1), .int (J a2), .int (J a3)] Q X := by
  refine j_ofWx (cc := cX10_toInstant) (maxL := 4) (ret := (some .int)) (by decide) rfl (Nat.le_of_ble_eq_true rfl) ?_
  intro p e s m args below meth c hx hb hr hlocks hout hml hown hts hK hSX H locs hsz hG ls hl Qf hQf
  have hown : s.vm.findClass RX10 = some m.cls := hown
  have hl : lv_has ls 4 [(0, .ref (rA o a0)), (1, .int (J a1)), (2, .int (J a2)), (3, .int (J a3))] := hl
  unfold wp_X10_toInstant at h
  refine lv_aload_n hx hb dX10_toInstant_0 rfl (lv_at hl 0 rfl) ?_
  refine lv_iload_n hx hb dX10_toInstant_1 rfl (lv_at hl 1 rfl) ?_
  rcases h with h | h
  · refine j_contv (va_runV (As := [.int (J a1)]) (rest := []) ⟨hx, hb, hml, hown, hts⟩ (Ao_X10_needZone l ka0 h) (cwV 1 hts (gj_V ml_RX10_137 i_X10_needZone s_X10_needZone n_RX10 k_X10_needZone) rfl rfl rfl (by decide +kernel) ⟨by exact Nat.le_of_ble_eq_true rfl, by exact Nat.le_of_ble_eq_true rfl⟩) (j_preV hK hSX hG (ci := 9) rfl ka0 (by decide)) rfl rfl hl.1 rfl (lv_room (Nat.le_of_ble_eq_true rfl)) dX10_toInstant_2 ⟨by exact Nat.le_of_ble_eq_true rfl, by exact Nat.le_of_ble_eq_true rfl⟩) hG (c2 := 0) (s2 := 0) ⟨by exact Nat.le_of_ble_eq_true rfl, by exact Nat.le_of_ble_eq_true rfl⟩ (fun M2 h H locs hG => ?_)
    obtain ⟨h, eM2⟩ := h
    rw [eM2] at hG
    refine lv_iload_n hx hb dX10_toInstant_5 rfl (lv_at hl 2 rfl) ?_
    obtain ⟨g3, h⟩ := h
    refine j_conti (va_runS (As := [.int (J a2)]) (rest := []) ⟨hx, hb, hml, hown, hts⟩ (A_X10_isLocal l g3) (va_cwS 1 hts (gj_S ml_RX10_234 i_X10_isLocal n_RX10 k_X10_isLocal) rfl rfl rfl (by decide +kernel) ⟨by exact Nat.le_of_ble_eq_true rfl, by exact Nat.le_of_ble_eq_true rfl⟩) (j_preS hK hSX hG) rfl rfl hl.1 rfl (lv_room (Nat.le_of_ble_eq_true rfl)) dX10_toInstant_6 ⟨by exact Nat.le_of_ble_eq_true rfl, by exact Nat.le_of_ble_eq_true rfl⟩) hG (c2 := 0) (s2 := 0) ⟨by exact Nat.le_of_ble_eq_true rfl, by exact Nat.le_of_ble_eq_true rfl⟩ (fun z4 M5 ez4 H locs hG => ?_)
    obtain ⟨ez4, eM5⟩ := ez4
    subst ez4
    rw [eM5] at hG
    obtain ⟨K18, hK18, h⟩ := h
    have jK18 : ∀ (x17 : Int), K18 x17 → ∀ (H : Heap) (locs : List Loc), GM D cy o M s.heap H locs → ∀ ls : Array Slot, lv_has ls 4 [(0, .ref (rA o a0)), (1, .int (J a1)), (2, .int (J a2)), (3, .int (J a3))] → W p l e rm_X10_toInstant s m args below meth c H locs 0 0 Qf (F0 m 24 ls [.int (J x17)]) := by
      intro x17 hcK18 H locs hG ls hl
      have h := hK18 x17 hcK18
      rcases h with h | h
      · refine j_contv (va_runS (As := [.int (J x17)]) (rest := []) ⟨hx, hb, hml, hown, hts⟩ (Ao_X10_needArgument l h) (va_cwS 1 hts (gj_S ml_RX10_72 i_X10_needArgument n_RX10 k_X10_needArgument) rfl rfl rfl (by decide +kernel) ⟨by exact Nat.le_of_ble_eq_true rfl, by exact Nat.le_of_ble_eq_true rfl⟩) (j_preS hK hSX hG) rfl rfl hl.1 rfl (lv_room (Nat.le_of_ble_eq_true rfl)) dX10_toInstant_24 ⟨by exact Nat.le_of_ble_eq_true rfl, by exact Nat.le_of_ble_eq_true rfl⟩) hG (c2 := 0) (s2 := 0) ⟨by exact Nat.le_of_ble_eq_true rfl, by exact Nat.le_of_ble_eq_true rfl⟩ (fun M20 h H locs hG => ?_)
        obtain ⟨h, eM20⟩ := h
        rw [eM20] at hG
        refine lv_aload_n hx hb dX10_toInstant_27 rfl (lv_at hl 0 rfl) ?_
        refine lv_iload_n hx hb dX10_toInstant_28 rfl (lv_at hl 1 rfl) ?_
        refine j_contr (va_runV (As := [.int (J a1)]) (rest := []) ⟨hx, hb, hml, hown, hts⟩ (A_X10_compiled l ka0 h) (cwV 1 hts (gj_V ml_RX10_144 i_X10_compiled s_X10_compiled n_RX10 k_X10_compiled) rfl rfl rfl (by decide +kernel) ⟨by exact Nat.le_of_ble_eq_true rfl, by exact Nat.le_of_ble_eq_true rfl⟩) (j_preV hK hSX hG (ci := 9) rfl ka0 (by decide)) rfl rfl hl.1 rfl (lv_room (Nat.le_of_ble_eq_true rfl)) dX10_toInstant_29 ⟨by exact Nat.le_of_ble_eq_true rfl, by exact Nat.le_of_ble_eq_true rfl⟩) hG (c2 := 0) (s2 := 0) ⟨by exact Nat.le_of_ble_eq_true rfl, by exact Nat.le_of_ble_eq_true rfl⟩ (fun k21 M22 h hk21 H locs hG => ?_)
        refine lv_iload_n hx hb dX10_toInstant_32 rfl (lv_at hl 2 rfl) ?_
        refine lv_iload_n hx hb dX10_toInstant_33 rfl (lv_at hl 3 rfl) ?_
        refine j_conti (va_runV (As := [.int (J a2), .int (J a3)]) (rest := []) ⟨hx, hb, hml, hown, hts⟩ (A_X7_instantOf l hk21 h) (cwV 2 hts (gj_V ml_RX10_253 i_X7_instantOf s_X7_instantOf n_RX7 k_X7_instantOf) rfl rfl rfl (by decide +kernel) ⟨by exact Nat.le_of_ble_eq_true rfl, by exact Nat.le_of_ble_eq_true rfl⟩) (j_preV hK hSX hG (ci := 6) rfl hk21 (by decide)) rfl rfl hl.1 rfl (lv_room (Nat.le_of_ble_eq_true rfl)) dX10_toInstant_34 ⟨by exact Nat.le_of_ble_eq_true rfl, by exact Nat.le_of_ble_eq_true rfl⟩) hG (c2 := 0) (s2 := 0) ⟨by exact Nat.le_of_ble_eq_true rfl, by exact Nat.le_of_ble_eq_true rfl⟩ (fun z23 M24 h H locs hG => ?_)
        rcases h with h | h
        · refine j_conti (va_runS (As := [.int (J z23)]) (rest := []) ⟨hx, hb, hml, hown, hts⟩ (Ao_X10_needInstant l h) (va_cwS 1 hts (gj_S ml_RX10_256 i_X10_needInstant n_RX10 k_X10_needInstant) rfl rfl rfl (by decide +kernel) ⟨by exact Nat.le_of_ble_eq_true rfl, by exact Nat.le_of_ble_eq_true rfl⟩) (j_preS hK hSX hG) rfl rfl hl.1 rfl (lv_room (Nat.le_of_ble_eq_true rfl)) dX10_toInstant_37 ⟨by exact Nat.le_of_ble_eq_true rfl, by exact Nat.le_of_ble_eq_true rfl⟩) hG (c2 := 0) (s2 := 0) ⟨by exact Nat.le_of_ble_eq_true rfl, by exact Nat.le_of_ble_eq_true rfl⟩ (fun z25 M26 h H locs hG => ?_)
          obtain ⟨h, eM26⟩ := h
          rw [eM26] at hG
          rw [hQf]
          exact vx_ret (j_ireti hx hb hr hlocks hG h (by decide) dX10_toInstant_40)
        · refine j_contxi (vx_runS (As := [.int (J z23)]) (rest := []) ⟨hx, hb, hml, hown, hts⟩ (A_X10_needInstant l hst h) (va_cwS 1 hts (gj_S ml_RX10_256 i_X10_needInstant n_RX10 k_X10_needInstant) rfl rfl rfl (by decide +kernel) ⟨by exact Nat.le_of_ble_eq_true rfl, by exact Nat.le_of_ble_eq_true rfl⟩) (j_preS hK hSX hG) rfl rfl hl.1 rfl (lv_room (Nat.le_of_ble_eq_true rfl)) dX10_toInstant_37 ⟨by exact Nat.le_of_ble_eq_true rfl, by exact Nat.le_of_ble_eq_true rfl⟩) hG (c2 := 1) (s2 := 6) ⟨by exact Nat.le_of_ble_eq_true rfl, by exact Nat.le_of_ble_eq_true rfl⟩ (fun x M h ce q H locs hG h1 h2 h3 => ?_) (fun z M h H locs hG => h.elim)
          rw [hQf]
          exact j_xout hlocks hout hG h h1 h2 h3 (by decide)
      · refine j_contxv (vx_runS (As := [.int (J x17)]) (rest := []) ⟨hx, hb, hml, hown, hts⟩ (A_X10_needArgument l hst h) (va_cwS 1 hts (gj_S ml_RX10_72 i_X10_needArgument n_RX10 k_X10_needArgument) rfl rfl rfl (by decide +kernel) ⟨by exact Nat.le_of_ble_eq_true rfl, by exact Nat.le_of_ble_eq_true rfl⟩) (j_preS hK hSX hG) rfl rfl hl.1 rfl (lv_room (Nat.le_of_ble_eq_true rfl)) dX10_toInstant_24 ⟨by exact Nat.le_of_ble_eq_true rfl, by exact Nat.le_of_ble_eq_true rfl⟩) hG (c2 := 1) (s2 := 6) ⟨by exact Nat.le_of_ble_eq_true rfl, by exact Nat.le_of_ble_eq_true rfl⟩ (fun x M h ce q H locs hG h1 h2 h3 => ?_) (fun M h H locs hG => h.elim)
        rw [hQf]
        exact j_xout hlocks hout hG h h1 h2 h3 (by decide)
    obtain ⟨K32, hK32, h⟩ := h
    have jK32 : K32 → ∀ (H : Heap) (locs : List Loc), GM D cy o M s.heap H locs → ∀ ls : Array Slot, lv_has ls 4 [(0, .ref (rA o a0)), (1, .int (J a1)), (2, .int (J a2)), (3, .int (J a3))] → W p l e rm_X10_toInstant s m args below meth c H locs 0 0 Qf (F0 m 23 ls []) := by
      intro hcK32 H locs hG ls hl
      have h := hK32 hcK32
      refine lv_iconst (v := J 0) hx hb dX10_toInstant_23 (by decide) ?_
      exact jK18 0 h H locs hG ls (lv_sub hl [0, 1, 2, 3] rfl)
    refine j_if_eq_b (tgt := 23) hx hb dX10_toInstant_9 (by decide) (fun c33 => ?_) (fun c33 => ?_)
    · have h := h.1 c33
      exact jK32 h H locs hG ls (lv_sub hl [0, 1, 2, 3] rfl)
    · have h := h.2 c33
      refine lv_iload_n hx hb dX10_toInstant_12 rfl (lv_at hl 3 rfl) ?_
      obtain ⟨g34, h⟩ := h
      refine j_conti (va_runS (As := [.int (J a3)]) (rest := []) ⟨hx, hb, hml, hown, hts⟩ (A_X10_isMode l g34) (va_cwS 1 hts (gj_S ml_RX10_250 i_X10_isMode n_RX10 k_X10_isMode) rfl rfl rfl (by decide +kernel) ⟨by exact Nat.le_of_ble_eq_true rfl, by exact Nat.le_of_ble_eq_true rfl⟩) (j_preS hK hSX hG) rfl rfl hl.1 rfl (lv_room (Nat.le_of_ble_eq_true rfl)) dX10_toInstant_13 ⟨by exact Nat.le_of_ble_eq_true rfl, by exact Nat.le_of_ble_eq_true rfl⟩) hG (c2 := 0) (s2 := 0) ⟨by exact Nat.le_of_ble_eq_true rfl, by exact Nat.le_of_ble_eq_true rfl⟩ (fun z35 M36 ez35 H locs hG => ?_)
      obtain ⟨ez35, eM36⟩ := ez35
      subst ez35
      rw [eM36] at hG
      refine j_if_eq_b (tgt := 23) hx hb dX10_toInstant_16 (by decide) (fun c37 => ?_) (fun c37 => ?_)
      · have h := h.1 c37
        exact jK32 h H locs hG ls (lv_sub hl [0, 1, 2, 3] rfl)
      · have h := h.2 c37
        refine lv_iconst (v := J 1) hx hb dX10_toInstant_19 (by decide) ?_
        refine lv_goto (tgt := 24) hx hb dX10_toInstant_20 (by decide) ?_
        exact jK18 1 h H locs hG ls (lv_sub hl [0, 1, 2, 3] rfl)
  · refine j_contxv (vx_runV (As := [.int (J a1)]) (rest := []) ⟨hx, hb, hml, hown, hts⟩ (A_X10_needZone l hst ka0 h) (cwV 1 hts (gj_V ml_RX10_137 i_X10_needZone s_X10_needZone n_RX10 k_X10_needZone) rfl rfl rfl (by decide +kernel) ⟨by exact Nat.le_of_ble_eq_true rfl, by exact Nat.le_of_ble_eq_true rfl⟩) (j_preV hK hSX hG (ci := 9) rfl ka0 (by decide)) rfl rfl hl.1 rfl (lv_room (Nat.le_of_ble_eq_true rfl)) dX10_toInstant_2 ⟨by exact Nat.le_of_ble_eq_true rfl, by exact Nat.le_of_ble_eq_true rfl⟩) hG (c2 := 1) (s2 := 6) ⟨by exact Nat.le_of_ble_eq_true rfl, by exact Nat.le_of_ble_eq_true rfl⟩ (fun x M h ce q H locs hG h1 h2 h3 => ?_) (fun M h H locs hG => h.elim)
    rw [hQf]
    exact j_xout hlocks hout hG h h1 h2 h3 (by decide)

abbrev rom_X10_convert : Room := { frames := 4, cells := 0, slots := 0, locals := 99 }
set_option maxRecDepth 100000 in
set_option maxHeartbeats 4000000 in
theorem Ao_X10_convert (l : Launch) {D : va_G} {cy : Nat → ClassId} {o : Nat} {sK sV : Nat → Nat} {M : jT} {a0 : Int} {a1 : Int} {a2 : Int} {a3 : Int} {a4 : Int} (ka0 : kd a0 = 10) {Q : Int → jT → Prop} (h : wo_X10_convert M a0 a1 a2 a3 a4 Q) : CoI l yX10_convert (wj yX10_convert cX10_convert 6 (some .int)) rom_X10_convert D cy o sK sV M [.ref (rA o a0), .int (J a1), .int (J a2), .int (J a3), .int (J a4)] Q := by
  refine j_ofW (cc := cX10_convert) (maxL := 6) (ret := (some .int)) (by decide) rfl (Nat.le_of_ble_eq_true rfl) ?_
  intro p e s m args below meth c hx hb hr hlocks hml hown hts hK hSX H locs hG ls hl Qf hQf
  have hown : s.vm.findClass RX10 = some m.cls := hown
  have hl : lv_has ls 6 [(0, .ref (rA o a0)), (1, .int (J a1)), (2, .int (J a2)), (3, .int (J a3)), (4, .int (J a4))] := hl
  unfold wo_X10_convert at h
  refine lv_aload_n hx hb dX10_convert_0 rfl (lv_at hl 0 rfl) ?_
  refine lv_iload_n hx hb dX10_convert_1 rfl (lv_at hl 1 rfl) ?_
  refine j_contv (va_runV (As := [.int (J a1)]) (rest := []) ⟨hx, hb, hml, hown, hts⟩ (Ao_X10_needZone l ka0 h) (cwV 1 hts (gj_V ml_RX10_137 i_X10_needZone s_X10_needZone n_RX10 k_X10_needZone) rfl rfl rfl (by decide +kernel) ⟨by exact Nat.le_of_ble_eq_true rfl, by exact Nat.le_of_ble_eq_true rfl⟩) (j_preV hK hSX hG (ci := 9) rfl ka0 (by decide)) rfl rfl hl.1 rfl (lv_room (Nat.le_of_ble_eq_true rfl)) dX10_convert_2 ⟨by exact Nat.le_of_ble_eq_true rfl, by exact Nat.le_of_ble_eq_true rfl⟩) hG (c2 := 0) (s2 := 0) ⟨by exact Nat.le_of_ble_eq_true rfl, by exact Nat.le_of_ble_eq_true rfl⟩ (fun M2 h H locs hG => ?_)
  obtain ⟨h, eM2⟩ := h
  rw [eM2] at hG
  refine lv_aload_n hx hb dX10_convert_5 rfl (lv_at hl 0 rfl) ?_
  refine lv_iload_n hx hb dX10_convert_6 rfl (lv_at hl 3 rfl) ?_
  refine j_contv (va_runV (As := [.int (J a3)]) (rest := []) ⟨hx, hb, hml, hown, hts⟩ (Ao_X10_needZone l ka0 h) (cwV 1 hts (gj_V ml_RX10_137 i_X10_needZone s_X10_needZone n_RX10 k_X10_needZone) rfl rfl rfl (by decide +kernel) ⟨by exact Nat.le_of_ble_eq_true rfl, by exact Nat.le_of_ble_eq_true rfl⟩) (j_preV hK hSX hG (ci := 9) rfl ka0 (by decide)) rfl rfl hl.1 rfl (lv_room (Nat.le_of_ble_eq_true rfl)) dX10_convert_7 ⟨by exact Nat.le_of_ble_eq_true rfl, by exact Nat.le_of_ble_eq_true rfl⟩) hG (c2 := 0) (s2 := 0) ⟨by exact Nat.le_of_ble_eq_true rfl, by exact Nat.le_of_ble_eq_true rfl⟩ (fun M4 h H locs hG => ?_)
  obtain ⟨h, eM4⟩ := h
  rw [eM4] at hG
  refine lv_iload_n hx hb dX10_convert_10 rfl (lv_at hl 2 rfl) ?_
  obtain ⟨g5, h⟩ := h
  refine j_conti (va_runS (As := [.int (J a2)]) (rest := []) ⟨hx, hb, hml, hown, hts⟩ (A_X10_isLocal l g5) (va_cwS 1 hts (gj_S ml_RX10_234 i_X10_isLocal n_RX10 k_X10_isLocal) rfl rfl rfl (by decide +kernel) ⟨by exact Nat.le_of_ble_eq_true rfl, by exact Nat.le_of_ble_eq_true rfl⟩) (j_preS hK hSX hG) rfl rfl hl.1 rfl (lv_room (Nat.le_of_ble_eq_true rfl)) dX10_convert_11 ⟨by exact Nat.le_of_ble_eq_true rfl, by exact Nat.le_of_ble_eq_true rfl⟩) hG (c2 := 0) (s2 := 0) ⟨by exact Nat.le_of_ble_eq_true rfl, by exact Nat.le_of_ble_eq_true rfl⟩ (fun z6 M7 ez6 H locs hG => ?_)
  obtain ⟨ez6, eM7⟩ := ez6
  subst ez6
  rw [eM7] at hG
  obtain ⟨K20, hK20, h⟩ := h
  have jK20 : ∀ (x19 : Int), K20 x19 → ∀ (H : Heap) (locs : List Loc), GM D cy o M s.heap H locs → ∀ ls : Array Slot, lv_has ls 6 [(0, .ref (rA o a0)), (1, .int (J a1)), (2, .int (J a2)), (3, .int (J a3)), (4, .int (J a4))] → W p l e rom_X10_convert s m args below meth c H locs 0 0 Qf (F0 m 30 ls [.int (J x19)]) := by
    intro x19 hcK20 H locs hG ls hl
    have h := hK20 x19 hcK20
    refine j_contv (va_runS (As := [.int (J x19)]) (rest := []) ⟨hx, hb, hml, hown, hts⟩ (Ao_X10_needArgument l h) (va_cwS 1 hts (gj_S ml_RX10_72 i_X10_needArgument n_RX10 k_X10_needArgument) rfl rfl rfl (by decide +kernel) ⟨by exact Nat.le_of_ble_eq_true rfl, by exact Nat.le_of_ble_eq_true rfl⟩) (j_preS hK hSX hG) rfl rfl hl.1 rfl (lv_room (Nat.le_of_ble_eq_true rfl)) dX10_convert_30 ⟨by exact Nat.le_of_ble_eq_true rfl, by exact Nat.le_of_ble_eq_true rfl⟩) hG (c2 := 0) (s2 := 0) ⟨by exact Nat.le_of_ble_eq_true rfl, by exact Nat.le_of_ble_eq_true rfl⟩ (fun M22 h H locs hG => ?_)
    obtain ⟨h, eM22⟩ := h
    rw [eM22] at hG
    refine lv_aload_n hx hb dX10_convert_33 rfl (lv_at hl 0 rfl) ?_
    refine lv_iload_n hx hb dX10_convert_34 rfl (lv_at hl 1 rfl) ?_
    refine j_contr (va_runV (As := [.int (J a1)]) (rest := []) ⟨hx, hb, hml, hown, hts⟩ (A_X10_compiled l ka0 h) (cwV 1 hts (gj_V ml_RX10_144 i_X10_compiled s_X10_compiled n_RX10 k_X10_compiled) rfl rfl rfl (by decide +kernel) ⟨by exact Nat.le_of_ble_eq_true rfl, by exact Nat.le_of_ble_eq_true rfl⟩) (j_preV hK hSX hG (ci := 9) rfl ka0 (by decide)) rfl rfl hl.1 rfl (lv_room (Nat.le_of_ble_eq_true rfl)) dX10_convert_35 ⟨by exact Nat.le_of_ble_eq_true rfl, by exact Nat.le_of_ble_eq_true rfl⟩) hG (c2 := 0) (s2 := 0) ⟨by exact Nat.le_of_ble_eq_true rfl, by exact Nat.le_of_ble_eq_true rfl⟩ (fun k23 M24 h hk23 H locs hG => ?_)
    refine lv_iload_n hx hb dX10_convert_38 rfl (lv_at hl 2 rfl) ?_
    refine lv_iload hx hb dX10_convert_39 (lv_at hl 4 rfl) ?_
    refine j_conti (va_runV (As := [.int (J a2), .int (J a4)]) (rest := []) ⟨hx, hb, hml, hown, hts⟩ (A_X7_instantOf l hk23 h) (cwV 2 hts (gj_V ml_RX10_253 i_X7_instantOf s_X7_instantOf n_RX7 k_X7_instantOf) rfl rfl rfl (by decide +kernel) ⟨by exact Nat.le_of_ble_eq_true rfl, by exact Nat.le_of_ble_eq_true rfl⟩) (j_preV hK hSX hG (ci := 6) rfl hk23 (by decide)) rfl rfl hl.1 rfl (lv_room (Nat.le_of_ble_eq_true rfl)) dX10_convert_41 ⟨by exact Nat.le_of_ble_eq_true rfl, by exact Nat.le_of_ble_eq_true rfl⟩) hG (c2 := 0) (s2 := 0) ⟨by exact Nat.le_of_ble_eq_true rfl, by exact Nat.le_of_ble_eq_true rfl⟩ (fun z25 M26 h H locs hG => ?_)
    refine j_conti (va_runS (As := [.int (J z25)]) (rest := []) ⟨hx, hb, hml, hown, hts⟩ (Ao_X10_needInstant l h) (va_cwS 1 hts (gj_S ml_RX10_256 i_X10_needInstant n_RX10 k_X10_needInstant) rfl rfl rfl (by decide +kernel) ⟨by exact Nat.le_of_ble_eq_true rfl, by exact Nat.le_of_ble_eq_true rfl⟩) (j_preS hK hSX hG) rfl rfl hl.1 rfl (lv_room (Nat.le_of_ble_eq_true rfl)) dX10_convert_44 ⟨by exact Nat.le_of_ble_eq_true rfl, by exact Nat.le_of_ble_eq_true rfl⟩) hG (c2 := 0) (s2 := 0) ⟨by exact Nat.le_of_ble_eq_true rfl, by exact Nat.le_of_ble_eq_true rfl⟩ (fun z27 M28 h H locs hG => ?_)
    obtain ⟨h, eM28⟩ := h
    rw [eM28] at hG
    refine lv_istore (lv' := [(5, .int (J z27)), (0, .ref (rA o a0)), (1, .int (J a1)), (2, .int (J a2)), (3, .int (J a3)), (4, .int (J a4))]) hx hb dX10_convert_47 hl (by decide) rfl (fun ls hl => ?_)
    refine lv_iload hx hb dX10_convert_49 (lv_at hl 0 rfl) ?_
    refine lv_aload_n hx hb dX10_convert_51 rfl (lv_at hl 1 rfl) ?_
    refine lv_iload_n hx hb dX10_convert_52 rfl (lv_at hl 4 rfl) ?_
    refine j_contr (va_runV (As := [.int (J a3)]) (rest := [.int (J z27)]) ⟨hx, hb, hml, hown, hts⟩ (A_X10_compiled l ka0 h) (cwV 1 hts (gj_V ml_RX10_144 i_X10_compiled s_X10_compiled n_RX10 k_X10_compiled) rfl rfl rfl (by decide +kernel) ⟨by exact Nat.le_of_ble_eq_true rfl, by exact Nat.le_of_ble_eq_true rfl⟩) (j_preV hK hSX hG (ci := 9) rfl ka0 (by decide)) rfl rfl hl.1 rfl (lv_room (Nat.le_of_ble_eq_true rfl)) dX10_convert_53 ⟨by exact Nat.le_of_ble_eq_true rfl, by exact Nat.le_of_ble_eq_true rfl⟩) hG (c2 := 0) (s2 := 0) ⟨by exact Nat.le_of_ble_eq_true rfl, by exact Nat.le_of_ble_eq_true rfl⟩ (fun k29 M30 h hk29 H locs hG => ?_)
    refine lv_iload hx hb dX10_convert_56 (lv_at hl 0 rfl) ?_
    refine j_conti (va_runV (As := [.int (J z27)]) (rest := [.int (J z27)]) ⟨hx, hb, hml, hown, hts⟩ (A_X7_offsetAt l hk29 h) (cwV 1 hts (gj_V ml_RX10_209 i_X7_offsetAt s_X7_offsetAt n_RX7 k_X7_offsetAt) rfl rfl rfl (by decide +kernel) ⟨by exact Nat.le_of_ble_eq_true rfl, by exact Nat.le_of_ble_eq_true rfl⟩) (j_preV hK hSX hG (ci := 6) rfl hk29 (by decide)) rfl rfl hl.1 rfl (lv_room (Nat.le_of_ble_eq_true rfl)) dX10_convert_58 ⟨by exact Nat.le_of_ble_eq_true rfl, by exact Nat.le_of_ble_eq_true rfl⟩) hG (c2 := 0) (s2 := 0) ⟨by exact Nat.le_of_ble_eq_true rfl, by exact Nat.le_of_ble_eq_true rfl⟩ (fun z31 M32 h H locs hG => ?_)
    obtain ⟨h, eM32⟩ := h
    rw [eM32] at hG
    refine j_iadd hx hb dX10_convert_61 ?_
    rw [hQf]
    exact j_ireti hx hb hr hlocks hG h (by decide) dX10_convert_62
  obtain ⟨K38, hK38, h⟩ := h
  have jK38 : K38 → ∀ (H : Heap) (locs : List Loc), GM D cy o M s.heap H locs → ∀ ls : Array Slot, lv_has ls 6 [(0, .ref (rA o a0)), (1, .int (J a1)), (2, .int (J a2)), (3, .int (J a3)), (4, .int (J a4))] → W p l e rom_X10_convert s m args below meth c H locs 0 0 Qf (F0 m 29 ls []) := by
    intro hcK38 H locs hG ls hl
    have h := hK38 hcK38
    refine lv_iconst (v := J 0) hx hb dX10_convert_29 (by decide) ?_
    exact jK20 0 h H locs hG ls (lv_sub hl [0, 1, 2, 3, 4] rfl)
  refine j_if_eq_b (tgt := 29) hx hb dX10_convert_14 (by decide) (fun c39 => ?_) (fun c39 => ?_)
  · have h := h.1 c39
    exact jK38 h H locs hG ls (lv_sub hl [0, 1, 2, 3, 4] rfl)
  · have h := h.2 c39
    refine lv_iload hx hb dX10_convert_17 (lv_at hl 4 rfl) ?_
    obtain ⟨g40, h⟩ := h
    refine j_conti (va_runS (As := [.int (J a4)]) (rest := []) ⟨hx, hb, hml, hown, hts⟩ (A_X10_isMode l g40) (va_cwS 1 hts (gj_S ml_RX10_250 i_X10_isMode n_RX10 k_X10_isMode) rfl rfl rfl (by decide +kernel) ⟨by exact Nat.le_of_ble_eq_true rfl, by exact Nat.le_of_ble_eq_true rfl⟩) (j_preS hK hSX hG) rfl rfl hl.1 rfl (lv_room (Nat.le_of_ble_eq_true rfl)) dX10_convert_19 ⟨by exact Nat.le_of_ble_eq_true rfl, by exact Nat.le_of_ble_eq_true rfl⟩) hG (c2 := 0) (s2 := 0) ⟨by exact Nat.le_of_ble_eq_true rfl, by exact Nat.le_of_ble_eq_true rfl⟩ (fun z41 M42 ez41 H locs hG => ?_)
    obtain ⟨ez41, eM42⟩ := ez41
    subst ez41
    rw [eM42] at hG
    refine j_if_eq_b (tgt := 29) hx hb dX10_convert_22 (by decide) (fun c43 => ?_) (fun c43 => ?_)
    · have h := h.1 c43
      exact jK38 h H locs hG ls (lv_sub hl [0, 1, 2, 3, 4] rfl)
    · have h := h.2 c43
      refine lv_iconst (v := J 1) hx hb dX10_convert_25 (by decide) ?_
      refine lv_goto (tgt := 30) hx hb dX10_convert_26 (by decide) ?_
      exact jK20 1 h H locs hG ls (lv_sub hl [0, 1, 2, 3, 4] rfl)
abbrev rm_X10_convert : Room := { frames := 8, cells := 1, slots := 6, locals := 131 }
set_option maxRecDepth 100000 in
set_option maxHeartbeats 4000000 in
theorem A_X10_convert (l : Launch) (hst : l.stackTraces = false) {D : va_G} {cy : Nat → ClassId} {o : Nat} {sK sV : Nat → Nat} {M : jT} {a0 : Int} {a1 : Int} {a2 : Int} {a3 : Int} {a4 : Int} (ka0 : kd a0 = 10) {Q : Int → jT → Prop} {X : Nat → jT → Prop} (h : wp_X10_convert M a0 a1 a2 a3 a4 Q X) : CxI l yX10_convert (wj yX10_convert cX10_convert 6 (some .int)) rm_X10_convert D cy o sK sV M [.ref (rA o a0), .int (J a1), .int (J a2), .int (J a3), .int (J a4)] Q X := by
  refine j_ofWx (cc := cX10_convert) (maxL := 6) (ret := (some .int)) (by decide) rfl (Nat.le_of_ble_eq_true rfl) ?_
  intro p e s m args below meth c hx hb hr hlocks hout hml hown hts hK hSX H locs hsz hG ls hl Qf hQf
  have hown : s.vm.findClass RX10 = some m.cls := hown
  have hl : lv_has ls 6 [(0, .ref (rA o a0)), (1, .int (J a1)), (2, .int (J a2)), (3, .int (J a3)), (4, .int (J a4))] := hl
  unfold wp_X10_convert at h
  refine lv_aload_n hx hb dX10_convert_0 rfl (lv_at hl 0 rfl) ?_
  refine lv_iload_n hx hb dX10_convert_1 rfl (lv_at hl 1 rfl) ?_
  rcases h with h | h
  · refine j_contv (va_runV (As := [.int (J a1)]) (rest := []) ⟨hx, hb, hml, hown, hts⟩ (Ao_X10_needZone l ka0 h) (cwV 1 hts (gj_V ml_RX10_137 i_X10_needZone s_X10_needZone n_RX10 k_X10_needZone) rfl rfl rfl (by decide +kernel) ⟨by exact Nat.le_of_ble_eq_true rfl, by exact Nat.le_of_ble_eq_true rfl⟩) (j_preV hK hSX hG (ci := 9) rfl ka0 (by decide)) rfl rfl hl.1 rfl (lv_room (Nat.le_of_ble_eq_true rfl)) dX10_convert_2 ⟨by exact Nat.le_of_ble_eq_true rfl, by exact Nat.le_of_ble_eq_true rfl⟩) hG (c2 := 0) (s2 := 0) ⟨by exact Nat.le_of_ble_eq_true rfl, by exact Nat.le_of_ble_eq_true rfl⟩ (fun M2 h H locs hG => ?_)
    obtain ⟨h, eM2⟩ := h
    rw [eM2] at hG
    refine lv_aload_n hx hb dX10_convert_5 rfl (lv_at hl 0 rfl) ?_
    refine lv_iload_n hx hb dX10_convert_6 rfl (lv_at hl 3 rfl) ?_
    rcases h with h | h
    · refine j_contv (va_runV (As := [.int (J a3)]) (rest := []) ⟨hx, hb, hml, hown, hts⟩ (Ao_X10_needZone l ka0 h) (cwV 1 hts (gj_V ml_RX10_137 i_X10_needZone s_X10_needZone n_RX10 k_X10_needZone) rfl rfl rfl (by decide +kernel) ⟨by exact Nat.le_of_ble_eq_true rfl, by exact Nat.le_of_ble_eq_true rfl⟩) (j_preV hK hSX hG (ci := 9) rfl ka0 (by decide)) rfl rfl hl.1 rfl (lv_room (Nat.le_of_ble_eq_true rfl)) dX10_convert_7 ⟨by exact Nat.le_of_ble_eq_true rfl, by exact Nat.le_of_ble_eq_true rfl⟩) hG (c2 := 0) (s2 := 0) ⟨by exact Nat.le_of_ble_eq_true rfl, by exact Nat.le_of_ble_eq_true rfl⟩ (fun M4 h H locs hG => ?_)
      obtain ⟨h, eM4⟩ := h
      rw [eM4] at hG
      refine lv_iload_n hx hb dX10_convert_10 rfl (lv_at hl 2 rfl) ?_
      obtain ⟨g5, h⟩ := h
      refine j_conti (va_runS (As := [.int (J a2)]) (rest := []) ⟨hx, hb, hml, hown, hts⟩ (A_X10_isLocal l g5) (va_cwS 1 hts (gj_S ml_RX10_234 i_X10_isLocal n_RX10 k_X10_isLocal) rfl rfl rfl (by decide +kernel) ⟨by exact Nat.le_of_ble_eq_true rfl, by exact Nat.le_of_ble_eq_true rfl⟩) (j_preS hK hSX hG) rfl rfl hl.1 rfl (lv_room (Nat.le_of_ble_eq_true rfl)) dX10_convert_11 ⟨by exact Nat.le_of_ble_eq_true rfl, by exact Nat.le_of_ble_eq_true rfl⟩) hG (c2 := 0) (s2 := 0) ⟨by exact Nat.le_of_ble_eq_true rfl, by exact Nat.le_of_ble_eq_true rfl⟩ (fun z6 M7 ez6 H locs hG => ?_)
      obtain ⟨ez6, eM7⟩ := ez6
      subst ez6
      rw [eM7] at hG
      obtain ⟨K20, hK20, h⟩ := h
      have jK20 : ∀ (x19 : Int), K20 x19 → ∀ (H : Heap) (locs : List Loc), GM D cy o M s.heap H locs → ∀ ls : Array Slot, lv_has ls 6 [(0, .ref (rA o a0)), (1, .int (J a1)), (2, .int (J a2)), (3, .int (J a3)), (4, .int (J a4))] → W p l e rm_X10_convert s m args below meth c H locs 0 0 Qf (F0 m 30 ls [.int (J x19)]) := by
        intro x19 hcK20 H locs hG ls hl
        have h := hK20 x19 hcK20
        rcases h with h | h
        · refine j_contv (va_runS (As := [.int (J x19)]) (rest := []) ⟨hx, hb, hml, hown, hts⟩ (Ao_X10_needArgument l h) (va_cwS 1 hts (gj_S ml_RX10_72 i_X10_needArgument n_RX10 k_X10_needArgument) rfl rfl rfl (by decide +kernel) ⟨by exact Nat.le_of_ble_eq_true rfl, by exact Nat.le_of_ble_eq_true rfl⟩) (j_preS hK hSX hG) rfl rfl hl.1 rfl (lv_room (Nat.le_of_ble_eq_true rfl)) dX10_convert_30 ⟨by exact Nat.le_of_ble_eq_true rfl, by exact Nat.le_of_ble_eq_true rfl⟩) hG (c2 := 0) (s2 := 0) ⟨by exact Nat.le_of_ble_eq_true rfl, by exact Nat.le_of_ble_eq_true rfl⟩ (fun M22 h H locs hG => ?_)
          obtain ⟨h, eM22⟩ := h
          rw [eM22] at hG
          refine lv_aload_n hx hb dX10_convert_33 rfl (lv_at hl 0 rfl) ?_
          refine lv_iload_n hx hb dX10_convert_34 rfl (lv_at hl 1 rfl) ?_
          refine j_contr (va_runV (As := [.int (J a1)]) (rest := []) ⟨hx, hb, hml, hown, hts⟩ (A_X10_compiled l ka0 h) (cwV 1 hts (gj_V ml_RX10_144 i_X10_compiled s_X10_compiled n_RX10 k_X10_compiled) rfl rfl rfl (by decide +kernel) ⟨by exact Nat.le_of_ble_eq_true rfl, by exact Nat.le_of_ble_eq_true rfl⟩) (j_preV hK hSX hG (ci := 9) rfl ka0 (by decide)) rfl rfl hl.1 rfl (lv_room (Nat.le_of_ble_eq_true rfl)) dX10_convert_35 ⟨by exact Nat.le_of_ble_eq_true rfl, by exact Nat.le_of_ble_eq_true rfl⟩) hG (c2 := 0) (s2 := 0) ⟨by exact Nat.le_of_ble_eq_true rfl, by exact Nat.le_of_ble_eq_true rfl⟩ (fun k23 M24 h hk23 H locs hG => ?_)
          refine lv_iload_n hx hb dX10_convert_38 rfl (lv_at hl 2 rfl) ?_
          refine lv_iload hx hb dX10_convert_39 (lv_at hl 4 rfl) ?_
          refine j_conti (va_runV (As := [.int (J a2), .int (J a4)]) (rest := []) ⟨hx, hb, hml, hown, hts⟩ (A_X7_instantOf l hk23 h) (cwV 2 hts (gj_V ml_RX10_253 i_X7_instantOf s_X7_instantOf n_RX7 k_X7_instantOf) rfl rfl rfl (by decide +kernel) ⟨by exact Nat.le_of_ble_eq_true rfl, by exact Nat.le_of_ble_eq_true rfl⟩) (j_preV hK hSX hG (ci := 6) rfl hk23 (by decide)) rfl rfl hl.1 rfl (lv_room (Nat.le_of_ble_eq_true rfl)) dX10_convert_41 ⟨by exact Nat.le_of_ble_eq_true rfl, by exact Nat.le_of_ble_eq_true rfl⟩) hG (c2 := 0) (s2 := 0) ⟨by exact Nat.le_of_ble_eq_true rfl, by exact Nat.le_of_ble_eq_true rfl⟩ (fun z25 M26 h H locs hG => ?_)
          rcases h with h | h
          · refine j_conti (va_runS (As := [.int (J z25)]) (rest := []) ⟨hx, hb, hml, hown, hts⟩ (Ao_X10_needInstant l h) (va_cwS 1 hts (gj_S ml_RX10_256 i_X10_needInstant n_RX10 k_X10_needInstant) rfl rfl rfl (by decide +kernel) ⟨by exact Nat.le_of_ble_eq_true rfl, by exact Nat.le_of_ble_eq_true rfl⟩) (j_preS hK hSX hG) rfl rfl hl.1 rfl (lv_room (Nat.le_of_ble_eq_true rfl)) dX10_convert_44 ⟨by exact Nat.le_of_ble_eq_true rfl, by exact Nat.le_of_ble_eq_true rfl⟩) hG (c2 := 0) (s2 := 0) ⟨by exact Nat.le_of_ble_eq_true rfl, by exact Nat.le_of_ble_eq_true rfl⟩ (fun z27 M28 h H locs hG => ?_)
            obtain ⟨h, eM28⟩ := h
            rw [eM28] at hG
            refine lv_istore (lv' := [(5, .int (J z27)), (0, .ref (rA o a0)), (1, .int (J a1)), (2, .int (J a2)), (3, .int (J a3)), (4, .int (J a4))]) hx hb dX10_convert_47 hl (by decide) rfl (fun ls hl => ?_)
            refine lv_iload hx hb dX10_convert_49 (lv_at hl 0 rfl) ?_
            refine lv_aload_n hx hb dX10_convert_51 rfl (lv_at hl 1 rfl) ?_
            refine lv_iload_n hx hb dX10_convert_52 rfl (lv_at hl 4 rfl) ?_
            refine j_contr (va_runV (As := [.int (J a3)]) (rest := [.int (J z27)]) ⟨hx, hb, hml, hown, hts⟩ (A_X10_compiled l ka0 h) (cwV 1 hts (gj_V ml_RX10_144 i_X10_compiled s_X10_compiled n_RX10 k_X10_compiled) rfl rfl rfl (by decide +kernel) ⟨by exact Nat.le_of_ble_eq_true rfl, by exact Nat.le_of_ble_eq_true rfl⟩) (j_preV hK hSX hG (ci := 9) rfl ka0 (by decide)) rfl rfl hl.1 rfl (lv_room (Nat.le_of_ble_eq_true rfl)) dX10_convert_53 ⟨by exact Nat.le_of_ble_eq_true rfl, by exact Nat.le_of_ble_eq_true rfl⟩) hG (c2 := 0) (s2 := 0) ⟨by exact Nat.le_of_ble_eq_true rfl, by exact Nat.le_of_ble_eq_true rfl⟩ (fun k29 M30 h hk29 H locs hG => ?_)
            refine lv_iload hx hb dX10_convert_56 (lv_at hl 0 rfl) ?_
            refine j_conti (va_runV (As := [.int (J z27)]) (rest := [.int (J z27)]) ⟨hx, hb, hml, hown, hts⟩ (A_X7_offsetAt l hk29 h) (cwV 1 hts (gj_V ml_RX10_209 i_X7_offsetAt s_X7_offsetAt n_RX7 k_X7_offsetAt) rfl rfl rfl (by decide +kernel) ⟨by exact Nat.le_of_ble_eq_true rfl, by exact Nat.le_of_ble_eq_true rfl⟩) (j_preV hK hSX hG (ci := 6) rfl hk29 (by decide)) rfl rfl hl.1 rfl (lv_room (Nat.le_of_ble_eq_true rfl)) dX10_convert_58 ⟨by exact Nat.le_of_ble_eq_true rfl, by exact Nat.le_of_ble_eq_true rfl⟩) hG (c2 := 0) (s2 := 0) ⟨by exact Nat.le_of_ble_eq_true rfl, by exact Nat.le_of_ble_eq_true rfl⟩ (fun z31 M32 h H locs hG => ?_)
            obtain ⟨h, eM32⟩ := h
            rw [eM32] at hG
            refine j_iadd hx hb dX10_convert_61 ?_
            rw [hQf]
            exact vx_ret (j_ireti hx hb hr hlocks hG h (by decide) dX10_convert_62)
          · refine j_contxi (vx_runS (As := [.int (J z25)]) (rest := []) ⟨hx, hb, hml, hown, hts⟩ (A_X10_needInstant l hst h) (va_cwS 1 hts (gj_S ml_RX10_256 i_X10_needInstant n_RX10 k_X10_needInstant) rfl rfl rfl (by decide +kernel) ⟨by exact Nat.le_of_ble_eq_true rfl, by exact Nat.le_of_ble_eq_true rfl⟩) (j_preS hK hSX hG) rfl rfl hl.1 rfl (lv_room (Nat.le_of_ble_eq_true rfl)) dX10_convert_44 ⟨by exact Nat.le_of_ble_eq_true rfl, by exact Nat.le_of_ble_eq_true rfl⟩) hG (c2 := 1) (s2 := 6) ⟨by exact Nat.le_of_ble_eq_true rfl, by exact Nat.le_of_ble_eq_true rfl⟩ (fun x M h ce q H locs hG h1 h2 h3 => ?_) (fun z M h H locs hG => h.elim)
            rw [hQf]
            exact j_xout hlocks hout hG h h1 h2 h3 (by decide)
        · refine j_contxv (vx_runS (As := [.int (J x19)]) (rest := []) ⟨hx, hb, hml, hown, hts⟩ (A_X10_needArgument l hst h) (va_cwS 1 hts (gj_S ml_RX10_72 i_X10_needArgument n_RX10 k_X10_needArgument) rfl rfl rfl (by decide +kernel) ⟨by exact Nat.le_of_ble_eq_true rfl, by exact Nat.le_of_ble_eq_true rfl⟩) (j_preS hK hSX hG) rfl rfl hl.1 rfl (lv_room (Nat.le_of_ble_eq_true rfl)) dX10_convert_30 ⟨by exact Nat.le_of_ble_eq_true rfl, by exact Nat.le_of_ble_eq_true rfl⟩) hG (c2 := 1) (s2 := 6) ⟨by exact Nat.le_of_ble_eq_true rfl, by exact Nat.le_of_ble_eq_true rfl⟩ (fun x M h ce q H locs hG h1 h2 h3 => ?_) (fun M h H locs hG => h.elim)
          rw [hQf]
          exact j_xout hlocks hout hG h h1 h2 h3 (by decide)
      obtain ⟨K38, hK38, h⟩ := h
      have jK38 : K38 → ∀ (H : Heap) (locs : List Loc), GM D cy o M s.heap H locs → ∀ ls : Array Slot, lv_has ls 6 [(0, .ref (rA o a0)), (1, .int (J a1)), (2, .int (J a2)), (3, .int (J a3)), (4, .int (J a4))] → W p l e rm_X10_convert s m args below meth c H locs 0 0 Qf (F0 m 29 ls []) := by
        intro hcK38 H locs hG ls hl
        have h := hK38 hcK38
        refine lv_iconst (v := J 0) hx hb dX10_convert_29 (by decide) ?_
        exact jK20 0 h H locs hG ls (lv_sub hl [0, 1, 2, 3, 4] rfl)
      refine j_if_eq_b (tgt := 29) hx hb dX10_convert_14 (by decide) (fun c39 => ?_) (fun c39 => ?_)
      · have h := h.1 c39
        exact jK38 h H locs hG ls (lv_sub hl [0, 1, 2, 3, 4] rfl)
      · have h := h.2 c39
        refine lv_iload hx hb dX10_convert_17 (lv_at hl 4 rfl) ?_
        obtain ⟨g40, h⟩ := h
        refine j_conti (va_runS (As := [.int (J a4)]) (rest := []) ⟨hx, hb, hml, hown, hts⟩ (A_X10_isMode l g40) (va_cwS 1 hts (gj_S ml_RX10_250 i_X10_isMode n_RX10 k_X10_isMode) rfl rfl rfl (by decide +kernel) ⟨by exact Nat.le_of_ble_eq_true rfl, by exact Nat.le_of_ble_eq_true rfl⟩) (j_preS hK hSX hG) rfl rfl hl.1 rfl (lv_room (Nat.le_of_ble_eq_true rfl)) dX10_convert_19 ⟨by exact Nat.le_of_ble_eq_true rfl, by exact Nat.le_of_ble_eq_true rfl⟩) hG (c2 := 0) (s2 := 0) ⟨by exact Nat.le_of_ble_eq_true rfl, by exact Nat.le_of_ble_eq_true rfl⟩ (fun z41 M42 ez41 H locs hG => ?_)
        obtain ⟨ez41, eM42⟩ := ez41
        subst ez41
        rw [eM42] at hG
        refine j_if_eq_b (tgt := 29) hx hb dX10_convert_22 (by decide) (fun c43 => ?_) (fun c43 => ?_)
        · have h := h.1 c43
          exact jK38 h H locs hG ls (lv_sub hl [0, 1, 2, 3, 4] rfl)
        · have h := h.2 c43
          refine lv_iconst (v := J 1) hx hb dX10_convert_25 (by decide) ?_
          refine lv_goto (tgt := 30) hx hb dX10_convert_26 (by decide) ?_
          exact jK20 1 h H locs hG ls (lv_sub hl [0, 1, 2, 3, 4] rfl)
    · refine j_contxv (vx_runV (As := [.int (J a3)]) (rest := []) ⟨hx, hb, hml, hown, hts⟩ (A_X10_needZone l hst ka0 h) (cwV 1 hts (gj_V ml_RX10_137 i_X10_needZone s_X10_needZone n_RX10 k_X10_needZone) rfl rfl rfl (by decide +kernel) ⟨by exact Nat.le_of_ble_eq_true rfl, by exact Nat.le_of_ble_eq_true rfl⟩) (j_preV hK hSX hG (ci := 9) rfl ka0 (by decide)) rfl rfl hl.1 rfl (lv_room (Nat.le_of_ble_eq_true rfl)) dX10_convert_7 ⟨by exact Nat.le_of_ble_eq_true rfl, by exact Nat.le_of_ble_eq_true rfl⟩) hG (c2 := 1) (s2 := 6) ⟨by exact Nat.le_of_ble_eq_true rfl, by exact Nat.le_of_ble_eq_true rfl⟩ (fun x M h ce q H locs hG h1 h2 h3 => ?_) (fun M h H locs hG => h.elim)
      rw [hQf]
      exact j_xout hlocks hout hG h h1 h2 h3 (by decide)
  · refine j_contxv (vx_runV (As := [.int (J a1)]) (rest := []) ⟨hx, hb, hml, hown, hts⟩ (A_X10_needZone l hst ka0 h) (cwV 1 hts (gj_V ml_RX10_137 i_X10_needZone s_X10_needZone n_RX10 k_X10_needZone) rfl rfl rfl (by decide +kernel) ⟨by exact Nat.le_of_ble_eq_true rfl, by exact Nat.le_of_ble_eq_true rfl⟩) (j_preV hK hSX hG (ci := 9) rfl ka0 (by decide)) rfl rfl hl.1 rfl (lv_room (Nat.le_of_ble_eq_true rfl)) dX10_convert_2 ⟨by exact Nat.le_of_ble_eq_true rfl, by exact Nat.le_of_ble_eq_true rfl⟩) hG (c2 := 1) (s2 := 6) ⟨by exact Nat.le_of_ble_eq_true rfl, by exact Nat.le_of_ble_eq_true rfl⟩ (fun x M h ce q H locs hG h1 h2 h3 => ?_) (fun M h H locs hG => h.elim)
    rw [hQf]
    exact j_xout hlocks hout hG h h1 h2 h3 (by decide)

abbrev rm_X7_beginningOf : Room := { frames := 3, cells := 0, slots := 0, locals := 71 }
set_option maxRecDepth 100000 in
set_option maxHeartbeats 4000000 in
theorem A_X7_beginningOf (l : Launch) {D : va_G} {cy : Nat → ClassId} {o : Nat} {sK sV : Nat → Nat} {M : jT} {a0 : Int} {a1 : Int} (ka0 : kd a0 = 7) {Q : Int → jT → Prop} (h : wp_X7_beginningOf M a0 a1 Q) : CoI l yX7_beginningOf (wj yX7_beginningOf cX7_beginningOf 2 (some .int)) rm_X7_beginningOf D cy o sK sV M [.ref (rA o a0), .int (J a1)] Q := by
  refine j_ofW (cc := cX7_beginningOf) (maxL := 2) (ret := (some .int)) (by decide) rfl (Nat.le_of_ble_eq_true rfl) ?_
  intro p e s m args below meth c hx hb hr hlocks hml hown hts hK hSX H locs hG ls hl Qf hQf
  have hown : s.vm.findClass RX7 = some m.cls := hown
  have hl : lv_has ls 2 [(0, .ref (rA o a0)), (1, .int (J a1))] := hl
  unfold wp_X7_beginningOf at h
  refine lv_aload_n hx hb dX7_beginningOf_0 rfl (lv_at hl 0 rfl) ?_
  refine lv_sipush (v := J 1440) hx hb dX7_beginningOf_1 (by decide) ?_
  refine lv_iload_n hx hb dX7_beginningOf_4 rfl (lv_at hl 1 rfl) ?_
  refine j_imul hx hb dX7_beginningOf_5 ?_
  refine lv_iconst (v := J 2) hx hb dX7_beginningOf_6 (by decide) ?_
  refine j_conti (va_runV (As := [.int (J (1440 * a1)), .int (J 2)]) (rest := []) ⟨hx, hb, hml, hown, hts⟩ (A_X7_instantOf l ka0 h) (cwV 2 hts (gj_V ml_RX7_121 i_X7_instantOf s_X7_instantOf n_RX7 k_X7_instantOf) rfl rfl rfl (by decide +kernel) ⟨by exact Nat.le_of_ble_eq_true rfl, by exact Nat.le_of_ble_eq_true rfl⟩) (j_preV hK hSX hG (ci := 6) rfl ka0 (by decide)) rfl rfl hl.1 rfl (lv_room (Nat.le_of_ble_eq_true rfl)) dX7_beginningOf_7 ⟨by exact Nat.le_of_ble_eq_true rfl, by exact Nat.le_of_ble_eq_true rfl⟩) hG (c2 := 0) (s2 := 0) ⟨by exact Nat.le_of_ble_eq_true rfl, by exact Nat.le_of_ble_eq_true rfl⟩ (fun z1 M2 h H locs hG => ?_)
  rw [hQf]
  exact j_ireti hx hb hr hlocks hG h (by decide) dX7_beginningOf_10

abbrev rom_X10_dayLength : Room := { frames := 4, cells := 0, slots := 0, locals := 99 }
set_option maxRecDepth 100000 in
set_option maxHeartbeats 4000000 in
theorem Ao_X10_dayLength (l : Launch) {D : va_G} {cy : Nat → ClassId} {o : Nat} {sK sV : Nat → Nat} {M : jT} {a0 : Int} {a1 : Int} {a2 : Int} (ka0 : kd a0 = 10) {Q : Int → jT → Prop} (h : wo_X10_dayLength M a0 a1 a2 Q) : CoI l yX10_dayLength (wj yX10_dayLength cX10_dayLength 4 (some .int)) rom_X10_dayLength D cy o sK sV M [.ref (rA o a0), .int (J a1), .int (J a2)] Q := by
  refine j_ofW (cc := cX10_dayLength) (maxL := 4) (ret := (some .int)) (by decide) rfl (Nat.le_of_ble_eq_true rfl) ?_
  intro p e s m args below meth c hx hb hr hlocks hml hown hts hK hSX H locs hG ls hl Qf hQf
  have hown : s.vm.findClass RX10 = some m.cls := hown
  have hl : lv_has ls 4 [(0, .ref (rA o a0)), (1, .int (J a1)), (2, .int (J a2))] := hl
  unfold wo_X10_dayLength at h
  refine lv_aload_n hx hb dX10_dayLength_0 rfl (lv_at hl 0 rfl) ?_
  refine lv_iload_n hx hb dX10_dayLength_1 rfl (lv_at hl 1 rfl) ?_
  refine j_contv (va_runV (As := [.int (J a1)]) (rest := []) ⟨hx, hb, hml, hown, hts⟩ (Ao_X10_needZone l ka0 h) (cwV 1 hts (gj_V ml_RX10_137 i_X10_needZone s_X10_needZone n_RX10 k_X10_needZone) rfl rfl rfl (by decide +kernel) ⟨by exact Nat.le_of_ble_eq_true rfl, by exact Nat.le_of_ble_eq_true rfl⟩) (j_preV hK hSX hG (ci := 9) rfl ka0 (by decide)) rfl rfl hl.1 rfl (lv_room (Nat.le_of_ble_eq_true rfl)) dX10_dayLength_2 ⟨by exact Nat.le_of_ble_eq_true rfl, by exact Nat.le_of_ble_eq_true rfl⟩) hG (c2 := 0) (s2 := 0) ⟨by exact Nat.le_of_ble_eq_true rfl, by exact Nat.le_of_ble_eq_true rfl⟩ (fun M2 h H locs hG => ?_)
  obtain ⟨h, eM2⟩ := h
  rw [eM2] at hG
  refine lv_iload_n hx hb dX10_dayLength_5 rfl (lv_at hl 2 rfl) ?_
  obtain ⟨g3, h⟩ := h
  refine j_conti (va_runS (As := [.int (J a2)]) (rest := []) ⟨hx, hb, hml, hown, hts⟩ (A_X10_isDay l g3) (va_cwS 1 hts (gj_S ml_RX10_85 i_X10_isDay n_RX10 k_X10_isDay) rfl rfl rfl (by decide +kernel) ⟨by exact Nat.le_of_ble_eq_true rfl, by exact Nat.le_of_ble_eq_true rfl⟩) (j_preS hK hSX hG) rfl rfl hl.1 rfl (lv_room (Nat.le_of_ble_eq_true rfl)) dX10_dayLength_6 ⟨by exact Nat.le_of_ble_eq_true rfl, by exact Nat.le_of_ble_eq_true rfl⟩) hG (c2 := 0) (s2 := 0) ⟨by exact Nat.le_of_ble_eq_true rfl, by exact Nat.le_of_ble_eq_true rfl⟩ (fun z4 M5 ez4 H locs hG => ?_)
  obtain ⟨ez4, eM5⟩ := ez4
  subst ez4
  rw [eM5] at hG
  refine j_contv (va_runS (As := [.int (J (b2i (pb_X10_isDay a2)))]) (rest := []) ⟨hx, hb, hml, hown, hts⟩ (Ao_X10_needIndex l h) (va_cwS 1 hts (gj_S ml_RX10_88 i_X10_needIndex n_RX10 k_X10_needIndex) rfl rfl rfl (by decide +kernel) ⟨by exact Nat.le_of_ble_eq_true rfl, by exact Nat.le_of_ble_eq_true rfl⟩) (j_preS hK hSX hG) rfl rfl hl.1 rfl (lv_room (Nat.le_of_ble_eq_true rfl)) dX10_dayLength_9 ⟨by exact Nat.le_of_ble_eq_true rfl, by exact Nat.le_of_ble_eq_true rfl⟩) hG (c2 := 0) (s2 := 0) ⟨by exact Nat.le_of_ble_eq_true rfl, by exact Nat.le_of_ble_eq_true rfl⟩ (fun M7 h H locs hG => ?_)
  obtain ⟨h, eM7⟩ := h
  rw [eM7] at hG
  refine lv_aload_n hx hb dX10_dayLength_12 rfl (lv_at hl 0 rfl) ?_
  refine lv_iload_n hx hb dX10_dayLength_13 rfl (lv_at hl 1 rfl) ?_
  refine j_contr (va_runV (As := [.int (J a1)]) (rest := []) ⟨hx, hb, hml, hown, hts⟩ (A_X10_compiled l ka0 h) (cwV 1 hts (gj_V ml_RX10_144 i_X10_compiled s_X10_compiled n_RX10 k_X10_compiled) rfl rfl rfl (by decide +kernel) ⟨by exact Nat.le_of_ble_eq_true rfl, by exact Nat.le_of_ble_eq_true rfl⟩) (j_preV hK hSX hG (ci := 9) rfl ka0 (by decide)) rfl rfl hl.1 rfl (lv_room (Nat.le_of_ble_eq_true rfl)) dX10_dayLength_14 ⟨by exact Nat.le_of_ble_eq_true rfl, by exact Nat.le_of_ble_eq_true rfl⟩) hG (c2 := 0) (s2 := 0) ⟨by exact Nat.le_of_ble_eq_true rfl, by exact Nat.le_of_ble_eq_true rfl⟩ (fun k8 M9 h hk8 H locs hG => ?_)
  refine lv_astore_n (lv' := [(3, .ref (rA o k8)), (0, .ref (rA o a0)), (1, .int (J a1)), (2, .int (J a2))]) hx hb dX10_dayLength_17 rfl hl (by decide) rfl (fun ls hl => ?_)
  refine lv_aload_n hx hb dX10_dayLength_18 rfl (lv_at hl 0 rfl) ?_
  refine lv_iload_n hx hb dX10_dayLength_19 rfl (lv_at hl 3 rfl) ?_
  refine lv_iconst (v := J 1) hx hb dX10_dayLength_20 (by decide) ?_
  refine j_iadd hx hb dX10_dayLength_21 ?_
  refine j_conti (va_runV (As := [.int (J (a2 + 1))]) (rest := []) ⟨hx, hb, hml, hown, hts⟩ (A_X7_beginningOf l hk8 h) (cwV 1 hts (gj_V ml_RX10_259 i_X7_beginningOf s_X7_beginningOf n_RX7 k_X7_beginningOf) rfl rfl rfl (by decide +kernel) ⟨by exact Nat.le_of_ble_eq_true rfl, by exact Nat.le_of_ble_eq_true rfl⟩) (j_preV hK hSX hG (ci := 6) rfl hk8 (by decide)) rfl rfl hl.1 rfl (lv_room (Nat.le_of_ble_eq_true rfl)) dX10_dayLength_22 ⟨by exact Nat.le_of_ble_eq_true rfl, by exact Nat.le_of_ble_eq_true rfl⟩) hG (c2 := 0) (s2 := 0) ⟨by exact Nat.le_of_ble_eq_true rfl, by exact Nat.le_of_ble_eq_true rfl⟩ (fun z10 M11 h H locs hG => ?_)
  refine lv_aload_n hx hb dX10_dayLength_25 rfl (lv_at hl 0 rfl) ?_
  refine lv_iload_n hx hb dX10_dayLength_26 rfl (lv_at hl 3 rfl) ?_
  refine j_conti (va_runV (As := [.int (J a2)]) (rest := [.int (J z10)]) ⟨hx, hb, hml, hown, hts⟩ (A_X7_beginningOf l hk8 h) (cwV 1 hts (gj_V ml_RX10_259 i_X7_beginningOf s_X7_beginningOf n_RX7 k_X7_beginningOf) rfl rfl rfl (by decide +kernel) ⟨by exact Nat.le_of_ble_eq_true rfl, by exact Nat.le_of_ble_eq_true rfl⟩) (j_preV hK hSX hG (ci := 6) rfl hk8 (by decide)) rfl rfl hl.1 rfl (lv_room (Nat.le_of_ble_eq_true rfl)) dX10_dayLength_27 ⟨by exact Nat.le_of_ble_eq_true rfl, by exact Nat.le_of_ble_eq_true rfl⟩) hG (c2 := 0) (s2 := 0) ⟨by exact Nat.le_of_ble_eq_true rfl, by exact Nat.le_of_ble_eq_true rfl⟩ (fun z12 M13 h H locs hG => ?_)
  refine j_isub hx hb dX10_dayLength_30 ?_
  rw [hQf]
  exact j_ireti hx hb hr hlocks hG h (by decide) dX10_dayLength_31
abbrev rm_X10_dayLength : Room := { frames := 8, cells := 1, slots := 6, locals := 131 }
set_option maxRecDepth 100000 in
set_option maxHeartbeats 4000000 in
theorem A_X10_dayLength (l : Launch) (hst : l.stackTraces = false) {D : va_G} {cy : Nat → ClassId} {o : Nat} {sK sV : Nat → Nat} {M : jT} {a0 : Int} {a1 : Int} {a2 : Int} (ka0 : kd a0 = 10) {Q : Int → jT → Prop} {X : Nat → jT → Prop} (h : wp_X10_dayLength M a0 a1 a2 Q X) : CxI l yX10_dayLength (wj yX10_dayLength cX10_dayLength 4 (some .int)) rm_X10_dayLength D cy o sK sV M [.ref (rA o a0), .int (J a1), .int (J a2)] Q X := by
  refine j_ofWx (cc := cX10_dayLength) (maxL := 4) (ret := (some .int)) (by decide) rfl (Nat.le_of_ble_eq_true rfl) ?_
  intro p e s m args below meth c hx hb hr hlocks hout hml hown hts hK hSX H locs hsz hG ls hl Qf hQf
  have hown : s.vm.findClass RX10 = some m.cls := hown
  have hl : lv_has ls 4 [(0, .ref (rA o a0)), (1, .int (J a1)), (2, .int (J a2))] := hl
  unfold wp_X10_dayLength at h
  refine lv_aload_n hx hb dX10_dayLength_0 rfl (lv_at hl 0 rfl) ?_
  refine lv_iload_n hx hb dX10_dayLength_1 rfl (lv_at hl 1 rfl) ?_
  rcases h with h | h
  · refine j_contv (va_runV (As := [.int (J a1)]) (rest := []) ⟨hx, hb, hml, hown, hts⟩ (Ao_X10_needZone l ka0 h) (cwV 1 hts (gj_V ml_RX10_137 i_X10_needZone s_X10_needZone n_RX10 k_X10_needZone) rfl rfl rfl (by decide +kernel) ⟨by exact Nat.le_of_ble_eq_true rfl, by exact Nat.le_of_ble_eq_true rfl⟩) (j_preV hK hSX hG (ci := 9) rfl ka0 (by decide)) rfl rfl hl.1 rfl (lv_room (Nat.le_of_ble_eq_true rfl)) dX10_dayLength_2 ⟨by exact Nat.le_of_ble_eq_true rfl, by exact Nat.le_of_ble_eq_true rfl⟩) hG (c2 := 0) (s2 := 0) ⟨by exact Nat.le_of_ble_eq_true rfl, by exact Nat.le_of_ble_eq_true rfl⟩ (fun M2 h H locs hG => ?_)
    obtain ⟨h, eM2⟩ := h
    rw [eM2] at hG
    refine lv_iload_n hx hb dX10_dayLength_5 rfl (lv_at hl 2 rfl) ?_
    obtain ⟨g3, h⟩ := h
    refine j_conti (va_runS (As := [.int (J a2)]) (rest := []) ⟨hx, hb, hml, hown, hts⟩ (A_X10_isDay l g3) (va_cwS 1 hts (gj_S ml_RX10_85 i_X10_isDay n_RX10 k_X10_isDay) rfl rfl rfl (by decide +kernel) ⟨by exact Nat.le_of_ble_eq_true rfl, by exact Nat.le_of_ble_eq_true rfl⟩) (j_preS hK hSX hG) rfl rfl hl.1 rfl (lv_room (Nat.le_of_ble_eq_true rfl)) dX10_dayLength_6 ⟨by exact Nat.le_of_ble_eq_true rfl, by exact Nat.le_of_ble_eq_true rfl⟩) hG (c2 := 0) (s2 := 0) ⟨by exact Nat.le_of_ble_eq_true rfl, by exact Nat.le_of_ble_eq_true rfl⟩ (fun z4 M5 ez4 H locs hG => ?_)
    obtain ⟨ez4, eM5⟩ := ez4
    subst ez4
    rw [eM5] at hG
    rcases h with h | h
    · refine j_contv (va_runS (As := [.int (J (b2i (pb_X10_isDay a2)))]) (rest := []) ⟨hx, hb, hml, hown, hts⟩ (Ao_X10_needIndex l h) (va_cwS 1 hts (gj_S ml_RX10_88 i_X10_needIndex n_RX10 k_X10_needIndex) rfl rfl rfl (by decide +kernel) ⟨by exact Nat.le_of_ble_eq_true rfl, by exact Nat.le_of_ble_eq_true rfl⟩) (j_preS hK hSX hG) rfl rfl hl.1 rfl (lv_room (Nat.le_of_ble_eq_true rfl)) dX10_dayLength_9 ⟨by exact Nat.le_of_ble_eq_true rfl, by exact Nat.le_of_ble_eq_true rfl⟩) hG (c2 := 0) (s2 := 0) ⟨by exact Nat.le_of_ble_eq_true rfl, by exact Nat.le_of_ble_eq_true rfl⟩ (fun M7 h H locs hG => ?_)
      obtain ⟨h, eM7⟩ := h
      rw [eM7] at hG
      refine lv_aload_n hx hb dX10_dayLength_12 rfl (lv_at hl 0 rfl) ?_
      refine lv_iload_n hx hb dX10_dayLength_13 rfl (lv_at hl 1 rfl) ?_
      refine j_contr (va_runV (As := [.int (J a1)]) (rest := []) ⟨hx, hb, hml, hown, hts⟩ (A_X10_compiled l ka0 h) (cwV 1 hts (gj_V ml_RX10_144 i_X10_compiled s_X10_compiled n_RX10 k_X10_compiled) rfl rfl rfl (by decide +kernel) ⟨by exact Nat.le_of_ble_eq_true rfl, by exact Nat.le_of_ble_eq_true rfl⟩) (j_preV hK hSX hG (ci := 9) rfl ka0 (by decide)) rfl rfl hl.1 rfl (lv_room (Nat.le_of_ble_eq_true rfl)) dX10_dayLength_14 ⟨by exact Nat.le_of_ble_eq_true rfl, by exact Nat.le_of_ble_eq_true rfl⟩) hG (c2 := 0) (s2 := 0) ⟨by exact Nat.le_of_ble_eq_true rfl, by exact Nat.le_of_ble_eq_true rfl⟩ (fun k8 M9 h hk8 H locs hG => ?_)
      refine lv_astore_n (lv' := [(3, .ref (rA o k8)), (0, .ref (rA o a0)), (1, .int (J a1)), (2, .int (J a2))]) hx hb dX10_dayLength_17 rfl hl (by decide) rfl (fun ls hl => ?_)
      refine lv_aload_n hx hb dX10_dayLength_18 rfl (lv_at hl 0 rfl) ?_
      refine lv_iload_n hx hb dX10_dayLength_19 rfl (lv_at hl 3 rfl) ?_
      refine lv_iconst (v := J 1) hx hb dX10_dayLength_20 (by decide) ?_
      refine j_iadd hx hb dX10_dayLength_21 ?_
      refine j_conti (va_runV (As := [.int (J (a2 + 1))]) (rest := []) ⟨hx, hb, hml, hown, hts⟩ (A_X7_beginningOf l hk8 h) (cwV 1 hts (gj_V ml_RX10_259 i_X7_beginningOf s_X7_beginningOf n_RX7 k_X7_beginningOf) rfl rfl rfl (by decide +kernel) ⟨by exact Nat.le_of_ble_eq_true rfl, by exact Nat.le_of_ble_eq_true rfl⟩) (j_preV hK hSX hG (ci := 6) rfl hk8 (by decide)) rfl rfl hl.1 rfl (lv_room (Nat.le_of_ble_eq_true rfl)) dX10_dayLength_22 ⟨by exact Nat.le_of_ble_eq_true rfl, by exact Nat.le_of_ble_eq_true rfl⟩) hG (c2 := 0) (s2 := 0) ⟨by exact Nat.le_of_ble_eq_true rfl, by exact Nat.le_of_ble_eq_true rfl⟩ (fun z10 M11 h H locs hG => ?_)
      refine lv_aload_n hx hb dX10_dayLength_25 rfl (lv_at hl 0 rfl) ?_
      refine lv_iload_n hx hb dX10_dayLength_26 rfl (lv_at hl 3 rfl) ?_
      refine j_conti (va_runV (As := [.int (J a2)]) (rest := [.int (J z10)]) ⟨hx, hb, hml, hown, hts⟩ (A_X7_beginningOf l hk8 h) (cwV 1 hts (gj_V ml_RX10_259 i_X7_beginningOf s_X7_beginningOf n_RX7 k_X7_beginningOf) rfl rfl rfl (by decide +kernel) ⟨by exact Nat.le_of_ble_eq_true rfl, by exact Nat.le_of_ble_eq_true rfl⟩) (j_preV hK hSX hG (ci := 6) rfl hk8 (by decide)) rfl rfl hl.1 rfl (lv_room (Nat.le_of_ble_eq_true rfl)) dX10_dayLength_27 ⟨by exact Nat.le_of_ble_eq_true rfl, by exact Nat.le_of_ble_eq_true rfl⟩) hG (c2 := 0) (s2 := 0) ⟨by exact Nat.le_of_ble_eq_true rfl, by exact Nat.le_of_ble_eq_true rfl⟩ (fun z12 M13 h H locs hG => ?_)
      refine j_isub hx hb dX10_dayLength_30 ?_
      rw [hQf]
      exact vx_ret (j_ireti hx hb hr hlocks hG h (by decide) dX10_dayLength_31)
    · refine j_contxv (vx_runS (As := [.int (J (b2i (pb_X10_isDay a2)))]) (rest := []) ⟨hx, hb, hml, hown, hts⟩ (A_X10_needIndex l hst h) (va_cwS 1 hts (gj_S ml_RX10_88 i_X10_needIndex n_RX10 k_X10_needIndex) rfl rfl rfl (by decide +kernel) ⟨by exact Nat.le_of_ble_eq_true rfl, by exact Nat.le_of_ble_eq_true rfl⟩) (j_preS hK hSX hG) rfl rfl hl.1 rfl (lv_room (Nat.le_of_ble_eq_true rfl)) dX10_dayLength_9 ⟨by exact Nat.le_of_ble_eq_true rfl, by exact Nat.le_of_ble_eq_true rfl⟩) hG (c2 := 1) (s2 := 6) ⟨by exact Nat.le_of_ble_eq_true rfl, by exact Nat.le_of_ble_eq_true rfl⟩ (fun x M h ce q H locs hG h1 h2 h3 => ?_) (fun M h H locs hG => h.elim)
      rw [hQf]
      exact j_xout hlocks hout hG h h1 h2 h3 (by decide)
  · refine j_contxv (vx_runV (As := [.int (J a1)]) (rest := []) ⟨hx, hb, hml, hown, hts⟩ (A_X10_needZone l hst ka0 h) (cwV 1 hts (gj_V ml_RX10_137 i_X10_needZone s_X10_needZone n_RX10 k_X10_needZone) rfl rfl rfl (by decide +kernel) ⟨by exact Nat.le_of_ble_eq_true rfl, by exact Nat.le_of_ble_eq_true rfl⟩) (j_preV hK hSX hG (ci := 9) rfl ka0 (by decide)) rfl rfl hl.1 rfl (lv_room (Nat.le_of_ble_eq_true rfl)) dX10_dayLength_2 ⟨by exact Nat.le_of_ble_eq_true rfl, by exact Nat.le_of_ble_eq_true rfl⟩) hG (c2 := 1) (s2 := 6) ⟨by exact Nat.le_of_ble_eq_true rfl, by exact Nat.le_of_ble_eq_true rfl⟩ (fun x M h ce q H locs hG h1 h2 h3 => ?_) (fun M h H locs hG => h.elim)
    rw [hQf]
    exact j_xout hlocks hout hG h h1 h2 h3 (by decide)

abbrev rm_X7_earlierEdge : Room := { frames := 0, cells := 0, slots := 0, locals := 0 }
set_option maxRecDepth 100000 in
set_option maxHeartbeats 4000000 in
theorem A_X7_earlierEdge (l : Launch) {D : va_G} {cy : Nat → ClassId} {o : Nat} {sK sV : Nat → Nat} {M : jT} {a0 : Int} {a1 : Int} {a2 : Int} (h : pg_X7_earlierEdge a0 a1 a2) : CoI l yX7_earlierEdge (wj yX7_earlierEdge cX7_earlierEdge 3 (some .int)) rm_X7_earlierEdge D cy o sK sV M [.int (J a0), .int (J a1), .int (J a2)] (fun z M9 => z = pf_X7_earlierEdge a0 a1 a2 ∧ M9 = M) := by
  refine j_ofW (cc := cX7_earlierEdge) (maxL := 3) (ret := (some .int)) (by decide) rfl (Nat.le_of_ble_eq_true rfl) ?_
  intro p e s m args below meth c hx hb hr hlocks hml hown hts hK hSX H locs hG ls hl Qf hQf
  have hown : s.vm.findClass RX7 = some m.cls := hown
  have hl : lv_has ls 3 [(0, .int (J a0)), (1, .int (J a1)), (2, .int (J a2))] := hl
  unfold pg_X7_earlierEdge at h
  refine lv_iload_n hx hb dX7_earlierEdge_0 rfl (lv_at hl 1 rfl) ?_
  refine lv_iload_n hx hb dX7_earlierEdge_1 rfl (lv_at hl 0 rfl) ?_
  obtain ⟨g2, h⟩ := h
  obtain ⟨g3, h⟩ := h
  refine j_icmp_le (tgt := 14) hx hb dX7_earlierEdge_2 (by decide) g2 g3 (fun c1 => ?_) (fun c1 => ?_)
  · have h := h.1 c1
    refine lv_iload_n hx hb dX7_earlierEdge_14 rfl (lv_at hl 2 rfl) ?_
    rw [hQf]
    exact j_ireti hx hb hr hlocks hG ⟨(by unfold pf_X7_earlierEdge; rw [if_pos c1]), rfl⟩ (by decide) dX7_earlierEdge_15
  · have h := h.2 c1
    refine lv_iload_n hx hb dX7_earlierEdge_5 rfl (lv_at hl 1 rfl) ?_
    refine lv_iload_n hx hb dX7_earlierEdge_6 rfl (lv_at hl 2 rfl) ?_
    obtain ⟨g5, h⟩ := h
    refine j_icmp_ge (tgt := 14) hx hb dX7_earlierEdge_7 (by decide) g2 g5 (fun c4 => ?_) (fun c4 => ?_)
    · have h := h.1 c4
      refine lv_iload_n hx hb dX7_earlierEdge_14 rfl (lv_at hl 2 rfl) ?_
      rw [hQf]
      exact j_ireti hx hb hr hlocks hG ⟨(by unfold pf_X7_earlierEdge; rw [if_neg (show ¬ (a1 ≤ a0) from by omega), if_pos c4]), rfl⟩ (by decide) dX7_earlierEdge_15
    · have h := h.2 c4
      refine lv_iload_n hx hb dX7_earlierEdge_10 rfl (lv_at hl 1 rfl) ?_
      refine lv_goto (tgt := 15) hx hb dX7_earlierEdge_11 (by decide) ?_
      rw [hQf]
      exact j_ireti hx hb hr hlocks hG ⟨(by unfold pf_X7_earlierEdge; rw [if_neg (show ¬ (a1 ≤ a0) from by omega), if_neg (show ¬ (a2 ≤ a1) from by omega)]), rfl⟩ (by decide) dX7_earlierEdge_15

abbrev rm_X7_nextEdge : Room := { frames := 1, cells := 0, slots := 0, locals := 24 }
set_option maxRecDepth 100000 in
set_option maxHeartbeats 4000000 in
theorem A_X7_nextEdge (l : Launch) {D : va_G} {cy : Nat → ClassId} {o : Nat} {sK sV : Nat → Nat} {M : jT} {a0 : Int} {a1 : Int} {a2 : Int} (ka0 : kd a0 = 7) {Q : Int → Prop} (h : wp_X7_nextEdge M a0 a1 a2 Q) : CoI l yX7_nextEdge (wj yX7_nextEdge cX7_nextEdge 5 (some .int)) rm_X7_nextEdge D cy o sK sV M [.ref (rA o a0), .int (J a1), .int (J a2)] (fun z M9 => Q z ∧ M9 = M) := by
  refine j_ofW (cc := cX7_nextEdge) (maxL := 5) (ret := (some .int)) (by decide) rfl (Nat.le_of_ble_eq_true rfl) ?_
  intro p e s m args below meth c hx hb hr hlocks hml hown hts hK hSX H locs hG ls hl Qf hQf
  have hown : s.vm.findClass RX7 = some m.cls := hown
  have hl : lv_has ls 5 [(0, .ref (rA o a0)), (1, .int (J a1)), (2, .int (J a2))] := hl
  have w_fl_RX7_48 := hts _ (List.mem_cons_of_mem _ fl_RX7_48)
  have w_fl_RX7_37 := hts _ (List.mem_cons_of_mem _ fl_RX7_37)
  have w_fl_RX7_9 := hts _ (List.mem_cons_of_mem _ fl_RX7_9)
  have w_fl_RX7_51 := hts _ (List.mem_cons_of_mem _ fl_RX7_51)
  have w_fl_RX7_30 := hts _ (List.mem_cons_of_mem _ fl_RX7_30)
  unfold wp_X7_nextEdge at h
  refine lv_iload_n hx hb dX7_nextEdge_0 rfl (lv_at hl 2 rfl) ?_
  refine lv_istore_n (lv' := [(3, .int (J a2)), (0, .ref (rA o a0)), (1, .int (J a1)), (2, .int (J a2))]) hx hb dX7_nextEdge_1 rfl hl (by decide) rfl (fun ls hl => ?_)
  refine lv_aload_n hx hb dX7_nextEdge_2 rfl (lv_at hl 1 rfl) ?_
  refine lv_iload_n hx hb dX7_nextEdge_3 rfl (lv_at hl 2 rfl) ?_
  refine lv_aload_n hx hb dX7_nextEdge_4 rfl (lv_at hl 1 rfl) ?_
  refine j_geti hx hb hts hown hK hG (k := a0) (fun w h => List.mem_cons_of_mem _ (u_X7 w h)) (ci := 6) rfl ka0 4 (by decide) (jz := 4) rfl w_fl_RX7_48 dX7_nextEdge_5 ?_
  refine j_isub hx hb dX7_nextEdge_8 ?_
  refine j_conti (va_runV (As := [.int (J (a1 - (M a0 4)))]) (rest := []) ⟨hx, hb, hml, hown, hts⟩ (A_X7_spanAt l ka0 h) (cwV 1 hts (gj_V ml_RX7_97 i_X7_spanAt s_X7_spanAt n_RX7 k_X7_spanAt) rfl rfl rfl (by decide +kernel) ⟨by exact Nat.le_of_ble_eq_true rfl, by exact Nat.le_of_ble_eq_true rfl⟩) (j_preV hK hSX hG (ci := 6) rfl ka0 (by decide)) rfl rfl hl.1 rfl (lv_room (Nat.le_of_ble_eq_true rfl)) dX7_nextEdge_9 ⟨by exact Nat.le_of_ble_eq_true rfl, by exact Nat.le_of_ble_eq_true rfl⟩) hG (c2 := 0) (s2 := 0) ⟨by exact Nat.le_of_ble_eq_true rfl, by exact Nat.le_of_ble_eq_true rfl⟩ (fun z1 M2 h H locs hG => ?_)
  obtain ⟨h, eM2⟩ := h
  rw [eM2] at hG
  refine lv_istore (lv' := [(4, .int (J z1)), (3, .int (J a2)), (0, .ref (rA o a0)), (1, .int (J a1)), (2, .int (J a2))]) hx hb dX7_nextEdge_12 hl (by decide) rfl (fun ls hl => ?_)
  obtain ⟨I5, ⟨n6s, iI5⟩, qI5⟩ := h
  have lI5 : ∀ (n6 : Nat) (x3 : Int) (x4 : Int), I5 n6 x3 x4 → ∀ (H : Heap) (locs : List Loc), GM D cy o M s.heap H locs → ∀ ls : Array Slot, lv_has ls 5 [(0, .ref (rA o a0)), (1, .int (J a1)), (3, .int (J x3)), (4, .int (J x4))] → W p l e rm_X7_nextEdge s m args below meth c H locs 0 0 Qf (F0 m 14 ls []) := by
    intro n6
    induction n6 using Nat.strongRecOn with
    | ind n6 rI5 =>
      intro x3 x4 iI5 H locs hG ls hl
      have h := qI5 n6 x3 x4 iI5
      refine lv_iload hx hb dX7_nextEdge_14 (lv_at hl 3 rfl) ?_
      refine lv_aload_n hx hb dX7_nextEdge_16 rfl (lv_at hl 0 rfl) ?_
      refine j_geti hx hb hts hown hK hG (k := a0) (fun w h => List.mem_cons_of_mem _ (u_X7 w h)) (ci := 6) rfl ka0 2 (by decide) (jz := 2) rfl w_fl_RX7_37 dX7_nextEdge_17 ?_
      obtain ⟨K26, hK26, h⟩ := h
      have jK26 : K26 → ∀ (H : Heap) (locs : List Loc), GM D cy o M s.heap H locs → ∀ ls : Array Slot, lv_has ls 5 [(3, .int (J x3))] → W p l e rm_X7_nextEdge s m args below meth c H locs 0 0 Qf (F0 m 89 ls []) := by
        intro hcK26 H locs hG ls hl
        have h := hK26 hcK26
        refine lv_iload_n hx hb dX7_nextEdge_89 rfl (lv_at hl 0 rfl) ?_
        rw [hQf]
        exact j_ireti hx hb hr hlocks hG ⟨h, rfl⟩ (by decide) dX7_nextEdge_90
      obtain ⟨g28, h⟩ := h
      obtain ⟨g29, h⟩ := h
      refine j_icmp_ge (tgt := 89) hx hb dX7_nextEdge_20 (by decide) g28 g29 (fun c27 => ?_) (fun c27 => ?_)
      · have h := h.1 c27
        exact jK26 h H locs hG ls (lv_sub hl [2] rfl)
      · have h := h.2 c27
        refine lv_aload_n hx hb dX7_nextEdge_23 rfl (lv_at hl 0 rfl) ?_
        refine j_getr hx hb hts hown hK hG (k := a0) (fun w h => List.mem_cons_of_mem _ (u_X7 w h)) (ci := 6) rfl ka0 6 (k2 := a0 + 1) (by decide) (by show a0 + (1 : Int) = a0 + 1; omega) w_fl_RX7_9 dX7_nextEdge_24 ?_
        refine lv_iload hx hb dX7_nextEdge_27 (lv_at hl 3 rfl) ?_
        obtain ⟨g30, h⟩ := h
        refine j_iald hx hb hK hG (n := 260) (kf_7_6 ka0) (by decide) g30 dX7_nextEdge_29 ?_
        refine lv_aload_n hx hb dX7_nextEdge_30 rfl (lv_at hl 0 rfl) ?_
        refine j_geti hx hb hts hown hK hG (k := a0) (fun w h => List.mem_cons_of_mem _ (u_X7 w h)) (ci := 6) rfl ka0 5 (by decide) (jz := 5) rfl w_fl_RX7_51 dX7_nextEdge_31 ?_
        refine j_iadd hx hb dX7_nextEdge_34 ?_
        refine lv_iload_n hx hb dX7_nextEdge_35 rfl (lv_at hl 2 rfl) ?_
        obtain ⟨g32, h⟩ := h
        obtain ⟨g33, h⟩ := h
        refine j_icmp_ge (tgt := 89) hx hb dX7_nextEdge_36 (by decide) g32 g33 (fun c31 => ?_) (fun c31 => ?_)
        · have h := h.1 c31
          exact jK26 h H locs hG ls (lv_sub hl [2] rfl)
        · have h := h.2 c31
          refine lv_iload_n hx hb dX7_nextEdge_39 rfl (lv_at hl 1 rfl) ?_
          refine lv_aload_n hx hb dX7_nextEdge_40 rfl (lv_at hl 0 rfl) ?_
          refine j_getr hx hb hts hown hK hG (k := a0) (fun w h => List.mem_cons_of_mem _ (u_X7 w h)) (ci := 6) rfl ka0 6 (k2 := a0 + 1) (by decide) (by show a0 + (1 : Int) = a0 + 1; omega) w_fl_RX7_9 dX7_nextEdge_41 ?_
          refine lv_iload hx hb dX7_nextEdge_44 (lv_at hl 3 rfl) ?_
          refine j_iald hx hb hK hG (n := 260) (kf_7_6 ka0) (by decide) g30 dX7_nextEdge_46 ?_
          refine lv_aload_n hx hb dX7_nextEdge_47 rfl (lv_at hl 0 rfl) ?_
          refine j_getr hx hb hts hown hK hG (k := a0) (fun w h => List.mem_cons_of_mem _ (u_X7 w h)) (ci := 6) rfl ka0 12 (k2 := a0 + 7) (by decide) (by show a0 + (7 : Int) = a0 + 7; omega) w_fl_RX7_30 dX7_nextEdge_48 ?_
          refine lv_iload hx hb dX7_nextEdge_51 (lv_at hl 3 rfl) ?_
          obtain ⟨g34, h⟩ := h
          refine j_iald hx hb hK hG (n := 261) (kf_7_12 ka0) (by decide) g34 dX7_nextEdge_53 ?_
          refine j_iadd hx hb dX7_nextEdge_54 ?_
          refine lv_iload_n hx hb dX7_nextEdge_55 rfl (lv_at hl 2 rfl) ?_
          obtain ⟨g35, h⟩ := h
          refine j_conti (va_runS (As := [.int (J a1), .int (J ((M (a0 + 1) x4) + (M (a0 + 7) x4))), .int (J x3)]) (rest := []) ⟨hx, hb, hml, hown, hts⟩ (A_X7_earlierEdge l g35) (va_cwS 3 hts (gj_S ml_RX7_127 i_X7_earlierEdge n_RX7 k_X7_earlierEdge) rfl rfl rfl (by decide +kernel) ⟨by exact Nat.le_of_ble_eq_true rfl, by exact Nat.le_of_ble_eq_true rfl⟩) (j_preS hK hSX hG) rfl rfl hl.1 rfl (lv_room (Nat.le_of_ble_eq_true rfl)) dX7_nextEdge_56 ⟨by exact Nat.le_of_ble_eq_true rfl, by exact Nat.le_of_ble_eq_true rfl⟩) hG (c2 := 0) (s2 := 0) ⟨by exact Nat.le_of_ble_eq_true rfl, by exact Nat.le_of_ble_eq_true rfl⟩ (fun z36 M37 ez36 H locs hG => ?_)
          obtain ⟨ez36, eM37⟩ := ez36
          subst ez36
          rw [eM37] at hG
          refine j_topi (fun x38 ex38 => ?_)
          have h := h x38 ex38
          refine lv_istore_n (lv' := [(3, .int (J x38)), (0, .ref (rA o a0)), (1, .int (J a1)), (4, .int (J x4))]) hx hb dX7_nextEdge_59 rfl hl (by decide) rfl (fun ls hl => ?_)
          refine lv_iload_n hx hb dX7_nextEdge_60 rfl (lv_at hl 2 rfl) ?_
          refine lv_aload_n hx hb dX7_nextEdge_61 rfl (lv_at hl 1 rfl) ?_
          refine j_getr hx hb hts hown hK hG (k := a0) (fun w h => List.mem_cons_of_mem _ (u_X7 w h)) (ci := 6) rfl ka0 6 (k2 := a0 + 1) (by decide) (by show a0 + (1 : Int) = a0 + 1; omega) w_fl_RX7_9 dX7_nextEdge_62 ?_
          refine lv_iload hx hb dX7_nextEdge_65 (lv_at hl 3 rfl) ?_
          refine j_iald hx hb hK hG (n := 260) (kf_7_6 ka0) (by decide) g30 dX7_nextEdge_67 ?_
          refine lv_aload_n hx hb dX7_nextEdge_68 rfl (lv_at hl 1 rfl) ?_
          refine j_getr hx hb hts hown hK hG (k := a0) (fun w h => List.mem_cons_of_mem _ (u_X7 w h)) (ci := 6) rfl ka0 12 (k2 := a0 + 7) (by decide) (by show a0 + (7 : Int) = a0 + 7; omega) w_fl_RX7_30 dX7_nextEdge_69 ?_
          refine lv_iload hx hb dX7_nextEdge_72 (lv_at hl 3 rfl) ?_
          refine lv_iconst (v := J 1) hx hb dX7_nextEdge_74 (by decide) ?_
          refine j_iadd hx hb dX7_nextEdge_75 ?_
          obtain ⟨g39, h⟩ := h
          refine j_iald hx hb hK hG (n := 261) (kf_7_12 ka0) (by decide) g39 dX7_nextEdge_76 ?_
          refine j_iadd hx hb dX7_nextEdge_77 ?_
          refine lv_iload_n hx hb dX7_nextEdge_78 rfl (lv_at hl 0 rfl) ?_
          obtain ⟨g40, h⟩ := h
          refine j_conti (va_runS (As := [.int (J a1), .int (J ((M (a0 + 1) x4) + (M (a0 + 7) (x4 + 1)))), .int (J x38)]) (rest := []) ⟨hx, hb, hml, hown, hts⟩ (A_X7_earlierEdge l g40) (va_cwS 3 hts (gj_S ml_RX7_127 i_X7_earlierEdge n_RX7 k_X7_earlierEdge) rfl rfl rfl (by decide +kernel) ⟨by exact Nat.le_of_ble_eq_true rfl, by exact Nat.le_of_ble_eq_true rfl⟩) (j_preS hK hSX hG) rfl rfl hl.1 rfl (lv_room (Nat.le_of_ble_eq_true rfl)) dX7_nextEdge_79 ⟨by exact Nat.le_of_ble_eq_true rfl, by exact Nat.le_of_ble_eq_true rfl⟩) hG (c2 := 0) (s2 := 0) ⟨by exact Nat.le_of_ble_eq_true rfl, by exact Nat.le_of_ble_eq_true rfl⟩ (fun z41 M42 ez41 H locs hG => ?_)
          obtain ⟨ez41, eM42⟩ := ez41
          subst ez41
          rw [eM42] at hG
          refine j_topi (fun x43 ex43 => ?_)
          have h := h x43 ex43
          refine lv_istore_n (lv' := [(3, .int (J x43)), (0, .ref (rA o a0)), (1, .int (J a1)), (4, .int (J x4))]) hx hb dX7_nextEdge_82 rfl hl (by decide) rfl (fun ls hl => ?_)
          refine j_iinc hx hb dX7_nextEdge_83 hl (k := 3) rfl (by decide) (fun x44 ex44 ls hl => ?_)
          have h := h x44 ex44
          have hl : lv_has ls 5 [(4, .int (J x44)), (3, .int (J x43)), (0, .ref (rA o a0)), (1, .int (J a1))] := hl
          refine lv_goto (tgt := 14) hx hb dX7_nextEdge_86 (by decide) ?_
          obtain ⟨n45, ln45, iI5⟩ := h
          exact rI5 n45 ln45 x43 x44 iI5 H locs hG ls (lv_sub hl [2, 3, 1, 0] rfl)
  exact lI5 n6s a2 z1 iI5 H locs hG ls (lv_sub hl [2, 3, 1, 0] rfl)

abbrev rm_X7_countMinutes : Room := { frames := 2, cells := 0, slots := 0, locals := 48 }
set_option maxRecDepth 100000 in
set_option maxHeartbeats 4000000 in
theorem A_X7_countMinutes (l : Launch) {D : va_G} {cy : Nat → ClassId} {o : Nat} {sK sV : Nat → Nat} {M : jT} {a0 : Int} {a1 : Int} {a2 : Int} {a3 : Int} (ka0 : kd a0 = 7) {Q : Int → jT → Prop} (h : wp_X7_countMinutes M a0 a1 a2 a3 Q) : CoI l yX7_countMinutes (wj yX7_countMinutes cX7_countMinutes 9 (some .int)) rm_X7_countMinutes D cy o sK sV M [.ref (rA o a0), .int (J a1), .int (J a2), .int (J a3)] Q := by
  refine j_ofW (cc := cX7_countMinutes) (maxL := 9) (ret := (some .int)) (by decide) rfl (Nat.le_of_ble_eq_true rfl) ?_
  intro p e s m args below meth c hx hb hr hlocks hml hown hts hK hSX H locs hG ls hl Qf hQf
  have hown : s.vm.findClass RX7 = some m.cls := hown
  have hl : lv_has ls 9 [(0, .ref (rA o a0)), (1, .int (J a1)), (2, .int (J a2)), (3, .int (J a3))] := hl
  have w_fl_RX7_37 := hts _ (List.mem_cons_of_mem _ fl_RX7_37)
  have w_fl_RX7_101 := hts _ (List.mem_cons_of_mem _ fl_RX7_101)
  unfold wp_X7_countMinutes at h
  refine lv_iconst (v := J 0) hx hb dX7_countMinutes_0 (by decide) ?_
  refine lv_istore (lv' := [(4, .int (J 0)), (0, .ref (rA o a0)), (1, .int (J a1)), (2, .int (J a2)), (3, .int (J a3))]) hx hb dX7_countMinutes_1 hl (by decide) rfl (fun ls hl => ?_)
  refine lv_iload_n hx hb dX7_countMinutes_3 rfl (lv_at hl 2 rfl) ?_
  refine lv_istore (lv' := [(5, .int (J a1)), (4, .int (J 0)), (0, .ref (rA o a0)), (1, .int (J a1)), (2, .int (J a2)), (3, .int (J a3))]) hx hb dX7_countMinutes_4 hl (by decide) rfl (fun ls hl => ?_)
  refine lv_iconst (v := J 0) hx hb dX7_countMinutes_6 (by decide) ?_
  refine lv_istore (lv' := [(6, .int (J 0)), (5, .int (J a1)), (4, .int (J 0)), (0, .ref (rA o a0)), (1, .int (J a1)), (2, .int (J a2)), (3, .int (J a3))]) hx hb dX7_countMinutes_7 hl (by decide) rfl (fun ls hl => ?_)
  obtain ⟨I5, ⟨n6s, iI5⟩, qI5⟩ := h
  have lI5 : ∀ (n6 : Nat) (x1 : Int) (x2 : Int) (x3 : Int) (M4 : jT), I5 n6 x1 x2 x3 M4 → ∀ (H : Heap) (locs : List Loc), GM D cy o M4 s.heap H locs → ∀ ls : Array Slot, lv_has ls 9 [(0, .ref (rA o a0)), (2, .int (J a2)), (3, .int (J a3)), (4, .int (J x1)), (5, .int (J x2)), (6, .int (J x3))] → W p l e rm_X7_countMinutes s m args below meth c H locs 0 0 Qf (F0 m 9 ls []) := by
    intro n6
    induction n6 using Nat.strongRecOn with
    | ind n6 rI5 =>
      intro x1 x2 x3 M4 iI5 H locs hG ls hl
      have h := qI5 n6 x1 x2 x3 M4 iI5
      refine lv_iload hx hb dX7_countMinutes_9 (lv_at hl 5 rfl) ?_
      refine lv_iconst (v := J 2) hx hb dX7_countMinutes_11 (by decide) ?_
      refine lv_aload_n hx hb dX7_countMinutes_12 rfl (lv_at hl 0 rfl) ?_
      refine j_geti hx hb hts hown hK hG (k := a0) (fun w h => List.mem_cons_of_mem _ (u_X7 w h)) (ci := 6) rfl ka0 2 (by decide) (jz := 2) rfl w_fl_RX7_37 dX7_countMinutes_13 ?_
      refine j_imul hx hb dX7_countMinutes_16 ?_
      obtain ⟨K27, hK27, h⟩ := h
      have jK27 : K27 → ∀ (H : Heap) (locs : List Loc), GM D cy o M4 s.heap H locs → ∀ ls : Array Slot, lv_has ls 9 [(4, .int (J x1))] → W p l e rm_X7_countMinutes s m args below meth c H locs 0 0 Qf (F0 m 89 ls []) := by
        intro hcK27 H locs hG ls hl
        have h := hK27 hcK27
        refine lv_iload hx hb dX7_countMinutes_89 (lv_at hl 0 rfl) ?_
        rw [hQf]
        exact j_ireti hx hb hr hlocks hG h (by decide) dX7_countMinutes_91
      obtain ⟨g29, h⟩ := h
      obtain ⟨g30, h⟩ := h
      refine j_icmp_gt (tgt := 89) hx hb dX7_countMinutes_17 (by decide) g29 g30 (fun c28 => ?_) (fun c28 => ?_)
      · have h := h.1 c28
        exact jK27 h H locs hG ls (lv_sub hl [3] rfl)
      · have h := h.2 c28
        refine lv_iload hx hb dX7_countMinutes_20 (lv_at hl 4 rfl) ?_
        refine lv_iload_n hx hb dX7_countMinutes_22 rfl (lv_at hl 1 rfl) ?_
        obtain ⟨g32, h⟩ := h
        obtain ⟨g33, h⟩ := h
        refine j_icmp_ge (tgt := 89) hx hb dX7_countMinutes_23 (by decide) g32 g33 (fun c31 => ?_) (fun c31 => ?_)
        · have h := h.1 c31
          exact jK27 h H locs hG ls (lv_sub hl [3] rfl)
        · have h := h.2 c31
          refine lv_aload_n hx hb dX7_countMinutes_26 rfl (lv_at hl 0 rfl) ?_
          refine lv_iload hx hb dX7_countMinutes_27 (lv_at hl 4 rfl) ?_
          refine lv_iload_n hx hb dX7_countMinutes_29 rfl (lv_at hl 1 rfl) ?_
          refine j_conti (va_runV (As := [.int (J x2), .int (J a2)]) (rest := []) ⟨hx, hb, hml, hown, hts⟩ (A_X7_nextEdge l ka0 h) (cwV 2 hts (gj_V ml_RX7_124 i_X7_nextEdge s_X7_nextEdge n_RX7 k_X7_nextEdge) rfl rfl rfl (by decide +kernel) ⟨by exact Nat.le_of_ble_eq_true rfl, by exact Nat.le_of_ble_eq_true rfl⟩) (j_preV hK hSX hG (ci := 6) rfl ka0 (by decide)) rfl rfl hl.1 rfl (lv_room (Nat.le_of_ble_eq_true rfl)) dX7_countMinutes_30 ⟨by exact Nat.le_of_ble_eq_true rfl, by exact Nat.le_of_ble_eq_true rfl⟩) hG (c2 := 0) (s2 := 0) ⟨by exact Nat.le_of_ble_eq_true rfl, by exact Nat.le_of_ble_eq_true rfl⟩ (fun z34 M35 h H locs hG => ?_)
          obtain ⟨h, eM35⟩ := h
          rw [eM35] at hG
          refine lv_istore (lv' := [(7, .int (J z34)), (0, .ref (rA o a0)), (2, .int (J a2)), (3, .int (J a3)), (4, .int (J x1)), (5, .int (J x2)), (6, .int (J x3))]) hx hb dX7_countMinutes_33 hl (by decide) rfl (fun ls hl => ?_)
          refine lv_aload_n hx hb dX7_countMinutes_35 rfl (lv_at hl 1 rfl) ?_
          refine lv_iload hx hb dX7_countMinutes_36 (lv_at hl 5 rfl) ?_
          refine j_contv (va_runV (As := [.int (J x2)]) (rest := []) ⟨hx, hb, hml, hown, hts⟩ (A_X7_look l ka0 h) (cwV 1 hts (gj_V ml_RX7_115 i_X7_look s_X7_look n_RX7 k_X7_look) rfl rfl rfl (by decide +kernel) ⟨by exact Nat.le_of_ble_eq_true rfl, by exact Nat.le_of_ble_eq_true rfl⟩) (j_preV hK hSX hG (ci := 6) rfl ka0 (by decide)) rfl rfl hl.1 rfl (lv_room (Nat.le_of_ble_eq_true rfl)) dX7_countMinutes_38 ⟨by exact Nat.le_of_ble_eq_true rfl, by exact Nat.le_of_ble_eq_true rfl⟩) hG (c2 := 0) (s2 := 0) ⟨by exact Nat.le_of_ble_eq_true rfl, by exact Nat.le_of_ble_eq_true rfl⟩ (fun M37 h H locs hG => ?_)
          refine lv_iload_n hx hb dX7_countMinutes_41 rfl (lv_at hl 3 rfl) ?_
          obtain ⟨hg, h⟩ := h
          have jK41 : ∀ x40 : Int, (a3 = 0 → x40 = (M37 a0 13) - 1) → (a3 ≠ 0 → x40 = 1 - (M37 a0 13)) → ∀ (H : Heap) (locs : List Loc), GM D cy o M37 s.heap H locs → ∀ ls : Array Slot, lv_has ls 9 [(0, .ref (rA o a0)), (2, .int (J a2)), (3, .int (J a3)), (4, .int (J x1)), (5, .int (J x2)), (6, .int (J x3)), (7, .int (J z34))] → W p l e rm_X7_countMinutes s m args below meth c H locs 0 0 Qf (F0 m 60 ls [.int (J x40)]) := by
            intro x40 qx40_0 qx40_1 H locs hG ls hl
            have h := h x40 qx40_0 qx40_1
            refine lv_istore (lv' := [(8, .int (J x40)), (0, .ref (rA o a0)), (2, .int (J a2)), (3, .int (J a3)), (4, .int (J x1)), (5, .int (J x2)), (6, .int (J x3)), (7, .int (J z34))]) hx hb dX7_countMinutes_60 hl (by decide) rfl (fun ls hl => ?_)
            refine lv_iload hx hb dX7_countMinutes_62 (lv_at hl 4 rfl) ?_
            refine lv_iload hx hb dX7_countMinutes_64 (lv_at hl 0 rfl) ?_
            refine lv_iconst (v := J 0) hx hb dX7_countMinutes_66 (by decide) ?_
            obtain ⟨g44, h⟩ := h
            refine j_mmax hx hb (hml.trans hl.1.symm) hown (hts _ (List.mem_cons_of_mem _ ml_RX7_88)) (hts _ (List.mem_cons_of_mem _ i_mmax)) (hts _ (List.mem_cons_of_mem _ n_Math)) (hts _ (List.mem_cons_of_mem _ k_mmax)) (by exact Nat.le_of_ble_eq_true rfl) (by exact Nat.le_of_ble_eq_true rfl) (by exact Nat.le_of_ble_eq_true rfl) (by exact Nat.le_of_ble_eq_true rfl) g44 (by decide) dX7_countMinutes_67 ?_
            refine lv_iload hx hb dX7_countMinutes_70 (lv_at hl 7 rfl) ?_
            refine lv_iload hx hb dX7_countMinutes_72 (lv_at hl 5 rfl) ?_
            refine j_isub hx hb dX7_countMinutes_74 ?_
            refine j_imul hx hb dX7_countMinutes_75 ?_
            refine j_iadd hx hb dX7_countMinutes_76 ?_
            refine j_topi (fun x45 ex45 => ?_)
            have h := h x45 ex45
            refine lv_istore (lv' := [(4, .int (J x45)), (8, .int (J x40)), (0, .ref (rA o a0)), (2, .int (J a2)), (3, .int (J a3)), (5, .int (J x2)), (6, .int (J x3)), (7, .int (J z34))]) hx hb dX7_countMinutes_77 hl (by decide) rfl (fun ls hl => ?_)
            refine lv_iload hx hb dX7_countMinutes_79 (lv_at hl 7 rfl) ?_
            refine lv_istore (lv' := [(5, .int (J z34)), (4, .int (J x45)), (8, .int (J x40)), (0, .ref (rA o a0)), (2, .int (J a2)), (3, .int (J a3)), (6, .int (J x3)), (7, .int (J z34))]) hx hb dX7_countMinutes_81 hl (by decide) rfl (fun ls hl => ?_)
            refine j_iinc hx hb dX7_countMinutes_83 hl (k := 6) rfl (by decide) (fun x46 ex46 ls hl => ?_)
            have h := h x46 ex46
            have hl : lv_has ls 9 [(6, .int (J x46)), (5, .int (J z34)), (4, .int (J x45)), (8, .int (J x40)), (0, .ref (rA o a0)), (2, .int (J a2)), (3, .int (J a3)), (7, .int (J z34))] := hl
            refine lv_goto (tgt := 9) hx hb dX7_countMinutes_86 (by decide) ?_
            obtain ⟨n47, ln47, iI5⟩ := h
            exact rI5 n47 ln47 x45 z34 x46 M37 iI5 H locs hG ls (lv_sub hl [4, 5, 6, 2, 1, 0] rfl)
          have h := hg
          obtain ⟨g43, h⟩ := h
          refine j_if_eq (tgt := 54) hx hb dX7_countMinutes_42 (by decide) g43 (fun c42 => ?_) (fun c42 => ?_)
          · have h := h.1 c42
            refine lv_aload_n hx hb dX7_countMinutes_54 rfl (lv_at hl 1 rfl) ?_
            refine j_geti hx hb hts hown hK hG (k := a0) (fun w h => List.mem_cons_of_mem _ (u_X7 w h)) (ci := 6) rfl ka0 13 (by decide) (jz := 13) rfl w_fl_RX7_101 dX7_countMinutes_55 ?_
            refine lv_iconst (v := J 1) hx hb dX7_countMinutes_58 (by decide) ?_
            refine j_isub hx hb dX7_countMinutes_59 ?_
            exact jK41 ((M37 a0 13) - 1) (fun _ => rfl) (fun q => absurd q (by omega)) H locs hG ls (lv_sub hl [1, 2, 3, 4, 5, 6, 0] rfl)
          · have h := h.2 c42
            refine lv_iconst (v := J 1) hx hb dX7_countMinutes_45 (by decide) ?_
            refine lv_aload_n hx hb dX7_countMinutes_46 rfl (lv_at hl 1 rfl) ?_
            refine j_geti hx hb hts hown hK hG (k := a0) (fun w h => List.mem_cons_of_mem _ (u_X7 w h)) (ci := 6) rfl ka0 13 (by decide) (jz := 13) rfl w_fl_RX7_101 dX7_countMinutes_47 ?_
            refine j_isub hx hb dX7_countMinutes_50 ?_
            refine lv_goto (tgt := 60) hx hb dX7_countMinutes_51 (by decide) ?_
            exact jK41 (1 - (M37 a0 13)) (fun q => absurd q (by omega)) (fun _ => rfl) H locs hG ls (lv_sub hl [1, 2, 3, 4, 5, 6, 0] rfl)
  exact lI5 n6s 0 a1 0 M iI5 H locs hG ls (lv_sub hl [3, 5, 6, 2, 1, 0] rfl)

abbrev rom_X10_account : Room := { frames := 4, cells := 0, slots := 0, locals := 99 }
set_option maxRecDepth 100000 in
set_option maxHeartbeats 4000000 in
theorem Ao_X10_account (l : Launch) {D : va_G} {cy : Nat → ClassId} {o : Nat} {sK sV : Nat → Nat} {M : jT} {a0 : Int} {a1 : Int} {a2 : Int} {a3 : Int} (ka0 : kd a0 = 10) {Q : Int → jT → Prop} (h : wo_X10_account M a0 a1 a2 a3 Q) : CoI l yX10_account (wj yX10_account cX10_account 7 (some .int)) rom_X10_account D cy o sK sV M [.ref (rA o a0), .int (J a1), .int (J a2), .int (J a3)] Q := by
  refine j_ofW (cc := cX10_account) (maxL := 7) (ret := (some .int)) (by decide) rfl (Nat.le_of_ble_eq_true rfl) ?_
  intro p e s m args below meth c hx hb hr hlocks hml hown hts hK hSX H locs hG ls hl Qf hQf
  have hown : s.vm.findClass RX10 = some m.cls := hown
  have hl : lv_has ls 7 [(0, .ref (rA o a0)), (1, .int (J a1)), (2, .int (J a2)), (3, .int (J a3))] := hl
  unfold wo_X10_account at h
  refine lv_aload_n hx hb dX10_account_0 rfl (lv_at hl 0 rfl) ?_
  refine lv_iload_n hx hb dX10_account_1 rfl (lv_at hl 1 rfl) ?_
  refine j_contv (va_runV (As := [.int (J a1)]) (rest := []) ⟨hx, hb, hml, hown, hts⟩ (Ao_X10_needZone l ka0 h) (cwV 1 hts (gj_V ml_RX10_137 i_X10_needZone s_X10_needZone n_RX10 k_X10_needZone) rfl rfl rfl (by decide +kernel) ⟨by exact Nat.le_of_ble_eq_true rfl, by exact Nat.le_of_ble_eq_true rfl⟩) (j_preV hK hSX hG (ci := 9) rfl ka0 (by decide)) rfl rfl hl.1 rfl (lv_room (Nat.le_of_ble_eq_true rfl)) dX10_account_2 ⟨by exact Nat.le_of_ble_eq_true rfl, by exact Nat.le_of_ble_eq_true rfl⟩) hG (c2 := 0) (s2 := 0) ⟨by exact Nat.le_of_ble_eq_true rfl, by exact Nat.le_of_ble_eq_true rfl⟩ (fun M2 h H locs hG => ?_)
  obtain ⟨h, eM2⟩ := h
  rw [eM2] at hG
  refine lv_iload_n hx hb dX10_account_5 rfl (lv_at hl 2 rfl) ?_
  obtain ⟨g3, h⟩ := h
  refine j_conti (va_runS (As := [.int (J a2)]) (rest := []) ⟨hx, hb, hml, hown, hts⟩ (A_X10_isYear l g3) (va_cwS 1 hts (gj_S ml_RX10_65 i_X10_isYear n_RX10 k_X10_isYear) rfl rfl rfl (by decide +kernel) ⟨by exact Nat.le_of_ble_eq_true rfl, by exact Nat.le_of_ble_eq_true rfl⟩) (j_preS hK hSX hG) rfl rfl hl.1 rfl (lv_room (Nat.le_of_ble_eq_true rfl)) dX10_account_6 ⟨by exact Nat.le_of_ble_eq_true rfl, by exact Nat.le_of_ble_eq_true rfl⟩) hG (c2 := 0) (s2 := 0) ⟨by exact Nat.le_of_ble_eq_true rfl, by exact Nat.le_of_ble_eq_true rfl⟩ (fun z4 M5 ez4 H locs hG => ?_)
  obtain ⟨ez4, eM5⟩ := ez4
  subst ez4
  rw [eM5] at hG
  obtain ⟨K16, hK16, h⟩ := h
  have jK16 : ∀ (x15 : Int), K16 x15 → ∀ (H : Heap) (locs : List Loc), GM D cy o M s.heap H locs → ∀ ls : Array Slot, lv_has ls 7 [(0, .ref (rA o a0)), (1, .int (J a1)), (2, .int (J a2)), (3, .int (J a3))] → W p l e rom_X10_account s m args below meth c H locs 0 0 Qf (F0 m 26 ls [.int (J x15)]) := by
    intro x15 hcK16 H locs hG ls hl
    have h := hK16 x15 hcK16
    refine j_contv (va_runS (As := [.int (J x15)]) (rest := []) ⟨hx, hb, hml, hown, hts⟩ (Ao_X10_needArgument l h) (va_cwS 1 hts (gj_S ml_RX10_72 i_X10_needArgument n_RX10 k_X10_needArgument) rfl rfl rfl (by decide +kernel) ⟨by exact Nat.le_of_ble_eq_true rfl, by exact Nat.le_of_ble_eq_true rfl⟩) (j_preS hK hSX hG) rfl rfl hl.1 rfl (lv_room (Nat.le_of_ble_eq_true rfl)) dX10_account_26 ⟨by exact Nat.le_of_ble_eq_true rfl, by exact Nat.le_of_ble_eq_true rfl⟩) hG (c2 := 0) (s2 := 0) ⟨by exact Nat.le_of_ble_eq_true rfl, by exact Nat.le_of_ble_eq_true rfl⟩ (fun M18 h H locs hG => ?_)
    obtain ⟨h, eM18⟩ := h
    rw [eM18] at hG
    refine lv_aload_n hx hb dX10_account_29 rfl (lv_at hl 0 rfl) ?_
    refine lv_iload_n hx hb dX10_account_30 rfl (lv_at hl 1 rfl) ?_
    refine j_contr (va_runV (As := [.int (J a1)]) (rest := []) ⟨hx, hb, hml, hown, hts⟩ (A_X10_compiled l ka0 h) (cwV 1 hts (gj_V ml_RX10_144 i_X10_compiled s_X10_compiled n_RX10 k_X10_compiled) rfl rfl rfl (by decide +kernel) ⟨by exact Nat.le_of_ble_eq_true rfl, by exact Nat.le_of_ble_eq_true rfl⟩) (j_preV hK hSX hG (ci := 9) rfl ka0 (by decide)) rfl rfl hl.1 rfl (lv_room (Nat.le_of_ble_eq_true rfl)) dX10_account_31 ⟨by exact Nat.le_of_ble_eq_true rfl, by exact Nat.le_of_ble_eq_true rfl⟩) hG (c2 := 0) (s2 := 0) ⟨by exact Nat.le_of_ble_eq_true rfl, by exact Nat.le_of_ble_eq_true rfl⟩ (fun k19 M20 h hk19 H locs hG => ?_)
    refine lv_astore (lv' := [(4, .ref (rA o k19)), (0, .ref (rA o a0)), (1, .int (J a1)), (2, .int (J a2)), (3, .int (J a3))]) hx hb dX10_account_34 hl (by decide) rfl (fun ls hl => ?_)
    refine lv_iload_n hx hb dX10_account_36 rfl (lv_at hl 3 rfl) ?_
    obtain ⟨g21, h⟩ := h
    refine j_conti (va_runS (As := [.int (J a2)]) (rest := []) ⟨hx, hb, hml, hown, hts⟩ (A_X1_yearStart l g21) (va_cwS 1 hts (gj_S ml_RX10_101 i_X1_yearStart n_RX1 k_X1_yearStart) rfl rfl rfl (by decide +kernel) ⟨by exact Nat.le_of_ble_eq_true rfl, by exact Nat.le_of_ble_eq_true rfl⟩) (j_preS hK hSX hG) rfl rfl hl.1 rfl (lv_room (Nat.le_of_ble_eq_true rfl)) dX10_account_37 ⟨by exact Nat.le_of_ble_eq_true rfl, by exact Nat.le_of_ble_eq_true rfl⟩) hG (c2 := 0) (s2 := 0) ⟨by exact Nat.le_of_ble_eq_true rfl, by exact Nat.le_of_ble_eq_true rfl⟩ (fun z22 M23 ez22 H locs hG => ?_)
    obtain ⟨ez22, eM23⟩ := ez22
    subst ez22
    rw [eM23] at hG
    refine j_topi (fun x24 ex24 => ?_)
    have h := h x24 ex24
    refine lv_istore (lv' := [(5, .int (J x24)), (4, .ref (rA o k19)), (0, .ref (rA o a0)), (1, .int (J a1)), (2, .int (J a2)), (3, .int (J a3))]) hx hb dX10_account_40 hl (by decide) rfl (fun ls hl => ?_)
    refine lv_iload_n hx hb dX10_account_42 rfl (lv_at hl 4 rfl) ?_
    refine lv_iconst (v := J 1) hx hb dX10_account_43 (by decide) ?_
    refine j_iadd hx hb dX10_account_44 ?_
    obtain ⟨g25, h⟩ := h
    refine j_conti (va_runS (As := [.int (J (a2 + 1))]) (rest := []) ⟨hx, hb, hml, hown, hts⟩ (A_X1_yearStart l g25) (va_cwS 1 hts (gj_S ml_RX10_101 i_X1_yearStart n_RX1 k_X1_yearStart) rfl rfl rfl (by decide +kernel) ⟨by exact Nat.le_of_ble_eq_true rfl, by exact Nat.le_of_ble_eq_true rfl⟩) (j_preS hK hSX hG) rfl rfl hl.1 rfl (lv_room (Nat.le_of_ble_eq_true rfl)) dX10_account_45 ⟨by exact Nat.le_of_ble_eq_true rfl, by exact Nat.le_of_ble_eq_true rfl⟩) hG (c2 := 0) (s2 := 0) ⟨by exact Nat.le_of_ble_eq_true rfl, by exact Nat.le_of_ble_eq_true rfl⟩ (fun z26 M27 ez26 H locs hG => ?_)
    obtain ⟨ez26, eM27⟩ := ez26
    subst ez26
    rw [eM27] at hG
    refine j_topi (fun x28 ex28 => ?_)
    have h := h x28 ex28
    refine lv_istore (lv' := [(6, .int (J x28)), (5, .int (J x24)), (4, .ref (rA o k19)), (0, .ref (rA o a0)), (1, .int (J a1)), (2, .int (J a2)), (3, .int (J a3))]) hx hb dX10_account_48 hl (by decide) rfl (fun ls hl => ?_)
    refine lv_iload_n hx hb dX10_account_50 rfl (lv_at hl 6 rfl) ?_
    obtain ⟨g29, h⟩ := h
    rcases em_eqI (a3) 0 with c30 | c30_0
    · refine j_tsw hx hb dX10_account_51 g29 (k := 0) (tgt := 76) c30 ⟨by decide, by decide, rfl⟩ (by decide) ?_
      have h := h.1 c30
      refine lv_aload hx hb dX10_account_76 (lv_at hl 2 rfl) ?_
      refine lv_iload hx hb dX10_account_78 (lv_at hl 0 rfl) ?_
      refine j_conti (va_runV (As := [.int (J x28)]) (rest := []) ⟨hx, hb, hml, hown, hts⟩ (A_X7_beginningOf l hk19 h) (cwV 1 hts (gj_V ml_RX10_259 i_X7_beginningOf s_X7_beginningOf n_RX7 k_X7_beginningOf) rfl rfl rfl (by decide +kernel) ⟨by exact Nat.le_of_ble_eq_true rfl, by exact Nat.le_of_ble_eq_true rfl⟩) (j_preV hK hSX hG (ci := 6) rfl hk19 (by decide)) rfl rfl hl.1 rfl (lv_room (Nat.le_of_ble_eq_true rfl)) dX10_account_80 ⟨by exact Nat.le_of_ble_eq_true rfl, by exact Nat.le_of_ble_eq_true rfl⟩) hG (c2 := 0) (s2 := 0) ⟨by exact Nat.le_of_ble_eq_true rfl, by exact Nat.le_of_ble_eq_true rfl⟩ (fun z31 M32 h H locs hG => ?_)
      refine lv_aload hx hb dX10_account_83 (lv_at hl 2 rfl) ?_
      refine lv_iload hx hb dX10_account_85 (lv_at hl 1 rfl) ?_
      refine j_conti (va_runV (As := [.int (J x24)]) (rest := [.int (J z31)]) ⟨hx, hb, hml, hown, hts⟩ (A_X7_beginningOf l hk19 h) (cwV 1 hts (gj_V ml_RX10_259 i_X7_beginningOf s_X7_beginningOf n_RX7 k_X7_beginningOf) rfl rfl rfl (by decide +kernel) ⟨by exact Nat.le_of_ble_eq_true rfl, by exact Nat.le_of_ble_eq_true rfl⟩) (j_preV hK hSX hG (ci := 6) rfl hk19 (by decide)) rfl rfl hl.1 rfl (lv_room (Nat.le_of_ble_eq_true rfl)) dX10_account_87 ⟨by exact Nat.le_of_ble_eq_true rfl, by exact Nat.le_of_ble_eq_true rfl⟩) hG (c2 := 0) (s2 := 0) ⟨by exact Nat.le_of_ble_eq_true rfl, by exact Nat.le_of_ble_eq_true rfl⟩ (fun z33 M34 h H locs hG => ?_)
      refine j_isub hx hb dX10_account_90 ?_
      rw [hQf]
      exact j_ireti hx hb hr hlocks hG h (by decide) dX10_account_91
    · rcases em_eqI (a3) 1 with c30 | c30_1
      · refine j_tsw hx hb dX10_account_51 g29 (k := 1) (tgt := 92) c30 ⟨by decide, by decide, rfl⟩ (by decide) ?_
        have h := h.2.1 c30
        refine lv_aload hx hb dX10_account_92 (lv_at hl 2 rfl) ?_
        refine lv_sipush (v := J 1440) hx hb dX10_account_94 (by decide) ?_
        refine lv_iload hx hb dX10_account_97 (lv_at hl 1 rfl) ?_
        refine j_imul hx hb dX10_account_99 ?_
        refine lv_sipush (v := J 1440) hx hb dX10_account_100 (by decide) ?_
        refine lv_iload hx hb dX10_account_103 (lv_at hl 0 rfl) ?_
        refine j_imul hx hb dX10_account_105 ?_
        refine lv_iconst (v := J 1) hx hb dX10_account_106 (by decide) ?_
        refine j_conti (va_runV (As := [.int (J (1440 * x24)), .int (J (1440 * x28)), .int (J 1)]) (rest := []) ⟨hx, hb, hml, hown, hts⟩ (A_X7_countMinutes l hk19 h) (cwV 3 hts (gj_V ml_RX10_262 i_X7_countMinutes s_X7_countMinutes n_RX7 k_X7_countMinutes) rfl rfl rfl (by decide +kernel) ⟨by exact Nat.le_of_ble_eq_true rfl, by exact Nat.le_of_ble_eq_true rfl⟩) (j_preV hK hSX hG (ci := 6) rfl hk19 (by decide)) rfl rfl hl.1 rfl (lv_room (Nat.le_of_ble_eq_true rfl)) dX10_account_107 ⟨by exact Nat.le_of_ble_eq_true rfl, by exact Nat.le_of_ble_eq_true rfl⟩) hG (c2 := 0) (s2 := 0) ⟨by exact Nat.le_of_ble_eq_true rfl, by exact Nat.le_of_ble_eq_true rfl⟩ (fun z35 M36 h H locs hG => ?_)
        rw [hQf]
        exact j_ireti hx hb hr hlocks hG h (by decide) dX10_account_110
      · rcases em_eqI (a3) 2 with c30 | c30_2
        · refine j_tsw hx hb dX10_account_51 g29 (k := 2) (tgt := 111) c30 ⟨by decide, by decide, rfl⟩ (by decide) ?_
          have h := h.2.2.1 c30
          refine lv_aload hx hb dX10_account_111 (lv_at hl 2 rfl) ?_
          refine lv_sipush (v := J 1440) hx hb dX10_account_113 (by decide) ?_
          refine lv_iload hx hb dX10_account_116 (lv_at hl 1 rfl) ?_
          refine j_imul hx hb dX10_account_118 ?_
          refine lv_sipush (v := J 1440) hx hb dX10_account_119 (by decide) ?_
          refine lv_iload hx hb dX10_account_122 (lv_at hl 0 rfl) ?_
          refine j_imul hx hb dX10_account_124 ?_
          refine lv_iconst (v := J 0) hx hb dX10_account_125 (by decide) ?_
          refine j_conti (va_runV (As := [.int (J (1440 * x24)), .int (J (1440 * x28)), .int (J 0)]) (rest := []) ⟨hx, hb, hml, hown, hts⟩ (A_X7_countMinutes l hk19 h) (cwV 3 hts (gj_V ml_RX10_262 i_X7_countMinutes s_X7_countMinutes n_RX7 k_X7_countMinutes) rfl rfl rfl (by decide +kernel) ⟨by exact Nat.le_of_ble_eq_true rfl, by exact Nat.le_of_ble_eq_true rfl⟩) (j_preV hK hSX hG (ci := 6) rfl hk19 (by decide)) rfl rfl hl.1 rfl (lv_room (Nat.le_of_ble_eq_true rfl)) dX10_account_126 ⟨by exact Nat.le_of_ble_eq_true rfl, by exact Nat.le_of_ble_eq_true rfl⟩) hG (c2 := 0) (s2 := 0) ⟨by exact Nat.le_of_ble_eq_true rfl, by exact Nat.le_of_ble_eq_true rfl⟩ (fun z37 M38 h H locs hG => ?_)
          rw [hQf]
          exact j_ireti hx hb hr hlocks hG h (by decide) dX10_account_129
        · have c30 : a3 ≠ 0 ∧ a3 ≠ 1 ∧ a3 ≠ 2 := ⟨c30_0, c30_1, c30_2⟩
          have h := h.2.2.2 c30
          refine j_tswd hx hb dX10_account_51 g29 (tgt := 130) (by omega) (by decide) ?_
          refine lv_sipush (v := J 1440) hx hb dX10_account_130 (by decide) ?_
          refine lv_iload hx hb dX10_account_133 (lv_at hl 0 rfl) ?_
          refine lv_iload hx hb dX10_account_135 (lv_at hl 1 rfl) ?_
          refine j_isub hx hb dX10_account_137 ?_
          refine j_imul hx hb dX10_account_138 ?_
          rw [hQf]
          exact j_ireti hx hb hr hlocks hG h (by decide) dX10_account_139
  obtain ⟨K43, hK43, h⟩ := h
  have jK43 : K43 → ∀ (H : Heap) (locs : List Loc), GM D cy o M s.heap H locs → ∀ ls : Array Slot, lv_has ls 7 [(0, .ref (rA o a0)), (1, .int (J a1)), (2, .int (J a2)), (3, .int (J a3))] → W p l e rom_X10_account s m args below meth c H locs 0 0 Qf (F0 m 25 ls []) := by
    intro hcK43 H locs hG ls hl
    have h := hK43 hcK43
    refine lv_iconst (v := J 0) hx hb dX10_account_25 (by decide) ?_
    exact jK16 0 h H locs hG ls (lv_sub hl [0, 1, 2, 3] rfl)
  refine j_if_eq_b (tgt := 25) hx hb dX10_account_9 (by decide) (fun c44 => ?_) (fun c44 => ?_)
  · have h := h.1 c44
    exact jK43 h H locs hG ls (lv_sub hl [0, 1, 2, 3] rfl)
  · have h := h.2 c44
    refine lv_iload_n hx hb dX10_account_12 rfl (lv_at hl 3 rfl) ?_
    obtain ⟨g46, h⟩ := h
    refine j_if_lt (tgt := 25) hx hb dX10_account_13 (by decide) g46 (fun c45 => ?_) (fun c45 => ?_)
    · have h := h.1 c45
      exact jK43 h H locs hG ls (lv_sub hl [0, 1, 2, 3] rfl)
    · have h := h.2 c45
      refine lv_iload_n hx hb dX10_account_16 rfl (lv_at hl 3 rfl) ?_
      refine lv_iconst (v := J 3) hx hb dX10_account_17 (by decide) ?_
      refine j_icmp_gt (tgt := 25) hx hb dX10_account_18 (by decide) g46 (by decide) (fun c47 => ?_) (fun c47 => ?_)
      · have h := h.1 c47
        exact jK43 h H locs hG ls (lv_sub hl [0, 1, 2, 3] rfl)
      · have h := h.2 c47
        refine lv_iconst (v := J 1) hx hb dX10_account_21 (by decide) ?_
        refine lv_goto (tgt := 26) hx hb dX10_account_22 (by decide) ?_
        exact jK16 1 h H locs hG ls (lv_sub hl [0, 1, 2, 3] rfl)
abbrev rm_X10_account : Room := { frames := 8, cells := 1, slots := 6, locals := 131 }
set_option maxRecDepth 100000 in
set_option maxHeartbeats 4000000 in
theorem A_X10_account (l : Launch) (hst : l.stackTraces = false) {D : va_G} {cy : Nat → ClassId} {o : Nat} {sK sV : Nat → Nat} {M : jT} {a0 : Int} {a1 : Int} {a2 : Int} {a3 : Int} (ka0 : kd a0 = 10) {Q : Int → jT → Prop} {X : Nat → jT → Prop} (h : wp_X10_account M a0 a1 a2 a3 Q X) : CxI l yX10_account (wj yX10_account cX10_account 7 (some .int)) rm_X10_account D cy o sK sV M [.ref (rA o a0), .int (J a1), .int (J a2), .int (J a3)] Q X := by
  refine j_ofWx (cc := cX10_account) (maxL := 7) (ret := (some .int)) (by decide) rfl (Nat.le_of_ble_eq_true rfl) ?_
  intro p e s m args below meth c hx hb hr hlocks hout hml hown hts hK hSX H locs hsz hG ls hl Qf hQf
  have hown : s.vm.findClass RX10 = some m.cls := hown
  have hl : lv_has ls 7 [(0, .ref (rA o a0)), (1, .int (J a1)), (2, .int (J a2)), (3, .int (J a3))] := hl
  unfold wp_X10_account at h
  refine lv_aload_n hx hb dX10_account_0 rfl (lv_at hl 0 rfl) ?_
  refine lv_iload_n hx hb dX10_account_1 rfl (lv_at hl 1 rfl) ?_
  rcases h with h | h
  · refine j_contv (va_runV (As := [.int (J a1)]) (rest := []) ⟨hx, hb, hml, hown, hts⟩ (Ao_X10_needZone l ka0 h) (cwV 1 hts (gj_V ml_RX10_137 i_X10_needZone s_X10_needZone n_RX10 k_X10_needZone) rfl rfl rfl (by decide +kernel) ⟨by exact Nat.le_of_ble_eq_true rfl, by exact Nat.le_of_ble_eq_true rfl⟩) (j_preV hK hSX hG (ci := 9) rfl ka0 (by decide)) rfl rfl hl.1 rfl (lv_room (Nat.le_of_ble_eq_true rfl)) dX10_account_2 ⟨by exact Nat.le_of_ble_eq_true rfl, by exact Nat.le_of_ble_eq_true rfl⟩) hG (c2 := 0) (s2 := 0) ⟨by exact Nat.le_of_ble_eq_true rfl, by exact Nat.le_of_ble_eq_true rfl⟩ (fun M2 h H locs hG => ?_)
    obtain ⟨h, eM2⟩ := h
    rw [eM2] at hG
    refine lv_iload_n hx hb dX10_account_5 rfl (lv_at hl 2 rfl) ?_
    obtain ⟨g3, h⟩ := h
    refine j_conti (va_runS (As := [.int (J a2)]) (rest := []) ⟨hx, hb, hml, hown, hts⟩ (A_X10_isYear l g3) (va_cwS 1 hts (gj_S ml_RX10_65 i_X10_isYear n_RX10 k_X10_isYear) rfl rfl rfl (by decide +kernel) ⟨by exact Nat.le_of_ble_eq_true rfl, by exact Nat.le_of_ble_eq_true rfl⟩) (j_preS hK hSX hG) rfl rfl hl.1 rfl (lv_room (Nat.le_of_ble_eq_true rfl)) dX10_account_6 ⟨by exact Nat.le_of_ble_eq_true rfl, by exact Nat.le_of_ble_eq_true rfl⟩) hG (c2 := 0) (s2 := 0) ⟨by exact Nat.le_of_ble_eq_true rfl, by exact Nat.le_of_ble_eq_true rfl⟩ (fun z4 M5 ez4 H locs hG => ?_)
    obtain ⟨ez4, eM5⟩ := ez4
    subst ez4
    rw [eM5] at hG
    obtain ⟨K16, hK16, h⟩ := h
    have jK16 : ∀ (x15 : Int), K16 x15 → ∀ (H : Heap) (locs : List Loc), GM D cy o M s.heap H locs → ∀ ls : Array Slot, lv_has ls 7 [(0, .ref (rA o a0)), (1, .int (J a1)), (2, .int (J a2)), (3, .int (J a3))] → W p l e rm_X10_account s m args below meth c H locs 0 0 Qf (F0 m 26 ls [.int (J x15)]) := by
      intro x15 hcK16 H locs hG ls hl
      have h := hK16 x15 hcK16
      rcases h with h | h
      · refine j_contv (va_runS (As := [.int (J x15)]) (rest := []) ⟨hx, hb, hml, hown, hts⟩ (Ao_X10_needArgument l h) (va_cwS 1 hts (gj_S ml_RX10_72 i_X10_needArgument n_RX10 k_X10_needArgument) rfl rfl rfl (by decide +kernel) ⟨by exact Nat.le_of_ble_eq_true rfl, by exact Nat.le_of_ble_eq_true rfl⟩) (j_preS hK hSX hG) rfl rfl hl.1 rfl (lv_room (Nat.le_of_ble_eq_true rfl)) dX10_account_26 ⟨by exact Nat.le_of_ble_eq_true rfl, by exact Nat.le_of_ble_eq_true rfl⟩) hG (c2 := 0) (s2 := 0) ⟨by exact Nat.le_of_ble_eq_true rfl, by exact Nat.le_of_ble_eq_true rfl⟩ (fun M18 h H locs hG => ?_)
        obtain ⟨h, eM18⟩ := h
        rw [eM18] at hG
        refine lv_aload_n hx hb dX10_account_29 rfl (lv_at hl 0 rfl) ?_
        refine lv_iload_n hx hb dX10_account_30 rfl (lv_at hl 1 rfl) ?_
        refine j_contr (va_runV (As := [.int (J a1)]) (rest := []) ⟨hx, hb, hml, hown, hts⟩ (A_X10_compiled l ka0 h) (cwV 1 hts (gj_V ml_RX10_144 i_X10_compiled s_X10_compiled n_RX10 k_X10_compiled) rfl rfl rfl (by decide +kernel) ⟨by exact Nat.le_of_ble_eq_true rfl, by exact Nat.le_of_ble_eq_true rfl⟩) (j_preV hK hSX hG (ci := 9) rfl ka0 (by decide)) rfl rfl hl.1 rfl (lv_room (Nat.le_of_ble_eq_true rfl)) dX10_account_31 ⟨by exact Nat.le_of_ble_eq_true rfl, by exact Nat.le_of_ble_eq_true rfl⟩) hG (c2 := 0) (s2 := 0) ⟨by exact Nat.le_of_ble_eq_true rfl, by exact Nat.le_of_ble_eq_true rfl⟩ (fun k19 M20 h hk19 H locs hG => ?_)
        refine lv_astore (lv' := [(4, .ref (rA o k19)), (0, .ref (rA o a0)), (1, .int (J a1)), (2, .int (J a2)), (3, .int (J a3))]) hx hb dX10_account_34 hl (by decide) rfl (fun ls hl => ?_)
        refine lv_iload_n hx hb dX10_account_36 rfl (lv_at hl 3 rfl) ?_
        obtain ⟨g21, h⟩ := h
        refine j_conti (va_runS (As := [.int (J a2)]) (rest := []) ⟨hx, hb, hml, hown, hts⟩ (A_X1_yearStart l g21) (va_cwS 1 hts (gj_S ml_RX10_101 i_X1_yearStart n_RX1 k_X1_yearStart) rfl rfl rfl (by decide +kernel) ⟨by exact Nat.le_of_ble_eq_true rfl, by exact Nat.le_of_ble_eq_true rfl⟩) (j_preS hK hSX hG) rfl rfl hl.1 rfl (lv_room (Nat.le_of_ble_eq_true rfl)) dX10_account_37 ⟨by exact Nat.le_of_ble_eq_true rfl, by exact Nat.le_of_ble_eq_true rfl⟩) hG (c2 := 0) (s2 := 0) ⟨by exact Nat.le_of_ble_eq_true rfl, by exact Nat.le_of_ble_eq_true rfl⟩ (fun z22 M23 ez22 H locs hG => ?_)
        obtain ⟨ez22, eM23⟩ := ez22
        subst ez22
        rw [eM23] at hG
        refine j_topi (fun x24 ex24 => ?_)
        have h := h x24 ex24
        refine lv_istore (lv' := [(5, .int (J x24)), (4, .ref (rA o k19)), (0, .ref (rA o a0)), (1, .int (J a1)), (2, .int (J a2)), (3, .int (J a3))]) hx hb dX10_account_40 hl (by decide) rfl (fun ls hl => ?_)
        refine lv_iload_n hx hb dX10_account_42 rfl (lv_at hl 4 rfl) ?_
        refine lv_iconst (v := J 1) hx hb dX10_account_43 (by decide) ?_
        refine j_iadd hx hb dX10_account_44 ?_
        obtain ⟨g25, h⟩ := h
        refine j_conti (va_runS (As := [.int (J (a2 + 1))]) (rest := []) ⟨hx, hb, hml, hown, hts⟩ (A_X1_yearStart l g25) (va_cwS 1 hts (gj_S ml_RX10_101 i_X1_yearStart n_RX1 k_X1_yearStart) rfl rfl rfl (by decide +kernel) ⟨by exact Nat.le_of_ble_eq_true rfl, by exact Nat.le_of_ble_eq_true rfl⟩) (j_preS hK hSX hG) rfl rfl hl.1 rfl (lv_room (Nat.le_of_ble_eq_true rfl)) dX10_account_45 ⟨by exact Nat.le_of_ble_eq_true rfl, by exact Nat.le_of_ble_eq_true rfl⟩) hG (c2 := 0) (s2 := 0) ⟨by exact Nat.le_of_ble_eq_true rfl, by exact Nat.le_of_ble_eq_true rfl⟩ (fun z26 M27 ez26 H locs hG => ?_)
        obtain ⟨ez26, eM27⟩ := ez26
        subst ez26
        rw [eM27] at hG
        refine j_topi (fun x28 ex28 => ?_)
        have h := h x28 ex28
        refine lv_istore (lv' := [(6, .int (J x28)), (5, .int (J x24)), (4, .ref (rA o k19)), (0, .ref (rA o a0)), (1, .int (J a1)), (2, .int (J a2)), (3, .int (J a3))]) hx hb dX10_account_48 hl (by decide) rfl (fun ls hl => ?_)
        refine lv_iload_n hx hb dX10_account_50 rfl (lv_at hl 6 rfl) ?_
        obtain ⟨g29, h⟩ := h
        rcases em_eqI (a3) 0 with c30 | c30_0
        · refine j_tsw hx hb dX10_account_51 g29 (k := 0) (tgt := 76) c30 ⟨by decide, by decide, rfl⟩ (by decide) ?_
          have h := h.1 c30
          refine lv_aload hx hb dX10_account_76 (lv_at hl 2 rfl) ?_
          refine lv_iload hx hb dX10_account_78 (lv_at hl 0 rfl) ?_
          refine j_conti (va_runV (As := [.int (J x28)]) (rest := []) ⟨hx, hb, hml, hown, hts⟩ (A_X7_beginningOf l hk19 h) (cwV 1 hts (gj_V ml_RX10_259 i_X7_beginningOf s_X7_beginningOf n_RX7 k_X7_beginningOf) rfl rfl rfl (by decide +kernel) ⟨by exact Nat.le_of_ble_eq_true rfl, by exact Nat.le_of_ble_eq_true rfl⟩) (j_preV hK hSX hG (ci := 6) rfl hk19 (by decide)) rfl rfl hl.1 rfl (lv_room (Nat.le_of_ble_eq_true rfl)) dX10_account_80 ⟨by exact Nat.le_of_ble_eq_true rfl, by exact Nat.le_of_ble_eq_true rfl⟩) hG (c2 := 0) (s2 := 0) ⟨by exact Nat.le_of_ble_eq_true rfl, by exact Nat.le_of_ble_eq_true rfl⟩ (fun z31 M32 h H locs hG => ?_)
          refine lv_aload hx hb dX10_account_83 (lv_at hl 2 rfl) ?_
          refine lv_iload hx hb dX10_account_85 (lv_at hl 1 rfl) ?_
          refine j_conti (va_runV (As := [.int (J x24)]) (rest := [.int (J z31)]) ⟨hx, hb, hml, hown, hts⟩ (A_X7_beginningOf l hk19 h) (cwV 1 hts (gj_V ml_RX10_259 i_X7_beginningOf s_X7_beginningOf n_RX7 k_X7_beginningOf) rfl rfl rfl (by decide +kernel) ⟨by exact Nat.le_of_ble_eq_true rfl, by exact Nat.le_of_ble_eq_true rfl⟩) (j_preV hK hSX hG (ci := 6) rfl hk19 (by decide)) rfl rfl hl.1 rfl (lv_room (Nat.le_of_ble_eq_true rfl)) dX10_account_87 ⟨by exact Nat.le_of_ble_eq_true rfl, by exact Nat.le_of_ble_eq_true rfl⟩) hG (c2 := 0) (s2 := 0) ⟨by exact Nat.le_of_ble_eq_true rfl, by exact Nat.le_of_ble_eq_true rfl⟩ (fun z33 M34 h H locs hG => ?_)
          refine j_isub hx hb dX10_account_90 ?_
          rw [hQf]
          exact vx_ret (j_ireti hx hb hr hlocks hG h (by decide) dX10_account_91)
        · rcases em_eqI (a3) 1 with c30 | c30_1
          · refine j_tsw hx hb dX10_account_51 g29 (k := 1) (tgt := 92) c30 ⟨by decide, by decide, rfl⟩ (by decide) ?_
            have h := h.2.1 c30
            refine lv_aload hx hb dX10_account_92 (lv_at hl 2 rfl) ?_
            refine lv_sipush (v := J 1440) hx hb dX10_account_94 (by decide) ?_
            refine lv_iload hx hb dX10_account_97 (lv_at hl 1 rfl) ?_
            refine j_imul hx hb dX10_account_99 ?_
            refine lv_sipush (v := J 1440) hx hb dX10_account_100 (by decide) ?_
            refine lv_iload hx hb dX10_account_103 (lv_at hl 0 rfl) ?_
            refine j_imul hx hb dX10_account_105 ?_
            refine lv_iconst (v := J 1) hx hb dX10_account_106 (by decide) ?_
            refine j_conti (va_runV (As := [.int (J (1440 * x24)), .int (J (1440 * x28)), .int (J 1)]) (rest := []) ⟨hx, hb, hml, hown, hts⟩ (A_X7_countMinutes l hk19 h) (cwV 3 hts (gj_V ml_RX10_262 i_X7_countMinutes s_X7_countMinutes n_RX7 k_X7_countMinutes) rfl rfl rfl (by decide +kernel) ⟨by exact Nat.le_of_ble_eq_true rfl, by exact Nat.le_of_ble_eq_true rfl⟩) (j_preV hK hSX hG (ci := 6) rfl hk19 (by decide)) rfl rfl hl.1 rfl (lv_room (Nat.le_of_ble_eq_true rfl)) dX10_account_107 ⟨by exact Nat.le_of_ble_eq_true rfl, by exact Nat.le_of_ble_eq_true rfl⟩) hG (c2 := 0) (s2 := 0) ⟨by exact Nat.le_of_ble_eq_true rfl, by exact Nat.le_of_ble_eq_true rfl⟩ (fun z35 M36 h H locs hG => ?_)
            rw [hQf]
            exact vx_ret (j_ireti hx hb hr hlocks hG h (by decide) dX10_account_110)
          · rcases em_eqI (a3) 2 with c30 | c30_2
            · refine j_tsw hx hb dX10_account_51 g29 (k := 2) (tgt := 111) c30 ⟨by decide, by decide, rfl⟩ (by decide) ?_
              have h := h.2.2.1 c30
              refine lv_aload hx hb dX10_account_111 (lv_at hl 2 rfl) ?_
              refine lv_sipush (v := J 1440) hx hb dX10_account_113 (by decide) ?_
              refine lv_iload hx hb dX10_account_116 (lv_at hl 1 rfl) ?_
              refine j_imul hx hb dX10_account_118 ?_
              refine lv_sipush (v := J 1440) hx hb dX10_account_119 (by decide) ?_
              refine lv_iload hx hb dX10_account_122 (lv_at hl 0 rfl) ?_
              refine j_imul hx hb dX10_account_124 ?_
              refine lv_iconst (v := J 0) hx hb dX10_account_125 (by decide) ?_
              refine j_conti (va_runV (As := [.int (J (1440 * x24)), .int (J (1440 * x28)), .int (J 0)]) (rest := []) ⟨hx, hb, hml, hown, hts⟩ (A_X7_countMinutes l hk19 h) (cwV 3 hts (gj_V ml_RX10_262 i_X7_countMinutes s_X7_countMinutes n_RX7 k_X7_countMinutes) rfl rfl rfl (by decide +kernel) ⟨by exact Nat.le_of_ble_eq_true rfl, by exact Nat.le_of_ble_eq_true rfl⟩) (j_preV hK hSX hG (ci := 6) rfl hk19 (by decide)) rfl rfl hl.1 rfl (lv_room (Nat.le_of_ble_eq_true rfl)) dX10_account_126 ⟨by exact Nat.le_of_ble_eq_true rfl, by exact Nat.le_of_ble_eq_true rfl⟩) hG (c2 := 0) (s2 := 0) ⟨by exact Nat.le_of_ble_eq_true rfl, by exact Nat.le_of_ble_eq_true rfl⟩ (fun z37 M38 h H locs hG => ?_)
              rw [hQf]
              exact vx_ret (j_ireti hx hb hr hlocks hG h (by decide) dX10_account_129)
            · have c30 : a3 ≠ 0 ∧ a3 ≠ 1 ∧ a3 ≠ 2 := ⟨c30_0, c30_1, c30_2⟩
              have h := h.2.2.2 c30
              refine j_tswd hx hb dX10_account_51 g29 (tgt := 130) (by omega) (by decide) ?_
              refine lv_sipush (v := J 1440) hx hb dX10_account_130 (by decide) ?_
              refine lv_iload hx hb dX10_account_133 (lv_at hl 0 rfl) ?_
              refine lv_iload hx hb dX10_account_135 (lv_at hl 1 rfl) ?_
              refine j_isub hx hb dX10_account_137 ?_
              refine j_imul hx hb dX10_account_138 ?_
              rw [hQf]
              exact vx_ret (j_ireti hx hb hr hlocks hG h (by decide) dX10_account_139)
      · refine j_contxv (vx_runS (As := [.int (J x15)]) (rest := []) ⟨hx, hb, hml, hown, hts⟩ (A_X10_needArgument l hst h) (va_cwS 1 hts (gj_S ml_RX10_72 i_X10_needArgument n_RX10 k_X10_needArgument) rfl rfl rfl (by decide +kernel) ⟨by exact Nat.le_of_ble_eq_true rfl, by exact Nat.le_of_ble_eq_true rfl⟩) (j_preS hK hSX hG) rfl rfl hl.1 rfl (lv_room (Nat.le_of_ble_eq_true rfl)) dX10_account_26 ⟨by exact Nat.le_of_ble_eq_true rfl, by exact Nat.le_of_ble_eq_true rfl⟩) hG (c2 := 1) (s2 := 6) ⟨by exact Nat.le_of_ble_eq_true rfl, by exact Nat.le_of_ble_eq_true rfl⟩ (fun x M h ce q H locs hG h1 h2 h3 => ?_) (fun M h H locs hG => h.elim)
        rw [hQf]
        exact j_xout hlocks hout hG h h1 h2 h3 (by decide)
    obtain ⟨K43, hK43, h⟩ := h
    have jK43 : K43 → ∀ (H : Heap) (locs : List Loc), GM D cy o M s.heap H locs → ∀ ls : Array Slot, lv_has ls 7 [(0, .ref (rA o a0)), (1, .int (J a1)), (2, .int (J a2)), (3, .int (J a3))] → W p l e rm_X10_account s m args below meth c H locs 0 0 Qf (F0 m 25 ls []) := by
      intro hcK43 H locs hG ls hl
      have h := hK43 hcK43
      refine lv_iconst (v := J 0) hx hb dX10_account_25 (by decide) ?_
      exact jK16 0 h H locs hG ls (lv_sub hl [0, 1, 2, 3] rfl)
    refine j_if_eq_b (tgt := 25) hx hb dX10_account_9 (by decide) (fun c44 => ?_) (fun c44 => ?_)
    · have h := h.1 c44
      exact jK43 h H locs hG ls (lv_sub hl [0, 1, 2, 3] rfl)
    · have h := h.2 c44
      refine lv_iload_n hx hb dX10_account_12 rfl (lv_at hl 3 rfl) ?_
      obtain ⟨g46, h⟩ := h
      refine j_if_lt (tgt := 25) hx hb dX10_account_13 (by decide) g46 (fun c45 => ?_) (fun c45 => ?_)
      · have h := h.1 c45
        exact jK43 h H locs hG ls (lv_sub hl [0, 1, 2, 3] rfl)
      · have h := h.2 c45
        refine lv_iload_n hx hb dX10_account_16 rfl (lv_at hl 3 rfl) ?_
        refine lv_iconst (v := J 3) hx hb dX10_account_17 (by decide) ?_
        refine j_icmp_gt (tgt := 25) hx hb dX10_account_18 (by decide) g46 (by decide) (fun c47 => ?_) (fun c47 => ?_)
        · have h := h.1 c47
          exact jK43 h H locs hG ls (lv_sub hl [0, 1, 2, 3] rfl)
        · have h := h.2 c47
          refine lv_iconst (v := J 1) hx hb dX10_account_21 (by decide) ?_
          refine lv_goto (tgt := 26) hx hb dX10_account_22 (by decide) ?_
          exact jK16 1 h H locs hG ls (lv_sub hl [0, 1, 2, 3] rfl)
  · refine j_contxv (vx_runV (As := [.int (J a1)]) (rest := []) ⟨hx, hb, hml, hown, hts⟩ (A_X10_needZone l hst ka0 h) (cwV 1 hts (gj_V ml_RX10_137 i_X10_needZone s_X10_needZone n_RX10 k_X10_needZone) rfl rfl rfl (by decide +kernel) ⟨by exact Nat.le_of_ble_eq_true rfl, by exact Nat.le_of_ble_eq_true rfl⟩) (j_preV hK hSX hG (ci := 9) rfl ka0 (by decide)) rfl rfl hl.1 rfl (lv_room (Nat.le_of_ble_eq_true rfl)) dX10_account_2 ⟨by exact Nat.le_of_ble_eq_true rfl, by exact Nat.le_of_ble_eq_true rfl⟩) hG (c2 := 1) (s2 := 6) ⟨by exact Nat.le_of_ble_eq_true rfl, by exact Nat.le_of_ble_eq_true rfl⟩ (fun x M h ce q H locs hG h1 h2 h3 => ?_) (fun M h H locs hG => h.elim)
    rw [hQf]
    exact j_xout hlocks hout hG h h1 h2 h3 (by decide)

abbrev rm_X4_repeat : Room := { frames := 0, cells := 0, slots := 0, locals := 0 }
set_option maxRecDepth 100000 in
set_option maxHeartbeats 4000000 in
theorem A_X4_repeat (l : Launch) {D : va_G} {cy : Nat → ClassId} {o : Nat} {sK sV : Nat → Nat} {M : jT} {a0 : Int} {a1 : Int} {a2 : Int} {a3 : Int} (ka0 : kd a0 = 4) {Q : jT → Prop} (h : wp_X4_repeat M a0 a1 a2 a3 Q) : CoV l yX4_repeat (wj yX4_repeat cX4_repeat 5 none) rm_X4_repeat D cy o sK sV M [.ref (rA o a0), .int (J a1), .int (J a2), .int (J a3)] Q := by
  refine j_ofW (cc := cX4_repeat) (maxL := 5) (ret := none) (by decide) rfl (Nat.le_of_ble_eq_true rfl) ?_
  intro p e s m args below meth c hx hb hr hlocks hml hown hts hK hSX H locs hG ls hl Qf hQf
  have hown : s.vm.findClass RX4 = some m.cls := hown
  have hl : lv_has ls 5 [(0, .ref (rA o a0)), (1, .int (J a1)), (2, .int (J a2)), (3, .int (J a3))] := hl
  have w_fl_RX4_38 := hts _ (List.mem_cons_of_mem _ fl_RX4_38)
  have w_fl_RX4_41 := hts _ (List.mem_cons_of_mem _ fl_RX4_41)
  have w_fl_RX4_44 := hts _ (List.mem_cons_of_mem _ fl_RX4_44)
  have w_fl_RX4_47 := hts _ (List.mem_cons_of_mem _ fl_RX4_47)
  have w_fl_RX4_9 := hts _ (List.mem_cons_of_mem _ fl_RX4_9)
  unfold wp_X4_repeat at h
  refine lv_aload_n hx hb dX4_repeat_0 rfl (lv_at hl 0 rfl) ?_
  refine lv_iload_n hx hb dX4_repeat_1 rfl (lv_at hl 1 rfl) ?_
  refine j_puti hx hb hts hown hK hG (k := a0) (fun w h => List.mem_cons_of_mem _ (u_X4 w h)) tyX4 tyX4_ok nmX4 (ci := 3) rfl ka0 6 (by decide) (jz := 6) rfl w_fl_RX4_38 (hd := rfl) (hn := rfl) (hfit := rfl) (hdg := dX4_repeat_2) (fun M1 eM1 H locs hG => ?_)
  have h := h M1 eM1
  refine lv_aload_n hx hb dX4_repeat_5 rfl (lv_at hl 0 rfl) ?_
  refine lv_iload_n hx hb dX4_repeat_6 rfl (lv_at hl 2 rfl) ?_
  refine j_puti hx hb hts hown hK hG (k := a0) (fun w h => List.mem_cons_of_mem _ (u_X4 w h)) tyX4 tyX4_ok nmX4 (ci := 3) rfl ka0 7 (by decide) (jz := 7) rfl w_fl_RX4_41 (hd := rfl) (hn := rfl) (hfit := rfl) (hdg := dX4_repeat_7) (fun M2 eM2 H locs hG => ?_)
  have h := h M2 eM2
  refine lv_aload_n hx hb dX4_repeat_10 rfl (lv_at hl 0 rfl) ?_
  refine lv_iload_n hx hb dX4_repeat_11 rfl (lv_at hl 3 rfl) ?_
  refine j_puti hx hb hts hown hK hG (k := a0) (fun w h => List.mem_cons_of_mem _ (u_X4 w h)) tyX4 tyX4_ok nmX4 (ci := 3) rfl ka0 8 (by decide) (jz := 8) rfl w_fl_RX4_44 (hd := rfl) (hn := rfl) (hfit := rfl) (hdg := dX4_repeat_12) (fun M3 eM3 H locs hG => ?_)
  have h := h M3 eM3
  refine lv_aload_n hx hb dX4_repeat_15 rfl (lv_at hl 0 rfl) ?_
  refine lv_lconst (v := JL 0) hx hb dX4_repeat_16 (by decide) ?_
  refine j_putl hx hb hts hown hK hG (k := a0) (fun w h => List.mem_cons_of_mem _ (u_X4 w h)) tyX4 tyX4_ok nmX4 (ci := 3) rfl ka0 9 (by decide) (jz := 9) rfl w_fl_RX4_47 rfl dX4_repeat_17 (fun M4 eM4 H locs hG => ?_)
  have h := h M4 eM4
  refine lv_iconst (v := J 0) hx hb dX4_repeat_20 (by decide) ?_
  refine lv_istore (lv' := [(4, .int (J 0)), (0, .ref (rA o a0)), (1, .int (J a1)), (2, .int (J a2)), (3, .int (J a3))]) hx hb dX4_repeat_21 hl (by decide) rfl (fun ls hl => ?_)
  obtain ⟨I7, ⟨n8s, iI7⟩, qI7⟩ := h
  have lI7 : ∀ (n8 : Nat) (x5 : Int) (M6 : jT), I7 n8 x5 M6 → ∀ (H : Heap) (locs : List Loc), GM D cy o M6 s.heap H locs → ∀ ls : Array Slot, lv_has ls 5 [(0, .ref (rA o a0)), (4, .int (J x5))] → W p l e rm_X4_repeat s m args below meth c H locs 0 0 Qf (F0 m 23 ls []) := by
    intro n8
    induction n8 using Nat.strongRecOn with
    | ind n8 rI7 =>
      intro x5 M6 iI7 H locs hG ls hl
      have h := qI7 n8 x5 M6 iI7
      refine lv_iload hx hb dX4_repeat_23 (lv_at hl 1 rfl) ?_
      refine lv_bipush (v := J 40) hx hb dX4_repeat_25 (by decide) ?_
      obtain ⟨g10, h⟩ := h
      refine j_icmp_ge (tgt := 44) hx hb dX4_repeat_27 (by decide) g10 (by decide) (fun c9 => ?_) (fun c9 => ?_)
      · have h := h.1 c9
        rw [hQf]
        exact j_vret hx hb hr hlocks hG h (by decide) dX4_repeat_44
      · have h := h.2 c9
        refine lv_aload_n hx hb dX4_repeat_30 rfl (lv_at hl 0 rfl) ?_
        refine j_getr hx hb hts hown hK hG (k := a0) (fun w h => List.mem_cons_of_mem _ (u_X4 w h)) (ci := 3) rfl ka0 10 (k2 := a0 + 1) (by decide) (by show a0 + (1 : Int) = a0 + 1; omega) w_fl_RX4_9 dX4_repeat_31 ?_
        refine lv_iload hx hb dX4_repeat_34 (lv_at hl 1 rfl) ?_
        refine lv_iconst (v := J 0) hx hb dX4_repeat_36 (by decide) ?_
        obtain ⟨g11, h⟩ := h
        refine j_iast hx hb hK hG (n := 40) (kf_4_10 ka0) (by decide) g11 dX4_repeat_37 (fun M12 eM12 H locs hG => ?_)
        have h := h M12 eM12
        refine j_iinc hx hb dX4_repeat_38 hl (k := 1) rfl (by decide) (fun x13 ex13 ls hl => ?_)
        have h := h x13 ex13
        have hl : lv_has ls 5 [(4, .int (J x13)), (0, .ref (rA o a0))] := hl
        refine lv_goto (tgt := 23) hx hb dX4_repeat_41 (by decide) ?_
        obtain ⟨n14, ln14, iI7⟩ := h
        exact rI7 n14 ln14 x13 M12 iI7 H locs hG ls (lv_sub hl [1, 0] rfl)
  exact lI7 n8s 0 M4 iI7 H locs hG ls (lv_sub hl [1, 0] rfl)

abbrev rm_X4_begin : Room := { frames := 1, cells := 0, slots := 0, locals := 24 }
set_option maxRecDepth 100000 in
set_option maxHeartbeats 4000000 in
theorem A_X4_begin (l : Launch) {D : va_G} {cy : Nat → ClassId} {o : Nat} {sK sV : Nat → Nat} {M : jT} {a0 : Int} {a1 : Int} {a2 : Int} {a3 : Int} {a4 : Int} {a5 : Int} {a6 : Int} (ka0 : kd a0 = 4) {Q : jT → Prop} (h : wp_X4_begin M a0 a1 a2 a3 a4 a5 a6 Q) : CoV l yX4_begin (wj yX4_begin cX4_begin 7 none) rm_X4_begin D cy o sK sV M [.ref (rA o a0), .int (J a1), .int (J a2), .int (J a3), .int (J a4), .int (J a5), .int (J a6)] Q := by
  refine j_ofW (cc := cX4_begin) (maxL := 7) (ret := none) (by decide) rfl (Nat.le_of_ble_eq_true rfl) ?_
  intro p e s m args below meth c hx hb hr hlocks hml hown hts hK hSX H locs hG ls hl Qf hQf
  have hown : s.vm.findClass RX4 = some m.cls := hown
  have hl : lv_has ls 7 [(0, .ref (rA o a0)), (1, .int (J a1)), (2, .int (J a2)), (3, .int (J a3)), (4, .int (J a4)), (5, .int (J a5)), (6, .int (J a6))] := hl
  have w_fl_RX4_15 := hts _ (List.mem_cons_of_mem _ fl_RX4_15)
  have w_fl_RX4_19 := hts _ (List.mem_cons_of_mem _ fl_RX4_19)
  have w_fl_RX4_22 := hts _ (List.mem_cons_of_mem _ fl_RX4_22)
  have w_fl_RX4_25 := hts _ (List.mem_cons_of_mem _ fl_RX4_25)
  have w_fl_RX4_28 := hts _ (List.mem_cons_of_mem _ fl_RX4_28)
  have w_fl_RX4_31 := hts _ (List.mem_cons_of_mem _ fl_RX4_31)
  unfold wp_X4_begin at h
  refine lv_aload_n hx hb dX4_begin_0 rfl (lv_at hl 0 rfl) ?_
  refine lv_iload_n hx hb dX4_begin_1 rfl (lv_at hl 1 rfl) ?_
  refine j_puti hx hb hts hown hK hG (k := a0) (fun w h => List.mem_cons_of_mem _ (u_X4 w h)) tyX4 tyX4_ok nmX4 (ci := 3) rfl ka0 0 (by decide) (jz := 0) rfl w_fl_RX4_15 (hd := rfl) (hn := rfl) (hfit := rfl) (hdg := dX4_begin_2) (fun M1 eM1 H locs hG => ?_)
  have h := h M1 eM1
  refine lv_aload_n hx hb dX4_begin_5 rfl (lv_at hl 0 rfl) ?_
  refine lv_iload_n hx hb dX4_begin_6 rfl (lv_at hl 2 rfl) ?_
  refine j_puti hx hb hts hown hK hG (k := a0) (fun w h => List.mem_cons_of_mem _ (u_X4 w h)) tyX4 tyX4_ok nmX4 (ci := 3) rfl ka0 1 (by decide) (jz := 1) rfl w_fl_RX4_19 (hd := rfl) (hn := rfl) (hfit := rfl) (hdg := dX4_begin_7) (fun M2 eM2 H locs hG => ?_)
  have h := h M2 eM2
  refine lv_aload_n hx hb dX4_begin_10 rfl (lv_at hl 0 rfl) ?_
  refine lv_iload_n hx hb dX4_begin_11 rfl (lv_at hl 3 rfl) ?_
  refine j_puti hx hb hts hown hK hG (k := a0) (fun w h => List.mem_cons_of_mem _ (u_X4 w h)) tyX4 tyX4_ok nmX4 (ci := 3) rfl ka0 2 (by decide) (jz := 2) rfl w_fl_RX4_22 (hd := rfl) (hn := rfl) (hfit := rfl) (hdg := dX4_begin_12) (fun M3 eM3 H locs hG => ?_)
  have h := h M3 eM3
  refine lv_aload_n hx hb dX4_begin_15 rfl (lv_at hl 0 rfl) ?_
  refine lv_iload hx hb dX4_begin_16 (lv_at hl 4 rfl) ?_
  refine j_puti hx hb hts hown hK hG (k := a0) (fun w h => List.mem_cons_of_mem _ (u_X4 w h)) tyX4 tyX4_ok nmX4 (ci := 3) rfl ka0 3 (by decide) (jz := 3) rfl w_fl_RX4_25 (hd := rfl) (hn := rfl) (hfit := rfl) (hdg := dX4_begin_18) (fun M4 eM4 H locs hG => ?_)
  have h := h M4 eM4
  refine lv_aload_n hx hb dX4_begin_21 rfl (lv_at hl 0 rfl) ?_
  refine lv_iload hx hb dX4_begin_22 (lv_at hl 5 rfl) ?_
  refine j_puti hx hb hts hown hK hG (k := a0) (fun w h => List.mem_cons_of_mem _ (u_X4 w h)) tyX4 tyX4_ok nmX4 (ci := 3) rfl ka0 4 (by decide) (jz := 4) rfl w_fl_RX4_28 (hd := rfl) (hn := rfl) (hfit := rfl) (hdg := dX4_begin_24) (fun M5 eM5 H locs hG => ?_)
  have h := h M5 eM5
  refine lv_aload_n hx hb dX4_begin_27 rfl (lv_at hl 0 rfl) ?_
  refine lv_iload hx hb dX4_begin_28 (lv_at hl 6 rfl) ?_
  refine j_puti hx hb hts hown hK hG (k := a0) (fun w h => List.mem_cons_of_mem _ (u_X4 w h)) tyX4 tyX4_ok nmX4 (ci := 3) rfl ka0 5 (by decide) (jz := 5) rfl w_fl_RX4_31 (hd := rfl) (hn := rfl) (hfit := rfl) (hdg := dX4_begin_30) (fun M6 eM6 H locs hG => ?_)
  have h := h M6 eM6
  refine lv_aload_n hx hb dX4_begin_33 rfl (lv_at hl 0 rfl) ?_
  refine lv_iconst (v := J 0) hx hb dX4_begin_34 (by decide) ?_
  refine lv_iconst (v := J 1) hx hb dX4_begin_35 (by decide) ?_
  refine lv_iconst (v := J 0) hx hb dX4_begin_36 (by decide) ?_
  refine j_contv (va_runV (As := [.int (J 0), .int (J 1), .int (J 0)]) (rest := []) ⟨hx, hb, hml, hown, hts⟩ (A_X4_repeat l ka0 h) (cwV 3 hts (gj_V ml_RX4_34 i_X4_repeat s_X4_repeat n_RX4 k_X4_repeat) rfl rfl rfl (by decide +kernel) ⟨by exact Nat.le_of_ble_eq_true rfl, by exact Nat.le_of_ble_eq_true rfl⟩) (j_preV hK hSX hG (ci := 3) rfl ka0 (by decide)) rfl rfl hl.1 rfl (lv_room (Nat.le_of_ble_eq_true rfl)) dX4_begin_37 ⟨by exact Nat.le_of_ble_eq_true rfl, by exact Nat.le_of_ble_eq_true rfl⟩) hG (c2 := 0) (s2 := 0) ⟨by exact Nat.le_of_ble_eq_true rfl, by exact Nat.le_of_ble_eq_true rfl⟩ (fun M8 h H locs hG => ?_)
  rw [hQf]
  exact j_vret hx hb hr hlocks hG h (by decide) dX4_begin_40

abbrev rm_X5_spoil : Room := { frames := 0, cells := 0, slots := 0, locals := 0 }
set_option maxRecDepth 100000 in
set_option maxHeartbeats 4000000 in
theorem A_X5_spoil (l : Launch) {D : va_G} {cy : Nat → ClassId} {o : Nat} {sK sV : Nat → Nat} {M : jT} {a0 : Int} (ka0 : kd a0 = 5) {Q : jT → Prop} (h : wp_X5_spoil M a0 Q) : CoV l yX5_spoil (wj yX5_spoil cX5_spoil 1 none) rm_X5_spoil D cy o sK sV M [.ref (rA o a0)] Q := by
  refine j_ofW (cc := cX5_spoil) (maxL := 1) (ret := none) (by decide) rfl (Nat.le_of_ble_eq_true rfl) ?_
  intro p e s m args below meth c hx hb hr hlocks hml hown hts hK hSX H locs hG ls hl Qf hQf
  have hown : s.vm.findClass RX5 = some m.cls := hown
  have hl : lv_has ls 1 [(0, .ref (rA o a0))] := hl
  have w_fl_RX5_18 := hts _ (List.mem_cons_of_mem _ fl_RX5_18)
  have w_fl_RX5_22 := hts _ (List.mem_cons_of_mem _ fl_RX5_22)
  unfold wp_X5_spoil at h
  refine lv_aload_n hx hb dX5_spoil_0 rfl (lv_at hl 0 rfl) ?_
  refine lv_iconst (v := J 0) hx hb dX5_spoil_1 (by decide) ?_
  refine j_puti hx hb hts hown hK hG (k := a0) (fun w h => List.mem_cons_of_mem _ (u_X5 w h)) tyX5 tyX5_ok nmX5 (ci := 4) rfl ka0 0 (by decide) (jz := 0) rfl w_fl_RX5_18 (hd := rfl) (hn := nar_b (by decide)) (hfit := fit_b (by decide)) (hdg := dX5_spoil_2) (fun M1 eM1 H locs hG => ?_)
  have h := h M1 eM1
  refine lv_aload_n hx hb dX5_spoil_5 rfl (lv_at hl 0 rfl) ?_
  refine lv_iconst (v := J 0) hx hb dX5_spoil_6 (by decide) ?_
  refine j_puti hx hb hts hown hK hG (k := a0) (fun w h => List.mem_cons_of_mem _ (u_X5 w h)) tyX5 tyX5_ok nmX5 (ci := 4) rfl ka0 1 (by decide) (jz := 1) rfl w_fl_RX5_22 (hd := rfl) (hn := nar_b (by decide)) (hfit := fit_b (by decide)) (hdg := dX5_spoil_7) (fun M2 eM2 H locs hG => ?_)
  have h := h M2 eM2
  rw [hQf]
  exact j_vret hx hb hr hlocks hG h (by decide) dX5_spoil_10
