abbrev rom_X10_addMeeting : Room := { frames := 5, cells := 0, slots := 0, locals := 144 }
set_option maxRecDepth 100000 in
set_option maxHeartbeats 4000000 in
theorem Ao_X10_addMeeting (l : Launch) {D : va_G} {cy : Nat → ClassId} {o : Nat} {sK sV : Nat → Nat} {M : jT} {a0 : Int} {a1 : Int} {a2 : Int} {a3 : Int} {a4 : Int} {a5 : Int} {a6 : Int} (ka0 : kd a0 = 10) {Q : Int → jT → Prop} (h : wo_X10_addMeeting M a0 a1 a2 a3 a4 a5 a6 Q) : CoI l yX10_addMeeting (wj yX10_addMeeting cX10_addMeeting 8 (some .int)) rom_X10_addMeeting D cy o sK sV M [.ref (rA o a0), .int (J a1), .int (J a2), .int (J a3), .int (J a4), .int (J a5), .int (J a6)] Q := by
  refine j_ofW (cc := cX10_addMeeting) (maxL := 8) (ret := (some .int)) (by decide) rfl (Nat.le_of_ble_eq_true rfl) ?_
  intro p e s m args below meth c hx hb hr hlocks hml hown hts hK hSX H locs hG ls hl Qf hQf
  have hown : s.vm.findClass RX10 = some m.cls := hown
  have hl : lv_has ls 8 [(0, .ref (rA o a0)), (1, .int (J a1)), (2, .int (J a2)), (3, .int (J a3)), (4, .int (J a4)), (5, .int (J a5)), (6, .int (J a6))] := hl
  have w_fl_RX10_12 := hts _ (List.mem_cons_of_mem _ fl_RX10_12)
  have w_fl_RX10_266 := hts _ (List.mem_cons_of_mem _ fl_RX10_266)
  have w_fl_RX10_269 := hts _ (List.mem_cons_of_mem _ fl_RX10_269)
  have w_fl_RX10_32 := hts _ (List.mem_cons_of_mem _ fl_RX10_32)
  unfold wo_X10_addMeeting at h
  refine lv_aload_n hx hb dX10_addMeeting_0 rfl (lv_at hl 0 rfl) ?_
  refine lv_iload_n hx hb dX10_addMeeting_1 rfl (lv_at hl 1 rfl) ?_
  refine j_contv (va_runV (As := [.int (J a1)]) (rest := []) ⟨hx, hb, hml, hown, hts⟩ (Ao_X10_needZone l ka0 h) (cwV 1 hts (gj_V ml_RX10_137 i_X10_needZone s_X10_needZone n_RX10 k_X10_needZone) rfl rfl rfl (by decide +kernel) ⟨by exact Nat.le_of_ble_eq_true rfl, by exact Nat.le_of_ble_eq_true rfl⟩) (j_preV hK hSX hG (ci := 9) rfl ka0 (by decide)) rfl rfl hl.1 rfl (lv_room (Nat.le_of_ble_eq_true rfl)) dX10_addMeeting_2 ⟨by exact Nat.le_of_ble_eq_true rfl, by exact Nat.le_of_ble_eq_true rfl⟩) hG (c2 := 0) (s2 := 0) ⟨by exact Nat.le_of_ble_eq_true rfl, by exact Nat.le_of_ble_eq_true rfl⟩ (fun M2 h H locs hG => ?_)
  obtain ⟨h, eM2⟩ := h
  rw [eM2] at hG
  refine lv_iload_n hx hb dX10_addMeeting_5 rfl (lv_at hl 2 rfl) ?_
  obtain ⟨g3, h⟩ := h
  refine j_conti (va_runS (As := [.int (J a2)]) (rest := []) ⟨hx, hb, hml, hown, hts⟩ (A_X10_isDay l g3) (va_cwS 1 hts (gj_S ml_RX10_85 i_X10_isDay n_RX10 k_X10_isDay) rfl rfl rfl (by decide +kernel) ⟨by exact Nat.le_of_ble_eq_true rfl, by exact Nat.le_of_ble_eq_true rfl⟩) (j_preS hK hSX hG) rfl rfl hl.1 rfl (lv_room (Nat.le_of_ble_eq_true rfl)) dX10_addMeeting_6 ⟨by exact Nat.le_of_ble_eq_true rfl, by exact Nat.le_of_ble_eq_true rfl⟩) hG (c2 := 0) (s2 := 0) ⟨by exact Nat.le_of_ble_eq_true rfl, by exact Nat.le_of_ble_eq_true rfl⟩ (fun z4 M5 ez4 H locs hG => ?_)
  obtain ⟨ez4, eM5⟩ := ez4
  subst ez4
  rw [eM5] at hG
  obtain ⟨K22, hK22, h⟩ := h
  have jK22 : ∀ (x21 : Int), K22 x21 → ∀ (H : Heap) (locs : List Loc), GM D cy o M s.heap H locs → ∀ ls : Array Slot, lv_has ls 8 [(0, .ref (rA o a0)), (1, .int (J a1)), (2, .int (J a2)), (3, .int (J a3)), (4, .int (J a4)), (5, .int (J a5)), (6, .int (J a6))] → W p l e rom_X10_addMeeting s m args below meth c H locs 0 0 Qf (F0 m 42 ls [.int (J x21)]) := by
    intro x21 hcK22 H locs hG ls hl
    have h := hK22 x21 hcK22
    refine j_contv (va_runS (As := [.int (J x21)]) (rest := []) ⟨hx, hb, hml, hown, hts⟩ (Ao_X10_needArgument l h) (va_cwS 1 hts (gj_S ml_RX10_72 i_X10_needArgument n_RX10 k_X10_needArgument) rfl rfl rfl (by decide +kernel) ⟨by exact Nat.le_of_ble_eq_true rfl, by exact Nat.le_of_ble_eq_true rfl⟩) (j_preS hK hSX hG) rfl rfl hl.1 rfl (lv_room (Nat.le_of_ble_eq_true rfl)) dX10_addMeeting_42 ⟨by exact Nat.le_of_ble_eq_true rfl, by exact Nat.le_of_ble_eq_true rfl⟩) hG (c2 := 0) (s2 := 0) ⟨by exact Nat.le_of_ble_eq_true rfl, by exact Nat.le_of_ble_eq_true rfl⟩ (fun M24 h H locs hG => ?_)
    obtain ⟨h, eM24⟩ := h
    rw [eM24] at hG
    refine lv_iload hx hb dX10_addMeeting_45 (lv_at hl 5 rfl) ?_
    obtain ⟨g25, h⟩ := h
    refine j_conti (va_runS (As := [.int (J a5)]) (rest := []) ⟨hx, hb, hml, hown, hts⟩ (A_X10_isMode l g25) (va_cwS 1 hts (gj_S ml_RX10_250 i_X10_isMode n_RX10 k_X10_isMode) rfl rfl rfl (by decide +kernel) ⟨by exact Nat.le_of_ble_eq_true rfl, by exact Nat.le_of_ble_eq_true rfl⟩) (j_preS hK hSX hG) rfl rfl hl.1 rfl (lv_room (Nat.le_of_ble_eq_true rfl)) dX10_addMeeting_47 ⟨by exact Nat.le_of_ble_eq_true rfl, by exact Nat.le_of_ble_eq_true rfl⟩) hG (c2 := 0) (s2 := 0) ⟨by exact Nat.le_of_ble_eq_true rfl, by exact Nat.le_of_ble_eq_true rfl⟩ (fun z26 M27 ez26 H locs hG => ?_)
    obtain ⟨ez26, eM27⟩ := ez26
    subst ez26
    rw [eM27] at hG
    obtain ⟨K38, hK38, h⟩ := h
    have jK38 : ∀ (x37 : Int), K38 x37 → ∀ (H : Heap) (locs : List Loc), GM D cy o M s.heap H locs → ∀ ls : Array Slot, lv_has ls 8 [(0, .ref (rA o a0)), (1, .int (J a1)), (2, .int (J a2)), (3, .int (J a3)), (4, .int (J a4)), (5, .int (J a5)), (6, .int (J a6))] → W p l e rom_X10_addMeeting s m args below meth c H locs 0 0 Qf (F0 m 71 ls [.int (J x37)]) := by
      intro x37 hcK38 H locs hG ls hl
      have h := hK38 x37 hcK38
      refine j_contv (va_runS (As := [.int (J x37)]) (rest := []) ⟨hx, hb, hml, hown, hts⟩ (Ao_X10_needArgument l h) (va_cwS 1 hts (gj_S ml_RX10_72 i_X10_needArgument n_RX10 k_X10_needArgument) rfl rfl rfl (by decide +kernel) ⟨by exact Nat.le_of_ble_eq_true rfl, by exact Nat.le_of_ble_eq_true rfl⟩) (j_preS hK hSX hG) rfl rfl hl.1 rfl (lv_room (Nat.le_of_ble_eq_true rfl)) dX10_addMeeting_71 ⟨by exact Nat.le_of_ble_eq_true rfl, by exact Nat.le_of_ble_eq_true rfl⟩) hG (c2 := 0) (s2 := 0) ⟨by exact Nat.le_of_ble_eq_true rfl, by exact Nat.le_of_ble_eq_true rfl⟩ (fun M40 h H locs hG => ?_)
      obtain ⟨h, eM40⟩ := h
      rw [eM40] at hG
      refine lv_aload_n hx hb dX10_addMeeting_74 rfl (lv_at hl 0 rfl) ?_
      refine j_getr hx hb hts hown hK hG (k := a0) (fun w h => List.mem_cons_of_mem _ (u_X10 w h)) (ci := 9) rfl ka0 0 (k2 := a0 + 1) (by decide) (by show a0 + (1 : Int) = a0 + 1; omega) w_fl_RX10_12 dX10_addMeeting_75 ?_
      refine j_geti hx hb hts hown hK hG (k := a0 + 1) (fun w h => List.mem_cons_of_mem _ (u_X0 w h)) (ci := 0) rfl (kf_10_0 ka0) 1 (by decide) (jz := 1) rfl w_fl_RX10_266 dX10_addMeeting_78 ?_
      refine lv_bipush (v := J 10) hx hb dX10_addMeeting_81 (by decide) ?_
      obtain ⟨hg, h⟩ := h
      have jK44 : ∀ x43 : Int, (10 ≤ M (a0 + 1) 1 → x43 = 3) → (M (a0 + 1) 1 < 10 → x43 = 0) → ∀ (H : Heap) (locs : List Loc), GM D cy o M s.heap H locs → ∀ ls : Array Slot, lv_has ls 8 [(0, .ref (rA o a0)), (1, .int (J a1)), (2, .int (J a2)), (3, .int (J a3)), (4, .int (J a4)), (5, .int (J a5)), (6, .int (J a6))] → W p l e rom_X10_addMeeting s m args below meth c H locs 0 0 Qf (F0 m 91 ls [.int (J x43)]) := by
        intro x43 qx43_0 qx43_1 H locs hG ls hl
        have h := h x43 qx43_0 qx43_1
        refine j_contv (va_runS (As := [.int (J x43)]) (rest := []) ⟨hx, hb, hml, hown, hts⟩ (Ao_X10_refuse l h) (va_cwS 1 hts (gj_S ml_RX10_107 i_X10_refuse n_RX10 k_X10_refuse) rfl rfl rfl (by decide +kernel) ⟨by exact Nat.le_of_ble_eq_true rfl, by exact Nat.le_of_ble_eq_true rfl⟩) (j_preS hK hSX hG) rfl rfl hl.1 rfl (lv_room (Nat.le_of_ble_eq_true rfl)) dX10_addMeeting_91 ⟨by exact Nat.le_of_ble_eq_true rfl, by exact Nat.le_of_ble_eq_true rfl⟩) hG (c2 := 0) (s2 := 0) ⟨by exact Nat.le_of_ble_eq_true rfl, by exact Nat.le_of_ble_eq_true rfl⟩ (fun M48 h H locs hG => ?_)
        obtain ⟨h, eM48⟩ := h
        rw [eM48] at hG
        refine lv_aload_n hx hb dX10_addMeeting_94 rfl (lv_at hl 0 rfl) ?_
        refine j_contv (va_runV (As := []) (rest := []) ⟨hx, hb, hml, hown, hts⟩ (A_X10_remember l ka0 h) (cwV 0 hts (gj_V ml_RX10_111 i_X10_remember s_X10_remember n_RX10 k_X10_remember) rfl rfl rfl (by decide +kernel) ⟨by exact Nat.le_of_ble_eq_true rfl, by exact Nat.le_of_ble_eq_true rfl⟩) (j_preV hK hSX hG (ci := 9) rfl ka0 (by decide)) rfl rfl hl.1 rfl (lv_room (Nat.le_of_ble_eq_true rfl)) dX10_addMeeting_95 ⟨by exact Nat.le_of_ble_eq_true rfl, by exact Nat.le_of_ble_eq_true rfl⟩) hG (c2 := 0) (s2 := 0) ⟨by exact Nat.le_of_ble_eq_true rfl, by exact Nat.le_of_ble_eq_true rfl⟩ (fun M50 h H locs hG => ?_)
        refine lv_aload_n hx hb dX10_addMeeting_98 rfl (lv_at hl 0 rfl) ?_
        refine j_getr hx hb hts hown hK hG (k := a0) (fun w h => List.mem_cons_of_mem _ (u_X10 w h)) (ci := 9) rfl ka0 0 (k2 := a0 + 1) (by decide) (by show a0 + (1 : Int) = a0 + 1; omega) w_fl_RX10_12 dX10_addMeeting_99 ?_
        refine j_geti hx hb hts hown hK hG (k := a0 + 1) (fun w h => List.mem_cons_of_mem _ (u_X0 w h)) (ci := 0) rfl (kf_10_0 ka0) 1 (by decide) (jz := 1) rfl w_fl_RX10_266 dX10_addMeeting_102 ?_
        refine j_topi (fun x51 ex51 => ?_)
        have h := h x51 ex51
        refine lv_istore (lv' := [(7, .int (J x51)), (0, .ref (rA o a0)), (1, .int (J a1)), (2, .int (J a2)), (3, .int (J a3)), (4, .int (J a4)), (5, .int (J a5)), (6, .int (J a6))]) hx hb dX10_addMeeting_105 hl (by decide) rfl (fun ls hl => ?_)
        refine lv_aload_n hx hb dX10_addMeeting_107 rfl (lv_at hl 1 rfl) ?_
        refine j_getr hx hb hts hown hK hG (k := a0) (fun w h => List.mem_cons_of_mem _ (u_X10 w h)) (ci := 9) rfl ka0 0 (k2 := a0 + 1) (by decide) (by show a0 + (1 : Int) = a0 + 1; omega) w_fl_RX10_12 dX10_addMeeting_108 ?_
        refine j_getr hx hb hts hown hK hG (k := a0 + 1) (fun w h => List.mem_cons_of_mem _ (u_X0 w h)) (ci := 0) rfl (kf_10_0 ka0) 3 (k2 := a0 + 3) (by decide) (by show (a0 + 1) + (2 : Int) = a0 + 3; omega) w_fl_RX10_269 dX10_addMeeting_111 ?_
        refine lv_iload hx hb dX10_addMeeting_114 (lv_at hl 0 rfl) ?_
        obtain ⟨g52, h⟩ := h
        refine j_aald hx hb hK hG (t := 21) (t0 := 4) (k2 := a0 + 2 * x51 + 28) (show kd (a0 + 3) = 21 from (show (a0 + 1) + 2 = a0 + 3 from by omega) ▸ (kf_1_3 (kf_10_0 ka0))) (by decide) rfl g52 (by simp only [ra_21]; omega) dX10_addMeeting_116 ?_
        have k53 : kd (a0 + 2 * x51 + 28) = 4 := by have q9 := (ka_21 (show kd (a0 + 3) = 21 from (show (a0 + 1) + 2 = a0 + 3 from by omega) ▸ (kf_1_3 (kf_10_0 ka0))) g52); rwa [show (a0 + 3) + 25 + 2 * x51 = a0 + 2 * x51 + 28 from by omega] at q9
        refine lv_iload_n hx hb dX10_addMeeting_117 rfl (lv_at hl 2 rfl) ?_
        refine lv_iload_n hx hb dX10_addMeeting_118 rfl (lv_at hl 3 rfl) ?_
        refine lv_iload_n hx hb dX10_addMeeting_119 rfl (lv_at hl 4 rfl) ?_
        refine lv_iload hx hb dX10_addMeeting_120 (lv_at hl 5 rfl) ?_
        refine lv_iload hx hb dX10_addMeeting_122 (lv_at hl 6 rfl) ?_
        refine lv_iload hx hb dX10_addMeeting_124 (lv_at hl 7 rfl) ?_
        refine j_contv (va_runV (As := [.int (J a1), .int (J a2), .int (J a3), .int (J a4), .int (J a5), .int (J a6)]) (rest := []) ⟨hx, hb, hml, hown, hts⟩ (A_X4_begin l k53 h) (cwV 6 hts (gj_V ml_RX10_273 i_X4_begin s_X4_begin n_RX4 k_X4_begin) rfl rfl rfl (by decide +kernel) ⟨by exact Nat.le_of_ble_eq_true rfl, by exact Nat.le_of_ble_eq_true rfl⟩) (j_preV hK hSX hG (ci := 3) rfl k53 (by decide)) rfl rfl hl.1 rfl (lv_room (Nat.le_of_ble_eq_true rfl)) dX10_addMeeting_126 ⟨by exact Nat.le_of_ble_eq_true rfl, by exact Nat.le_of_ble_eq_true rfl⟩) hG (c2 := 0) (s2 := 0) ⟨by exact Nat.le_of_ble_eq_true rfl, by exact Nat.le_of_ble_eq_true rfl⟩ (fun M55 h H locs hG => ?_)
        refine lv_aload_n hx hb dX10_addMeeting_129 rfl (lv_at hl 1 rfl) ?_
        refine j_getr hx hb hts hown hK hG (k := a0) (fun w h => List.mem_cons_of_mem _ (u_X10 w h)) (ci := 9) rfl ka0 0 (k2 := a0 + 1) (by decide) (by show a0 + (1 : Int) = a0 + 1; omega) w_fl_RX10_12 dX10_addMeeting_130 ?_
        refine lv_iload hx hb dX10_addMeeting_133 (lv_at hl 0 rfl) ?_
        refine lv_iconst (v := J 1) hx hb dX10_addMeeting_135 (by decide) ?_
        refine j_iadd hx hb dX10_addMeeting_136 ?_
        refine j_puti hx hb hts hown hK hG (k := a0 + 1) (fun w h => List.mem_cons_of_mem _ (u_X0 w h)) tyX0 tyX0_ok nmX0 (ci := 0) rfl (kf_10_0 ka0) 1 (by decide) (jz := 1) rfl w_fl_RX10_266 (hd := rfl) (hn := rfl) (hfit := rfl) (hdg := dX10_addMeeting_137) (fun M56 eM56 H locs hG => ?_)
        have h := h M56 eM56
        refine lv_aload_n hx hb dX10_addMeeting_140 rfl (lv_at hl 1 rfl) ?_
        refine j_getr hx hb hts hown hK hG (k := a0) (fun w h => List.mem_cons_of_mem _ (u_X10 w h)) (ci := 9) rfl ka0 3 (k2 := a0 + 569) (by decide) (by show a0 + (569 : Int) = a0 + 569; omega) w_fl_RX10_32 dX10_addMeeting_141 ?_
        refine lv_iload hx hb dX10_addMeeting_144 (lv_at hl 0 rfl) ?_
        refine j_aald hx hb hK hG (t := 24) (t0 := 7) (k2 := a0 + 3 * x51 + 570) (kf_10_3 ka0) (by decide) rfl g52 (by simp only [ra_24]; omega) dX10_addMeeting_146 ?_
        have k57 : kd (a0 + 3 * x51 + 570) = 5 := by have q9 := (ka_24 (kf_10_3 ka0) g52); rwa [show (a0 + 569) + 1 + 3 * x51 = a0 + 3 * x51 + 570 from by omega] at q9
        refine j_contv (va_runV (As := []) (rest := []) ⟨hx, hb, hml, hown, hts⟩ (A_X5_spoil l k57 h) (cwV 0 hts (gj_V ml_RX10_278 i_X5_spoil s_X5_spoil n_RX5 k_X5_spoil) rfl rfl rfl (by decide +kernel) ⟨by exact Nat.le_of_ble_eq_true rfl, by exact Nat.le_of_ble_eq_true rfl⟩) (j_preV hK hSX hG (ci := 4) rfl k57 (by decide)) rfl rfl hl.1 rfl (lv_room (Nat.le_of_ble_eq_true rfl)) dX10_addMeeting_147 ⟨by exact Nat.le_of_ble_eq_true rfl, by exact Nat.le_of_ble_eq_true rfl⟩) hG (c2 := 0) (s2 := 0) ⟨by exact Nat.le_of_ble_eq_true rfl, by exact Nat.le_of_ble_eq_true rfl⟩ (fun M59 h H locs hG => ?_)
        refine lv_iload hx hb dX10_addMeeting_150 (lv_at hl 0 rfl) ?_
        rw [hQf]
        exact j_ireti hx hb hr hlocks hG h (by decide) dX10_addMeeting_152
      have h := hg
      obtain ⟨g46, h⟩ := h
      refine j_icmp_ge (tgt := 90) hx hb dX10_addMeeting_83 (by decide) g46 (by decide) (fun c45 => ?_) (fun c45 => ?_)
      · have h := h.1 c45
        refine lv_iconst (v := J 3) hx hb dX10_addMeeting_90 (by decide) ?_
        exact jK44 3 (fun _ => rfl) (fun q => absurd q (by omega)) H locs hG ls (lv_sub hl [0, 1, 2, 3, 4, 5, 6] rfl)
      · have h := h.2 c45
        refine lv_iconst (v := J 0) hx hb dX10_addMeeting_86 (by decide) ?_
        refine lv_goto (tgt := 91) hx hb dX10_addMeeting_87 (by decide) ?_
        exact jK44 0 (fun q => absurd q (by omega)) (fun _ => rfl) H locs hG ls (lv_sub hl [0, 1, 2, 3, 4, 5, 6] rfl)
    obtain ⟨K64, hK64, h⟩ := h
    have jK64 : K64 → ∀ (H : Heap) (locs : List Loc), GM D cy o M s.heap H locs → ∀ ls : Array Slot, lv_has ls 8 [(0, .ref (rA o a0)), (1, .int (J a1)), (2, .int (J a2)), (3, .int (J a3)), (4, .int (J a4)), (5, .int (J a5)), (6, .int (J a6))] → W p l e rom_X10_addMeeting s m args below meth c H locs 0 0 Qf (F0 m 70 ls []) := by
      intro hcK64 H locs hG ls hl
      have h := hK64 hcK64
      refine lv_iconst (v := J 0) hx hb dX10_addMeeting_70 (by decide) ?_
      exact jK38 0 h H locs hG ls (lv_sub hl [0, 1, 2, 3, 4, 5, 6] rfl)
    refine j_if_eq_b (tgt := 70) hx hb dX10_addMeeting_50 (by decide) (fun c65 => ?_) (fun c65 => ?_)
    · have h := h.1 c65
      exact jK64 h H locs hG ls (lv_sub hl [0, 1, 2, 3, 4, 5, 6] rfl)
    · have h := h.2 c65
      refine lv_iload hx hb dX10_addMeeting_53 (lv_at hl 6 rfl) ?_
      refine lv_iconst (v := J 1) hx hb dX10_addMeeting_55 (by decide) ?_
      obtain ⟨g67, h⟩ := h
      refine j_icmp_lt (tgt := 70) hx hb dX10_addMeeting_56 (by decide) g67 (by decide) (fun c66 => ?_) (fun c66 => ?_)
      · have h := h.1 c66
        exact jK64 h H locs hG ls (lv_sub hl [0, 1, 2, 3, 4, 5, 6] rfl)
      · have h := h.2 c66
        refine lv_iload hx hb dX10_addMeeting_59 (lv_at hl 6 rfl) ?_
        refine lv_bipush (v := J 40) hx hb dX10_addMeeting_61 (by decide) ?_
        refine j_icmp_gt (tgt := 70) hx hb dX10_addMeeting_63 (by decide) g67 (by decide) (fun c68 => ?_) (fun c68 => ?_)
        · have h := h.1 c68
          exact jK64 h H locs hG ls (lv_sub hl [0, 1, 2, 3, 4, 5, 6] rfl)
        · have h := h.2 c68
          refine lv_iconst (v := J 1) hx hb dX10_addMeeting_66 (by decide) ?_
          refine lv_goto (tgt := 71) hx hb dX10_addMeeting_67 (by decide) ?_
          exact jK38 1 h H locs hG ls (lv_sub hl [0, 1, 2, 3, 4, 5, 6] rfl)
  obtain ⟨K76, hK76, h⟩ := h
  have jK76 : K76 → ∀ (H : Heap) (locs : List Loc), GM D cy o M s.heap H locs → ∀ ls : Array Slot, lv_has ls 8 [(0, .ref (rA o a0)), (1, .int (J a1)), (2, .int (J a2)), (3, .int (J a3)), (4, .int (J a4)), (5, .int (J a5)), (6, .int (J a6))] → W p l e rom_X10_addMeeting s m args below meth c H locs 0 0 Qf (F0 m 41 ls []) := by
    intro hcK76 H locs hG ls hl
    have h := hK76 hcK76
    refine lv_iconst (v := J 0) hx hb dX10_addMeeting_41 (by decide) ?_
    exact jK22 0 h H locs hG ls (lv_sub hl [0, 1, 2, 3, 4, 5, 6] rfl)
  refine j_if_eq_b (tgt := 41) hx hb dX10_addMeeting_9 (by decide) (fun c77 => ?_) (fun c77 => ?_)
  · have h := h.1 c77
    exact jK76 h H locs hG ls (lv_sub hl [0, 1, 2, 3, 4, 5, 6] rfl)
  · have h := h.2 c77
    refine lv_iload_n hx hb dX10_addMeeting_12 rfl (lv_at hl 3 rfl) ?_
    obtain ⟨g79, h⟩ := h
    refine j_if_lt (tgt := 41) hx hb dX10_addMeeting_13 (by decide) g79 (fun c78 => ?_) (fun c78 => ?_)
    · have h := h.1 c78
      exact jK76 h H locs hG ls (lv_sub hl [0, 1, 2, 3, 4, 5, 6] rfl)
    · have h := h.2 c78
      refine lv_iload_n hx hb dX10_addMeeting_16 rfl (lv_at hl 3 rfl) ?_
      refine lv_sipush (v := J 1440) hx hb dX10_addMeeting_17 (by decide) ?_
      refine j_icmp_ge (tgt := 41) hx hb dX10_addMeeting_20 (by decide) g79 (by decide) (fun c80 => ?_) (fun c80 => ?_)
      · have h := h.1 c80
        exact jK76 h H locs hG ls (lv_sub hl [0, 1, 2, 3, 4, 5, 6] rfl)
      · have h := h.2 c80
        refine lv_iload hx hb dX10_addMeeting_23 (lv_at hl 4 rfl) ?_
        refine lv_iconst (v := J 1) hx hb dX10_addMeeting_25 (by decide) ?_
        obtain ⟨g82, h⟩ := h
        refine j_icmp_lt (tgt := 41) hx hb dX10_addMeeting_26 (by decide) g82 (by decide) (fun c81 => ?_) (fun c81 => ?_)
        · have h := h.1 c81
          exact jK76 h H locs hG ls (lv_sub hl [0, 1, 2, 3, 4, 5, 6] rfl)
        · have h := h.2 c81
          refine lv_iload hx hb dX10_addMeeting_29 (lv_at hl 4 rfl) ?_
          refine lv_sipush (v := J 1440) hx hb dX10_addMeeting_31 (by decide) ?_
          refine j_icmp_gt (tgt := 41) hx hb dX10_addMeeting_34 (by decide) g82 (by decide) (fun c83 => ?_) (fun c83 => ?_)
          · have h := h.1 c83
            exact jK76 h H locs hG ls (lv_sub hl [0, 1, 2, 3, 4, 5, 6] rfl)
          · have h := h.2 c83
            refine lv_iconst (v := J 1) hx hb dX10_addMeeting_37 (by decide) ?_
            refine lv_goto (tgt := 42) hx hb dX10_addMeeting_38 (by decide) ?_
            exact jK22 1 h H locs hG ls (lv_sub hl [0, 1, 2, 3, 4, 5, 6] rfl)
abbrev rm_X10_addMeeting : Room := { frames := 8, cells := 1, slots := 6, locals := 144 }
set_option maxRecDepth 100000 in
set_option maxHeartbeats 4000000 in
theorem A_X10_addMeeting (l : Launch) (hst : l.stackTraces = false) {D : va_G} {cy : Nat → ClassId} {o : Nat} {sK sV : Nat → Nat} {M : jT} {a0 : Int} {a1 : Int} {a2 : Int} {a3 : Int} {a4 : Int} {a5 : Int} {a6 : Int} (ka0 : kd a0 = 10) {Q : Int → jT → Prop} {X : Nat → jT → Prop} (h : wp_X10_addMeeting M a0 a1 a2 a3 a4 a5 a6 Q X) : CxI l yX10_addMeeting (wj yX10_addMeeting cX10_addMeeting 8 (some .int)) rm_X10_addMeeting D cy o sK sV M [.ref (rA o a0), .int (J a1), .int (J a2), .int (J a3), .int (J a4), .int (J a5), .int (J a6)] Q X := by
  refine j_ofWx (cc := cX10_addMeeting) (maxL := 8) (ret := (some .int)) (by decide) rfl (Nat.le_of_ble_eq_true rfl) ?_
  intro p e s m args below meth c hx hb hr hlocks hout hml hown hts hK hSX H locs hsz hG ls hl Qf hQf
  have hown : s.vm.findClass RX10 = some m.cls := hown
  have hl : lv_has ls 8 [(0, .ref (rA o a0)), (1, .int (J a1)), (2, .int (J a2)), (3, .int (J a3)), (4, .int (J a4)), (5, .int (J a5)), (6, .int (J a6))] := hl
  have w_fl_RX10_12 := hts _ (List.mem_cons_of_mem _ fl_RX10_12)
  have w_fl_RX10_266 := hts _ (List.mem_cons_of_mem _ fl_RX10_266)
  have w_fl_RX10_269 := hts _ (List.mem_cons_of_mem _ fl_RX10_269)
  have w_fl_RX10_32 := hts _ (List.mem_cons_of_mem _ fl_RX10_32)
  unfold wp_X10_addMeeting at h
  refine lv_aload_n hx hb dX10_addMeeting_0 rfl (lv_at hl 0 rfl) ?_
  refine lv_iload_n hx hb dX10_addMeeting_1 rfl (lv_at hl 1 rfl) ?_
  rcases h with h | h
  · refine j_contv (va_runV (As := [.int (J a1)]) (rest := []) ⟨hx, hb, hml, hown, hts⟩ (Ao_X10_needZone l ka0 h) (cwV 1 hts (gj_V ml_RX10_137 i_X10_needZone s_X10_needZone n_RX10 k_X10_needZone) rfl rfl rfl (by decide +kernel) ⟨by exact Nat.le_of_ble_eq_true rfl, by exact Nat.le_of_ble_eq_true rfl⟩) (j_preV hK hSX hG (ci := 9) rfl ka0 (by decide)) rfl rfl hl.1 rfl (lv_room (Nat.le_of_ble_eq_true rfl)) dX10_addMeeting_2 ⟨by exact Nat.le_of_ble_eq_true rfl, by exact Nat.le_of_ble_eq_true rfl⟩) hG (c2 := 0) (s2 := 0) ⟨by exact Nat.le_of_ble_eq_true rfl, by exact Nat.le_of_ble_eq_true rfl⟩ (fun M2 h H locs hG => ?_)
    obtain ⟨h, eM2⟩ := h
    rw [eM2] at hG
    refine lv_iload_n hx hb dX10_addMeeting_5 rfl (lv_at hl 2 rfl) ?_
    obtain ⟨g3, h⟩ := h
    refine j_conti (va_runS (As := [.int (J a2)]) (rest := []) ⟨hx, hb, hml, hown, hts⟩ (A_X10_isDay l g3) (va_cwS 1 hts (gj_S ml_RX10_85 i_X10_isDay n_RX10 k_X10_isDay) rfl rfl rfl (by decide +kernel) ⟨by exact Nat.le_of_ble_eq_true rfl, by exact Nat.le_of_ble_eq_true rfl⟩) (j_preS hK hSX hG) rfl rfl hl.1 rfl (lv_room (Nat.le_of_ble_eq_true rfl)) dX10_addMeeting_6 ⟨by exact Nat.le_of_ble_eq_true rfl, by exact Nat.le_of_ble_eq_true rfl⟩) hG (c2 := 0) (s2 := 0) ⟨by exact Nat.le_of_ble_eq_true rfl, by exact Nat.le_of_ble_eq_true rfl⟩ (fun z4 M5 ez4 H locs hG => ?_)
    obtain ⟨ez4, eM5⟩ := ez4
    subst ez4
    rw [eM5] at hG
    obtain ⟨K22, hK22, h⟩ := h
    have jK22 : ∀ (x21 : Int), K22 x21 → ∀ (H : Heap) (locs : List Loc), GM D cy o M s.heap H locs → ∀ ls : Array Slot, lv_has ls 8 [(0, .ref (rA o a0)), (1, .int (J a1)), (2, .int (J a2)), (3, .int (J a3)), (4, .int (J a4)), (5, .int (J a5)), (6, .int (J a6))] → W p l e rm_X10_addMeeting s m args below meth c H locs 0 0 Qf (F0 m 42 ls [.int (J x21)]) := by
      intro x21 hcK22 H locs hG ls hl
      have h := hK22 x21 hcK22
      rcases h with h | h
      · refine j_contv (va_runS (As := [.int (J x21)]) (rest := []) ⟨hx, hb, hml, hown, hts⟩ (Ao_X10_needArgument l h) (va_cwS 1 hts (gj_S ml_RX10_72 i_X10_needArgument n_RX10 k_X10_needArgument) rfl rfl rfl (by decide +kernel) ⟨by exact Nat.le_of_ble_eq_true rfl, by exact Nat.le_of_ble_eq_true rfl⟩) (j_preS hK hSX hG) rfl rfl hl.1 rfl (lv_room (Nat.le_of_ble_eq_true rfl)) dX10_addMeeting_42 ⟨by exact Nat.le_of_ble_eq_true rfl, by exact Nat.le_of_ble_eq_true rfl⟩) hG (c2 := 0) (s2 := 0) ⟨by exact Nat.le_of_ble_eq_true rfl, by exact Nat.le_of_ble_eq_true rfl⟩ (fun M24 h H locs hG => ?_)
        obtain ⟨h, eM24⟩ := h
        rw [eM24] at hG
        refine lv_iload hx hb dX10_addMeeting_45 (lv_at hl 5 rfl) ?_
        obtain ⟨g25, h⟩ := h
        refine j_conti (va_runS (As := [.int (J a5)]) (rest := []) ⟨hx, hb, hml, hown, hts⟩ (A_X10_isMode l g25) (va_cwS 1 hts (gj_S ml_RX10_250 i_X10_isMode n_RX10 k_X10_isMode) rfl rfl rfl (by decide +kernel) ⟨by exact Nat.le_of_ble_eq_true rfl, by exact Nat.le_of_ble_eq_true rfl⟩) (j_preS hK hSX hG) rfl rfl hl.1 rfl (lv_room (Nat.le_of_ble_eq_true rfl)) dX10_addMeeting_47 ⟨by exact Nat.le_of_ble_eq_true rfl, by exact Nat.le_of_ble_eq_true rfl⟩) hG (c2 := 0) (s2 := 0) ⟨by exact Nat.le_of_ble_eq_true rfl, by exact Nat.le_of_ble_eq_true rfl⟩ (fun z26 M27 ez26 H locs hG => ?_)
        obtain ⟨ez26, eM27⟩ := ez26
        subst ez26
        rw [eM27] at hG
        obtain ⟨K38, hK38, h⟩ := h
        have jK38 : ∀ (x37 : Int), K38 x37 → ∀ (H : Heap) (locs : List Loc), GM D cy o M s.heap H locs → ∀ ls : Array Slot, lv_has ls 8 [(0, .ref (rA o a0)), (1, .int (J a1)), (2, .int (J a2)), (3, .int (J a3)), (4, .int (J a4)), (5, .int (J a5)), (6, .int (J a6))] → W p l e rm_X10_addMeeting s m args below meth c H locs 0 0 Qf (F0 m 71 ls [.int (J x37)]) := by
          intro x37 hcK38 H locs hG ls hl
          have h := hK38 x37 hcK38
          rcases h with h | h
          · refine j_contv (va_runS (As := [.int (J x37)]) (rest := []) ⟨hx, hb, hml, hown, hts⟩ (Ao_X10_needArgument l h) (va_cwS 1 hts (gj_S ml_RX10_72 i_X10_needArgument n_RX10 k_X10_needArgument) rfl rfl rfl (by decide +kernel) ⟨by exact Nat.le_of_ble_eq_true rfl, by exact Nat.le_of_ble_eq_true rfl⟩) (j_preS hK hSX hG) rfl rfl hl.1 rfl (lv_room (Nat.le_of_ble_eq_true rfl)) dX10_addMeeting_71 ⟨by exact Nat.le_of_ble_eq_true rfl, by exact Nat.le_of_ble_eq_true rfl⟩) hG (c2 := 0) (s2 := 0) ⟨by exact Nat.le_of_ble_eq_true rfl, by exact Nat.le_of_ble_eq_true rfl⟩ (fun M40 h H locs hG => ?_)
            obtain ⟨h, eM40⟩ := h
            rw [eM40] at hG
            refine lv_aload_n hx hb dX10_addMeeting_74 rfl (lv_at hl 0 rfl) ?_
            refine j_getr hx hb hts hown hK hG (k := a0) (fun w h => List.mem_cons_of_mem _ (u_X10 w h)) (ci := 9) rfl ka0 0 (k2 := a0 + 1) (by decide) (by show a0 + (1 : Int) = a0 + 1; omega) w_fl_RX10_12 dX10_addMeeting_75 ?_
            refine j_geti hx hb hts hown hK hG (k := a0 + 1) (fun w h => List.mem_cons_of_mem _ (u_X0 w h)) (ci := 0) rfl (kf_10_0 ka0) 1 (by decide) (jz := 1) rfl w_fl_RX10_266 dX10_addMeeting_78 ?_
            refine lv_bipush (v := J 10) hx hb dX10_addMeeting_81 (by decide) ?_
            obtain ⟨hg, h⟩ := h
            have jK44 : ∀ x43 : Int, (10 ≤ M (a0 + 1) 1 → x43 = 3) → (M (a0 + 1) 1 < 10 → x43 = 0) → ∀ (H : Heap) (locs : List Loc), GM D cy o M s.heap H locs → ∀ ls : Array Slot, lv_has ls 8 [(0, .ref (rA o a0)), (1, .int (J a1)), (2, .int (J a2)), (3, .int (J a3)), (4, .int (J a4)), (5, .int (J a5)), (6, .int (J a6))] → W p l e rm_X10_addMeeting s m args below meth c H locs 0 0 Qf (F0 m 91 ls [.int (J x43)]) := by
              intro x43 qx43_0 qx43_1 H locs hG ls hl
              have h := h x43 qx43_0 qx43_1
              rcases h with h | h
              · refine j_contv (va_runS (As := [.int (J x43)]) (rest := []) ⟨hx, hb, hml, hown, hts⟩ (Ao_X10_refuse l h) (va_cwS 1 hts (gj_S ml_RX10_107 i_X10_refuse n_RX10 k_X10_refuse) rfl rfl rfl (by decide +kernel) ⟨by exact Nat.le_of_ble_eq_true rfl, by exact Nat.le_of_ble_eq_true rfl⟩) (j_preS hK hSX hG) rfl rfl hl.1 rfl (lv_room (Nat.le_of_ble_eq_true rfl)) dX10_addMeeting_91 ⟨by exact Nat.le_of_ble_eq_true rfl, by exact Nat.le_of_ble_eq_true rfl⟩) hG (c2 := 0) (s2 := 0) ⟨by exact Nat.le_of_ble_eq_true rfl, by exact Nat.le_of_ble_eq_true rfl⟩ (fun M48 h H locs hG => ?_)
                obtain ⟨h, eM48⟩ := h
                rw [eM48] at hG
                refine lv_aload_n hx hb dX10_addMeeting_94 rfl (lv_at hl 0 rfl) ?_
                refine j_contv (va_runV (As := []) (rest := []) ⟨hx, hb, hml, hown, hts⟩ (A_X10_remember l ka0 h) (cwV 0 hts (gj_V ml_RX10_111 i_X10_remember s_X10_remember n_RX10 k_X10_remember) rfl rfl rfl (by decide +kernel) ⟨by exact Nat.le_of_ble_eq_true rfl, by exact Nat.le_of_ble_eq_true rfl⟩) (j_preV hK hSX hG (ci := 9) rfl ka0 (by decide)) rfl rfl hl.1 rfl (lv_room (Nat.le_of_ble_eq_true rfl)) dX10_addMeeting_95 ⟨by exact Nat.le_of_ble_eq_true rfl, by exact Nat.le_of_ble_eq_true rfl⟩) hG (c2 := 0) (s2 := 0) ⟨by exact Nat.le_of_ble_eq_true rfl, by exact Nat.le_of_ble_eq_true rfl⟩ (fun M50 h H locs hG => ?_)
                refine lv_aload_n hx hb dX10_addMeeting_98 rfl (lv_at hl 0 rfl) ?_
                refine j_getr hx hb hts hown hK hG (k := a0) (fun w h => List.mem_cons_of_mem _ (u_X10 w h)) (ci := 9) rfl ka0 0 (k2 := a0 + 1) (by decide) (by show a0 + (1 : Int) = a0 + 1; omega) w_fl_RX10_12 dX10_addMeeting_99 ?_
                refine j_geti hx hb hts hown hK hG (k := a0 + 1) (fun w h => List.mem_cons_of_mem _ (u_X0 w h)) (ci := 0) rfl (kf_10_0 ka0) 1 (by decide) (jz := 1) rfl w_fl_RX10_266 dX10_addMeeting_102 ?_
                refine j_topi (fun x51 ex51 => ?_)
                have h := h x51 ex51
                refine lv_istore (lv' := [(7, .int (J x51)), (0, .ref (rA o a0)), (1, .int (J a1)), (2, .int (J a2)), (3, .int (J a3)), (4, .int (J a4)), (5, .int (J a5)), (6, .int (J a6))]) hx hb dX10_addMeeting_105 hl (by decide) rfl (fun ls hl => ?_)
                refine lv_aload_n hx hb dX10_addMeeting_107 rfl (lv_at hl 1 rfl) ?_
                refine j_getr hx hb hts hown hK hG (k := a0) (fun w h => List.mem_cons_of_mem _ (u_X10 w h)) (ci := 9) rfl ka0 0 (k2 := a0 + 1) (by decide) (by show a0 + (1 : Int) = a0 + 1; omega) w_fl_RX10_12 dX10_addMeeting_108 ?_
                refine j_getr hx hb hts hown hK hG (k := a0 + 1) (fun w h => List.mem_cons_of_mem _ (u_X0 w h)) (ci := 0) rfl (kf_10_0 ka0) 3 (k2 := a0 + 3) (by decide) (by show (a0 + 1) + (2 : Int) = a0 + 3; omega) w_fl_RX10_269 dX10_addMeeting_111 ?_
                refine lv_iload hx hb dX10_addMeeting_114 (lv_at hl 0 rfl) ?_
                obtain ⟨g52, h⟩ := h
                refine j_aald hx hb hK hG (t := 21) (t0 := 4) (k2 := a0 + 2 * x51 + 28) (show kd (a0 + 3) = 21 from (show (a0 + 1) + 2 = a0 + 3 from by omega) ▸ (kf_1_3 (kf_10_0 ka0))) (by decide) rfl g52 (by simp only [ra_21]; omega) dX10_addMeeting_116 ?_
                have k53 : kd (a0 + 2 * x51 + 28) = 4 := by have q9 := (ka_21 (show kd (a0 + 3) = 21 from (show (a0 + 1) + 2 = a0 + 3 from by omega) ▸ (kf_1_3 (kf_10_0 ka0))) g52); rwa [show (a0 + 3) + 25 + 2 * x51 = a0 + 2 * x51 + 28 from by omega] at q9
                refine lv_iload_n hx hb dX10_addMeeting_117 rfl (lv_at hl 2 rfl) ?_
                refine lv_iload_n hx hb dX10_addMeeting_118 rfl (lv_at hl 3 rfl) ?_
                refine lv_iload_n hx hb dX10_addMeeting_119 rfl (lv_at hl 4 rfl) ?_
                refine lv_iload hx hb dX10_addMeeting_120 (lv_at hl 5 rfl) ?_
                refine lv_iload hx hb dX10_addMeeting_122 (lv_at hl 6 rfl) ?_
                refine lv_iload hx hb dX10_addMeeting_124 (lv_at hl 7 rfl) ?_
                refine j_contv (va_runV (As := [.int (J a1), .int (J a2), .int (J a3), .int (J a4), .int (J a5), .int (J a6)]) (rest := []) ⟨hx, hb, hml, hown, hts⟩ (A_X4_begin l k53 h) (cwV 6 hts (gj_V ml_RX10_273 i_X4_begin s_X4_begin n_RX4 k_X4_begin) rfl rfl rfl (by decide +kernel) ⟨by exact Nat.le_of_ble_eq_true rfl, by exact Nat.le_of_ble_eq_true rfl⟩) (j_preV hK hSX hG (ci := 3) rfl k53 (by decide)) rfl rfl hl.1 rfl (lv_room (Nat.le_of_ble_eq_true rfl)) dX10_addMeeting_126 ⟨by exact Nat.le_of_ble_eq_true rfl, by exact Nat.le_of_ble_eq_true rfl⟩) hG (c2 := 0) (s2 := 0) ⟨by exact Nat.le_of_ble_eq_true rfl, by exact Nat.le_of_ble_eq_true rfl⟩ (fun M55 h H locs hG => ?_)
                refine lv_aload_n hx hb dX10_addMeeting_129 rfl (lv_at hl 1 rfl) ?_
                refine j_getr hx hb hts hown hK hG (k := a0) (fun w h => List.mem_cons_of_mem _ (u_X10 w h)) (ci := 9) rfl ka0 0 (k2 := a0 + 1) (by decide) (by show a0 + (1 : Int) = a0 + 1; omega) w_fl_RX10_12 dX10_addMeeting_130 ?_
                refine lv_iload hx hb dX10_addMeeting_133 (lv_at hl 0 rfl) ?_
                refine lv_iconst (v := J 1) hx hb dX10_addMeeting_135 (by decide) ?_
                refine j_iadd hx hb dX10_addMeeting_136 ?_
                refine j_puti hx hb hts hown hK hG (k := a0 + 1) (fun w h => List.mem_cons_of_mem _ (u_X0 w h)) tyX0 tyX0_ok nmX0 (ci := 0) rfl (kf_10_0 ka0) 1 (by decide) (jz := 1) rfl w_fl_RX10_266 (hd := rfl) (hn := rfl) (hfit := rfl) (hdg := dX10_addMeeting_137) (fun M56 eM56 H locs hG => ?_)
                have h := h M56 eM56
                refine lv_aload_n hx hb dX10_addMeeting_140 rfl (lv_at hl 1 rfl) ?_
                refine j_getr hx hb hts hown hK hG (k := a0) (fun w h => List.mem_cons_of_mem _ (u_X10 w h)) (ci := 9) rfl ka0 3 (k2 := a0 + 569) (by decide) (by show a0 + (569 : Int) = a0 + 569; omega) w_fl_RX10_32 dX10_addMeeting_141 ?_
                refine lv_iload hx hb dX10_addMeeting_144 (lv_at hl 0 rfl) ?_
                refine j_aald hx hb hK hG (t := 24) (t0 := 7) (k2 := a0 + 3 * x51 + 570) (kf_10_3 ka0) (by decide) rfl g52 (by simp only [ra_24]; omega) dX10_addMeeting_146 ?_
                have k57 : kd (a0 + 3 * x51 + 570) = 5 := by have q9 := (ka_24 (kf_10_3 ka0) g52); rwa [show (a0 + 569) + 1 + 3 * x51 = a0 + 3 * x51 + 570 from by omega] at q9
                refine j_contv (va_runV (As := []) (rest := []) ⟨hx, hb, hml, hown, hts⟩ (A_X5_spoil l k57 h) (cwV 0 hts (gj_V ml_RX10_278 i_X5_spoil s_X5_spoil n_RX5 k_X5_spoil) rfl rfl rfl (by decide +kernel) ⟨by exact Nat.le_of_ble_eq_true rfl, by exact Nat.le_of_ble_eq_true rfl⟩) (j_preV hK hSX hG (ci := 4) rfl k57 (by decide)) rfl rfl hl.1 rfl (lv_room (Nat.le_of_ble_eq_true rfl)) dX10_addMeeting_147 ⟨by exact Nat.le_of_ble_eq_true rfl, by exact Nat.le_of_ble_eq_true rfl⟩) hG (c2 := 0) (s2 := 0) ⟨by exact Nat.le_of_ble_eq_true rfl, by exact Nat.le_of_ble_eq_true rfl⟩ (fun M59 h H locs hG => ?_)
                refine lv_iload hx hb dX10_addMeeting_150 (lv_at hl 0 rfl) ?_
                rw [hQf]
                exact vx_ret (j_ireti hx hb hr hlocks hG h (by decide) dX10_addMeeting_152)
              · refine j_contxv (vx_runS (As := [.int (J x43)]) (rest := []) ⟨hx, hb, hml, hown, hts⟩ (A_X10_refuse l hst h) (va_cwS 1 hts (gj_S ml_RX10_107 i_X10_refuse n_RX10 k_X10_refuse) rfl rfl rfl (by decide +kernel) ⟨by exact Nat.le_of_ble_eq_true rfl, by exact Nat.le_of_ble_eq_true rfl⟩) (j_preS hK hSX hG) rfl rfl hl.1 rfl (lv_room (Nat.le_of_ble_eq_true rfl)) dX10_addMeeting_91 ⟨by exact Nat.le_of_ble_eq_true rfl, by exact Nat.le_of_ble_eq_true rfl⟩) hG (c2 := 1) (s2 := 6) ⟨by exact Nat.le_of_ble_eq_true rfl, by exact Nat.le_of_ble_eq_true rfl⟩ (fun x M h ce q H locs hG h1 h2 h3 => ?_) (fun M h H locs hG => h.elim)
                rw [hQf]
                exact j_xout hlocks hout hG h h1 h2 h3 (by decide)
            have h := hg
            obtain ⟨g46, h⟩ := h
            refine j_icmp_ge (tgt := 90) hx hb dX10_addMeeting_83 (by decide) g46 (by decide) (fun c45 => ?_) (fun c45 => ?_)
            · have h := h.1 c45
              refine lv_iconst (v := J 3) hx hb dX10_addMeeting_90 (by decide) ?_
              exact jK44 3 (fun _ => rfl) (fun q => absurd q (by omega)) H locs hG ls (lv_sub hl [0, 1, 2, 3, 4, 5, 6] rfl)
            · have h := h.2 c45
              refine lv_iconst (v := J 0) hx hb dX10_addMeeting_86 (by decide) ?_
              refine lv_goto (tgt := 91) hx hb dX10_addMeeting_87 (by decide) ?_
              exact jK44 0 (fun q => absurd q (by omega)) (fun _ => rfl) H locs hG ls (lv_sub hl [0, 1, 2, 3, 4, 5, 6] rfl)
          · refine j_contxv (vx_runS (As := [.int (J x37)]) (rest := []) ⟨hx, hb, hml, hown, hts⟩ (A_X10_needArgument l hst h) (va_cwS 1 hts (gj_S ml_RX10_72 i_X10_needArgument n_RX10 k_X10_needArgument) rfl rfl rfl (by decide +kernel) ⟨by exact Nat.le_of_ble_eq_true rfl, by exact Nat.le_of_ble_eq_true rfl⟩) (j_preS hK hSX hG) rfl rfl hl.1 rfl (lv_room (Nat.le_of_ble_eq_true rfl)) dX10_addMeeting_71 ⟨by exact Nat.le_of_ble_eq_true rfl, by exact Nat.le_of_ble_eq_true rfl⟩) hG (c2 := 1) (s2 := 6) ⟨by exact Nat.le_of_ble_eq_true rfl, by exact Nat.le_of_ble_eq_true rfl⟩ (fun x M h ce q H locs hG h1 h2 h3 => ?_) (fun M h H locs hG => h.elim)
            rw [hQf]
            exact j_xout hlocks hout hG h h1 h2 h3 (by decide)
        obtain ⟨K64, hK64, h⟩ := h
        have jK64 : K64 → ∀ (H : Heap) (locs : List Loc), GM D cy o M s.heap H locs → ∀ ls : Array Slot, lv_has ls 8 [(0, .ref (rA o a0)), (1, .int (J a1)), (2, .int (J a2)), (3, .int (J a3)), (4, .int (J a4)), (5, .int (J a5)), (6, .int (J a6))] → W p l e rm_X10_addMeeting s m args below meth c H locs 0 0 Qf (F0 m 70 ls []) := by
          intro hcK64 H locs hG ls hl
          have h := hK64 hcK64
          refine lv_iconst (v := J 0) hx hb dX10_addMeeting_70 (by decide) ?_
          exact jK38 0 h H locs hG ls (lv_sub hl [0, 1, 2, 3, 4, 5, 6] rfl)
        refine j_if_eq_b (tgt := 70) hx hb dX10_addMeeting_50 (by decide) (fun c65 => ?_) (fun c65 => ?_)
        · have h := h.1 c65
          exact jK64 h H locs hG ls (lv_sub hl [0, 1, 2, 3, 4, 5, 6] rfl)
        · have h := h.2 c65
          refine lv_iload hx hb dX10_addMeeting_53 (lv_at hl 6 rfl) ?_
          refine lv_iconst (v := J 1) hx hb dX10_addMeeting_55 (by decide) ?_
          obtain ⟨g67, h⟩ := h
          refine j_icmp_lt (tgt := 70) hx hb dX10_addMeeting_56 (by decide) g67 (by decide) (fun c66 => ?_) (fun c66 => ?_)
          · have h := h.1 c66
            exact jK64 h H locs hG ls (lv_sub hl [0, 1, 2, 3, 4, 5, 6] rfl)
          · have h := h.2 c66
            refine lv_iload hx hb dX10_addMeeting_59 (lv_at hl 6 rfl) ?_
            refine lv_bipush (v := J 40) hx hb dX10_addMeeting_61 (by decide) ?_
            refine j_icmp_gt (tgt := 70) hx hb dX10_addMeeting_63 (by decide) g67 (by decide) (fun c68 => ?_) (fun c68 => ?_)
            · have h := h.1 c68
              exact jK64 h H locs hG ls (lv_sub hl [0, 1, 2, 3, 4, 5, 6] rfl)
            · have h := h.2 c68
              refine lv_iconst (v := J 1) hx hb dX10_addMeeting_66 (by decide) ?_
              refine lv_goto (tgt := 71) hx hb dX10_addMeeting_67 (by decide) ?_
              exact jK38 1 h H locs hG ls (lv_sub hl [0, 1, 2, 3, 4, 5, 6] rfl)
      · refine j_contxv (vx_runS (As := [.int (J x21)]) (rest := []) ⟨hx, hb, hml, hown, hts⟩ (A_X10_needArgument l hst h) (va_cwS 1 hts (gj_S ml_RX10_72 i_X10_needArgument n_RX10 k_X10_needArgument) rfl rfl rfl (by decide +kernel) ⟨by exact Nat.le_of_ble_eq_true rfl, by exact Nat.le_of_ble_eq_true rfl⟩) (j_preS hK hSX hG) rfl rfl hl.1 rfl (lv_room (Nat.le_of_ble_eq_true rfl)) dX10_addMeeting_42 ⟨by exact Nat.le_of_ble_eq_true rfl, by exact Nat.le_of_ble_eq_true rfl⟩) hG (c2 := 1) (s2 := 6) ⟨by exact Nat.le_of_ble_eq_true rfl, by exact Nat.le_of_ble_eq_true rfl⟩ (fun x M h ce q H locs hG h1 h2 h3 => ?_) (fun M h H locs hG => h.elim)
        rw [hQf]
        exact j_xout hlocks hout hG h h1 h2 h3 (by decide)
    obtain ⟨K76, hK76, h⟩ := h
    have jK76 : K76 → ∀ (H : Heap) (locs : List Loc), GM D cy o M s.heap H locs → ∀ ls : Array Slot, lv_has ls 8 [(0, .ref (rA o a0)), (1, .int (J a1)), (2, .int (J a2)), (3, .int (J a3)), (4, .int (J a4)), (5, .int (J a5)), (6, .int (J a6))] → W p l e rm_X10_addMeeting s m args below meth c H locs 0 0 Qf (F0 m 41 ls []) := by
      intro hcK76 H locs hG ls hl
      have h := hK76 hcK76
      refine lv_iconst (v := J 0) hx hb dX10_addMeeting_41 (by decide) ?_
      exact jK22 0 h H locs hG ls (lv_sub hl [0, 1, 2, 3, 4, 5, 6] rfl)
    refine j_if_eq_b (tgt := 41) hx hb dX10_addMeeting_9 (by decide) (fun c77 => ?_) (fun c77 => ?_)
    · have h := h.1 c77
      exact jK76 h H locs hG ls (lv_sub hl [0, 1, 2, 3, 4, 5, 6] rfl)
    · have h := h.2 c77
      refine lv_iload_n hx hb dX10_addMeeting_12 rfl (lv_at hl 3 rfl) ?_
      obtain ⟨g79, h⟩ := h
      refine j_if_lt (tgt := 41) hx hb dX10_addMeeting_13 (by decide) g79 (fun c78 => ?_) (fun c78 => ?_)
      · have h := h.1 c78
        exact jK76 h H locs hG ls (lv_sub hl [0, 1, 2, 3, 4, 5, 6] rfl)
      · have h := h.2 c78
        refine lv_iload_n hx hb dX10_addMeeting_16 rfl (lv_at hl 3 rfl) ?_
        refine lv_sipush (v := J 1440) hx hb dX10_addMeeting_17 (by decide) ?_
        refine j_icmp_ge (tgt := 41) hx hb dX10_addMeeting_20 (by decide) g79 (by decide) (fun c80 => ?_) (fun c80 => ?_)
        · have h := h.1 c80
          exact jK76 h H locs hG ls (lv_sub hl [0, 1, 2, 3, 4, 5, 6] rfl)
        · have h := h.2 c80
          refine lv_iload hx hb dX10_addMeeting_23 (lv_at hl 4 rfl) ?_
          refine lv_iconst (v := J 1) hx hb dX10_addMeeting_25 (by decide) ?_
          obtain ⟨g82, h⟩ := h
          refine j_icmp_lt (tgt := 41) hx hb dX10_addMeeting_26 (by decide) g82 (by decide) (fun c81 => ?_) (fun c81 => ?_)
          · have h := h.1 c81
            exact jK76 h H locs hG ls (lv_sub hl [0, 1, 2, 3, 4, 5, 6] rfl)
          · have h := h.2 c81
            refine lv_iload hx hb dX10_addMeeting_29 (lv_at hl 4 rfl) ?_
            refine lv_sipush (v := J 1440) hx hb dX10_addMeeting_31 (by decide) ?_
            refine j_icmp_gt (tgt := 41) hx hb dX10_addMeeting_34 (by decide) g82 (by decide) (fun c83 => ?_) (fun c83 => ?_)
            · have h := h.1 c83
              exact jK76 h H locs hG ls (lv_sub hl [0, 1, 2, 3, 4, 5, 6] rfl)
            · have h := h.2 c83
              refine lv_iconst (v := J 1) hx hb dX10_addMeeting_37 (by decide) ?_
              refine lv_goto (tgt := 42) hx hb dX10_addMeeting_38 (by decide) ?_
              exact jK22 1 h H locs hG ls (lv_sub hl [0, 1, 2, 3, 4, 5, 6] rfl)
  · refine j_contxv (vx_runV (As := [.int (J a1)]) (rest := []) ⟨hx, hb, hml, hown, hts⟩ (A_X10_needZone l hst ka0 h) (cwV 1 hts (gj_V ml_RX10_137 i_X10_needZone s_X10_needZone n_RX10 k_X10_needZone) rfl rfl rfl (by decide +kernel) ⟨by exact Nat.le_of_ble_eq_true rfl, by exact Nat.le_of_ble_eq_true rfl⟩) (j_preV hK hSX hG (ci := 9) rfl ka0 (by decide)) rfl rfl hl.1 rfl (lv_room (Nat.le_of_ble_eq_true rfl)) dX10_addMeeting_2 ⟨by exact Nat.le_of_ble_eq_true rfl, by exact Nat.le_of_ble_eq_true rfl⟩) hG (c2 := 1) (s2 := 6) ⟨by exact Nat.le_of_ble_eq_true rfl, by exact Nat.le_of_ble_eq_true rfl⟩ (fun x M h ce q H locs hG h1 h2 h3 => ?_) (fun M h H locs hG => h.elim)
    rw [hQf]
    exact j_xout hlocks hout hG h h1 h2 h3 (by decide)

abbrev rom_X10_needMeeting : Room := { frames := 1, cells := 0, slots := 0, locals := 20 }
set_option maxRecDepth 100000 in
set_option maxHeartbeats 4000000 in
theorem Ao_X10_needMeeting (l : Launch) {D : va_G} {cy : Nat → ClassId} {o : Nat} {sK sV : Nat → Nat} {M : jT} {a0 : Int} {a1 : Int} (ka0 : kd a0 = 10) {Q : Prop} (h : wo_X10_needMeeting M a0 a1 Q) : CoV l yX10_needMeeting (wj yX10_needMeeting cX10_needMeeting 2 none) rom_X10_needMeeting D cy o sK sV M [.ref (rA o a0), .int (J a1)] (fun M9 => Q ∧ M9 = M) := by
  refine j_ofW (cc := cX10_needMeeting) (maxL := 2) (ret := none) (by decide) rfl (Nat.le_of_ble_eq_true rfl) ?_
  intro p e s m args below meth c hx hb hr hlocks hml hown hts hK hSX H locs hG ls hl Qf hQf
  have hown : s.vm.findClass RX10 = some m.cls := hown
  have hl : lv_has ls 2 [(0, .ref (rA o a0)), (1, .int (J a1))] := hl
  have w_fl_RX10_12 := hts _ (List.mem_cons_of_mem _ fl_RX10_12)
  have w_fl_RX10_266 := hts _ (List.mem_cons_of_mem _ fl_RX10_266)
  unfold wo_X10_needMeeting at h
  refine lv_iload_n hx hb dX10_needMeeting_0 rfl (lv_at hl 1 rfl) ?_
  obtain ⟨K11, hK11, h⟩ := h
  have jK11 : ∀ (x10 : Int), K11 x10 → ∀ (H : Heap) (locs : List Loc), GM D cy o M s.heap H locs → ∀ ls : Array Slot, lv_has ls 2 [] → W p l e rom_X10_needMeeting s m args below meth c H locs 0 0 Qf (F0 m 20 ls [.int (J x10)]) := by
    intro x10 hcK11 H locs hG ls hl
    have h := hK11 x10 hcK11
    refine j_contv (va_runS (As := [.int (J x10)]) (rest := []) ⟨hx, hb, hml, hown, hts⟩ (Ao_X10_needIndex l h) (va_cwS 1 hts (gj_S ml_RX10_88 i_X10_needIndex n_RX10 k_X10_needIndex) rfl rfl rfl (by decide +kernel) ⟨by exact Nat.le_of_ble_eq_true rfl, by exact Nat.le_of_ble_eq_true rfl⟩) (j_preS hK hSX hG) rfl rfl hl.1 rfl (lv_room (Nat.le_of_ble_eq_true rfl)) dX10_needMeeting_20 ⟨by exact Nat.le_of_ble_eq_true rfl, by exact Nat.le_of_ble_eq_true rfl⟩) hG (c2 := 0) (s2 := 0) ⟨by exact Nat.le_of_ble_eq_true rfl, by exact Nat.le_of_ble_eq_true rfl⟩ (fun M13 h H locs hG => ?_)
    obtain ⟨h, eM13⟩ := h
    rw [eM13] at hG
    rw [hQf]
    exact j_vret hx hb hr hlocks hG ⟨h, rfl⟩ (by decide) dX10_needMeeting_23
  obtain ⟨K18, hK18, h⟩ := h
  have jK18 : K18 → ∀ (H : Heap) (locs : List Loc), GM D cy o M s.heap H locs → ∀ ls : Array Slot, lv_has ls 2 [] → W p l e rom_X10_needMeeting s m args below meth c H locs 0 0 Qf (F0 m 19 ls []) := by
    intro hcK18 H locs hG ls hl
    have h := hK18 hcK18
    refine lv_iconst (v := J 0) hx hb dX10_needMeeting_19 (by decide) ?_
    exact jK11 0 h H locs hG ls (lv_sub hl [] rfl)
  obtain ⟨g20, h⟩ := h
  refine j_if_lt (tgt := 19) hx hb dX10_needMeeting_1 (by decide) g20 (fun c19 => ?_) (fun c19 => ?_)
  · have h := h.1 c19
    exact jK18 h H locs hG ls (lv_sub hl [] rfl)
  · have h := h.2 c19
    refine lv_iload_n hx hb dX10_needMeeting_4 rfl (lv_at hl 1 rfl) ?_
    refine lv_aload_n hx hb dX10_needMeeting_5 rfl (lv_at hl 0 rfl) ?_
    refine j_getr hx hb hts hown hK hG (k := a0) (fun w h => List.mem_cons_of_mem _ (u_X10 w h)) (ci := 9) rfl ka0 0 (k2 := a0 + 1) (by decide) (by show a0 + (1 : Int) = a0 + 1; omega) w_fl_RX10_12 dX10_needMeeting_6 ?_
    refine j_geti hx hb hts hown hK hG (k := a0 + 1) (fun w h => List.mem_cons_of_mem _ (u_X0 w h)) (ci := 0) rfl (kf_10_0 ka0) 1 (by decide) (jz := 1) rfl w_fl_RX10_266 dX10_needMeeting_9 ?_
    obtain ⟨g22, h⟩ := h
    refine j_icmp_ge (tgt := 19) hx hb dX10_needMeeting_12 (by decide) g20 g22 (fun c21 => ?_) (fun c21 => ?_)
    · have h := h.1 c21
      exact jK18 h H locs hG ls (lv_sub hl [] rfl)
    · have h := h.2 c21
      refine lv_iconst (v := J 1) hx hb dX10_needMeeting_15 (by decide) ?_
      refine lv_goto (tgt := 20) hx hb dX10_needMeeting_16 (by decide) ?_
      exact jK11 1 h H locs hG ls (lv_sub hl [] rfl)
abbrev rm_X10_needMeeting : Room := { frames := 7, cells := 1, slots := 6, locals := 110 }
set_option maxRecDepth 100000 in
set_option maxHeartbeats 4000000 in
theorem A_X10_needMeeting (l : Launch) (hst : l.stackTraces = false) {D : va_G} {cy : Nat → ClassId} {o : Nat} {sK sV : Nat → Nat} {M : jT} {a0 : Int} {a1 : Int} (ka0 : kd a0 = 10) {Q : jT → Prop} {X : Nat → jT → Prop} (h : wp_X10_needMeeting M a0 a1 Q X) : CxV l yX10_needMeeting (wj yX10_needMeeting cX10_needMeeting 2 none) rm_X10_needMeeting D cy o sK sV M [.ref (rA o a0), .int (J a1)] Q X := by
  refine j_ofWx (cc := cX10_needMeeting) (maxL := 2) (ret := none) (by decide) rfl (Nat.le_of_ble_eq_true rfl) ?_
  intro p e s m args below meth c hx hb hr hlocks hout hml hown hts hK hSX H locs hsz hG ls hl Qf hQf
  have hown : s.vm.findClass RX10 = some m.cls := hown
  have hl : lv_has ls 2 [(0, .ref (rA o a0)), (1, .int (J a1))] := hl
  have w_fl_RX10_12 := hts _ (List.mem_cons_of_mem _ fl_RX10_12)
  have w_fl_RX10_266 := hts _ (List.mem_cons_of_mem _ fl_RX10_266)
  unfold wp_X10_needMeeting at h
  refine lv_iload_n hx hb dX10_needMeeting_0 rfl (lv_at hl 1 rfl) ?_
  obtain ⟨K11, hK11, h⟩ := h
  have jK11 : ∀ (x10 : Int), K11 x10 → ∀ (H : Heap) (locs : List Loc), GM D cy o M s.heap H locs → ∀ ls : Array Slot, lv_has ls 2 [] → W p l e rm_X10_needMeeting s m args below meth c H locs 0 0 Qf (F0 m 20 ls [.int (J x10)]) := by
    intro x10 hcK11 H locs hG ls hl
    have h := hK11 x10 hcK11
    rcases h with h | h
    · refine j_contv (va_runS (As := [.int (J x10)]) (rest := []) ⟨hx, hb, hml, hown, hts⟩ (Ao_X10_needIndex l h) (va_cwS 1 hts (gj_S ml_RX10_88 i_X10_needIndex n_RX10 k_X10_needIndex) rfl rfl rfl (by decide +kernel) ⟨by exact Nat.le_of_ble_eq_true rfl, by exact Nat.le_of_ble_eq_true rfl⟩) (j_preS hK hSX hG) rfl rfl hl.1 rfl (lv_room (Nat.le_of_ble_eq_true rfl)) dX10_needMeeting_20 ⟨by exact Nat.le_of_ble_eq_true rfl, by exact Nat.le_of_ble_eq_true rfl⟩) hG (c2 := 0) (s2 := 0) ⟨by exact Nat.le_of_ble_eq_true rfl, by exact Nat.le_of_ble_eq_true rfl⟩ (fun M13 h H locs hG => ?_)
      obtain ⟨h, eM13⟩ := h
      rw [eM13] at hG
      rw [hQf]
      exact vx_ret (j_vret hx hb hr hlocks hG h (by decide) dX10_needMeeting_23)
    · refine j_contxv (vx_runS (As := [.int (J x10)]) (rest := []) ⟨hx, hb, hml, hown, hts⟩ (A_X10_needIndex l hst h) (va_cwS 1 hts (gj_S ml_RX10_88 i_X10_needIndex n_RX10 k_X10_needIndex) rfl rfl rfl (by decide +kernel) ⟨by exact Nat.le_of_ble_eq_true rfl, by exact Nat.le_of_ble_eq_true rfl⟩) (j_preS hK hSX hG) rfl rfl hl.1 rfl (lv_room (Nat.le_of_ble_eq_true rfl)) dX10_needMeeting_20 ⟨by exact Nat.le_of_ble_eq_true rfl, by exact Nat.le_of_ble_eq_true rfl⟩) hG (c2 := 1) (s2 := 6) ⟨by exact Nat.le_of_ble_eq_true rfl, by exact Nat.le_of_ble_eq_true rfl⟩ (fun x M h ce q H locs hG h1 h2 h3 => ?_) (fun M h H locs hG => h.elim)
      rw [hQf]
      exact j_xout hlocks hout hG h h1 h2 h3 (by decide)
  obtain ⟨K18, hK18, h⟩ := h
  have jK18 : K18 → ∀ (H : Heap) (locs : List Loc), GM D cy o M s.heap H locs → ∀ ls : Array Slot, lv_has ls 2 [] → W p l e rm_X10_needMeeting s m args below meth c H locs 0 0 Qf (F0 m 19 ls []) := by
    intro hcK18 H locs hG ls hl
    have h := hK18 hcK18
    refine lv_iconst (v := J 0) hx hb dX10_needMeeting_19 (by decide) ?_
    exact jK11 0 h H locs hG ls (lv_sub hl [] rfl)
  obtain ⟨g20, h⟩ := h
  refine j_if_lt (tgt := 19) hx hb dX10_needMeeting_1 (by decide) g20 (fun c19 => ?_) (fun c19 => ?_)
  · have h := h.1 c19
    exact jK18 h H locs hG ls (lv_sub hl [] rfl)
  · have h := h.2 c19
    refine lv_iload_n hx hb dX10_needMeeting_4 rfl (lv_at hl 1 rfl) ?_
    refine lv_aload_n hx hb dX10_needMeeting_5 rfl (lv_at hl 0 rfl) ?_
    refine j_getr hx hb hts hown hK hG (k := a0) (fun w h => List.mem_cons_of_mem _ (u_X10 w h)) (ci := 9) rfl ka0 0 (k2 := a0 + 1) (by decide) (by show a0 + (1 : Int) = a0 + 1; omega) w_fl_RX10_12 dX10_needMeeting_6 ?_
    refine j_geti hx hb hts hown hK hG (k := a0 + 1) (fun w h => List.mem_cons_of_mem _ (u_X0 w h)) (ci := 0) rfl (kf_10_0 ka0) 1 (by decide) (jz := 1) rfl w_fl_RX10_266 dX10_needMeeting_9 ?_
    obtain ⟨g22, h⟩ := h
    refine j_icmp_ge (tgt := 19) hx hb dX10_needMeeting_12 (by decide) g20 g22 (fun c21 => ?_) (fun c21 => ?_)
    · have h := h.1 c21
      exact jK18 h H locs hG ls (lv_sub hl [] rfl)
    · have h := h.2 c21
      refine lv_iconst (v := J 1) hx hb dX10_needMeeting_15 (by decide) ?_
      refine lv_goto (tgt := 20) hx hb dX10_needMeeting_16 (by decide) ?_
      exact jK11 1 h H locs hG ls (lv_sub hl [] rfl)

abbrev rm_X10_greatestStep : Room := { frames := 0, cells := 0, slots := 0, locals := 0 }
set_option maxRecDepth 100000 in
set_option maxHeartbeats 4000000 in
theorem A_X10_greatestStep (l : Launch) {D : va_G} {cy : Nat → ClassId} {o : Nat} {sK sV : Nat → Nat} {M : jT} {a0 : Int} (h : pg_X10_greatestStep a0) : CoI l yX10_greatestStep (wj yX10_greatestStep cX10_greatestStep 1 (some .int)) rm_X10_greatestStep D cy o sK sV M [.int (J a0)] (fun z M9 => z = pf_X10_greatestStep a0 ∧ M9 = M) := by
  refine j_ofW (cc := cX10_greatestStep) (maxL := 1) (ret := (some .int)) (by decide) rfl (Nat.le_of_ble_eq_true rfl) ?_
  intro p e s m args below meth c hx hb hr hlocks hml hown hts hK hSX H locs hG ls hl Qf hQf
  have hown : s.vm.findClass RX10 = some m.cls := hown
  have hl : lv_has ls 1 [(0, .int (J a0))] := hl
  unfold pg_X10_greatestStep at h
  refine lv_iload_n hx hb dX10_greatestStep_0 rfl (lv_at hl 0 rfl) ?_
  obtain ⟨g1, h⟩ := h
  rcases em_eqI (a0) 0 with c2 | c2_0
  · refine j_lsw hx hb dX10_greatestStep_1 g1 (k := 0) (tgt := 28) c2 rfl (by decide) (by decide) ?_
    have h := h.1 c2
    refine lv_bipush (v := J 60) hx hb dX10_greatestStep_28 (by decide) ?_
    rw [hQf]
    exact j_ireti hx hb hr hlocks hG ⟨(by unfold pf_X10_greatestStep; rw [if_pos c2]), rfl⟩ (by decide) dX10_greatestStep_30
  · rcases em_eqI (a0) 1 with c2 | c2_1
    · refine j_lsw hx hb dX10_greatestStep_1 g1 (k := 1) (tgt := 31) c2 rfl (by decide) (by decide) ?_
      have h := h.2.1 c2
      refine lv_bipush (v := J 8) hx hb dX10_greatestStep_31 (by decide) ?_
      rw [hQf]
      exact j_ireti hx hb hr hlocks hG ⟨(by unfold pf_X10_greatestStep; rw [if_neg (show ¬ (a0 = 0) from by omega), if_pos c2]), rfl⟩ (by decide) dX10_greatestStep_33
    · have c2 : a0 ≠ 0 ∧ a0 ≠ 1 := ⟨c2_0, c2_1⟩
      have h := h.2.2 c2
      refine j_lswd hx hb dX10_greatestStep_1 g1 (tgt := 34) (by simp only [Op.lookupswitch.offset_cons, Op.lookupswitch.offset]; repeat (rw [if_neg (by omega)])) (by decide) (by decide) ?_
      refine lv_bipush (v := J 24) hx hb dX10_greatestStep_34 (by decide) ?_
      rw [hQf]
      exact j_ireti hx hb hr hlocks hG ⟨(by unfold pf_X10_greatestStep; rw [if_neg (show ¬ (a0 = 0) from by omega), if_neg (show ¬ (a0 = 1) from by omega)]), rfl⟩ (by decide) dX10_greatestStep_36

abbrev rm_X5_putDay : Room := { frames := 0, cells := 0, slots := 0, locals := 0 }
set_option maxRecDepth 100000 in
set_option maxHeartbeats 4000000 in
theorem A_X5_putDay (l : Launch) {D : va_G} {cy : Nat → ClassId} {o : Nat} {sK sV : Nat → Nat} {M : jT} {a0 : Int} {a1 : Int} {a2 : Int} (ka0 : kd a0 = 5) (ka1 : kd a1 = 4) {Q : jT → Prop} (h : wp_X5_putDay M a0 a1 a2 Q) : CoV l yX5_putDay (wj yX5_putDay cX5_putDay 3 none) rm_X5_putDay D cy o sK sV M [.ref (rA o a0), .ref (rA o a1), .int (J a2)] Q := by
  refine j_ofW (cc := cX5_putDay) (maxL := 3) (ret := none) (by decide) rfl (Nat.le_of_ble_eq_true rfl) ?_
  intro p e s m args below meth c hx hb hr hlocks hml hown hts hK hSX H locs hG ls hl Qf hQf
  have hown : s.vm.findClass RX5 = some m.cls := hown
  have hl : lv_has ls 3 [(0, .ref (rA o a0)), (1, .ref (rA o a1)), (2, .int (J a2))] := hl
  have w_fl_RX5_45 := hts _ (List.mem_cons_of_mem _ fl_RX5_45)
  have w_fl_RX5_25 := hts _ (List.mem_cons_of_mem _ fl_RX5_25)
  have w_fl_RX5_44 := hts _ (List.mem_cons_of_mem _ fl_RX5_44)
  have w_fl_RX5_9 := hts _ (List.mem_cons_of_mem _ fl_RX5_9)
  unfold wp_X5_putDay at h
  refine lv_iload_n hx hb dX5_putDay_0 rfl (lv_at hl 2 rfl) ?_
  refine lv_aload_n hx hb dX5_putDay_1 rfl (lv_at hl 1 rfl) ?_
  refine j_geti hx hb hts hown hK hG (k := a1) (fun w h => List.mem_cons_of_mem _ (u_X4 w h)) (ci := 3) rfl ka1 1 (by decide) (jz := 1) rfl w_fl_RX5_45 dX5_putDay_2 ?_
  obtain ⟨K13, hK13, h⟩ := h
  have jK13 : ∀ (M12 : jT), K13 M12 → ∀ (H : Heap) (locs : List Loc), GM D cy o M12 s.heap H locs → ∀ ls : Array Slot, lv_has ls 3 [] → W p l e rm_X5_putDay s m args below meth c H locs 0 0 Qf (F0 m 58 ls []) := by
    intro M12 hcK13 H locs hG ls hl
    have h := hK13 M12 hcK13
    rw [hQf]
    exact j_vret hx hb hr hlocks hG h (by decide) dX5_putDay_58
  obtain ⟨g15, h⟩ := h
  obtain ⟨g16, h⟩ := h
  refine j_icmp_lt (tgt := 58) hx hb dX5_putDay_5 (by decide) g15 g16 (fun c14 => ?_) (fun c14 => ?_)
  · have h := h.1 c14
    exact jK13 M h H locs hG ls (lv_sub hl [] rfl)
  · have h := h.2 c14
    refine lv_iload_n hx hb dX5_putDay_8 rfl (lv_at hl 2 rfl) ?_
    refine lv_sipush (v := J 11687) hx hb dX5_putDay_9 (by decide) ?_
    refine j_icmp_gt (tgt := 58) hx hb dX5_putDay_12 (by decide) g15 (by decide) (fun c17 => ?_) (fun c17 => ?_)
    · have h := h.1 c17
      exact jK13 M h H locs hG ls (lv_sub hl [] rfl)
    · have h := h.2 c17
      refine lv_aload_n hx hb dX5_putDay_15 rfl (lv_at hl 0 rfl) ?_
      refine j_geti hx hb hts hown hK hG (k := a0) (fun w h => List.mem_cons_of_mem _ (u_X5 w h)) (ci := 4) rfl ka0 2 (by decide) (jz := 2) rfl w_fl_RX5_25 dX5_putDay_16 ?_
      refine lv_aload_n hx hb dX5_putDay_19 rfl (lv_at hl 1 rfl) ?_
      refine j_geti hx hb hts hown hK hG (k := a1) (fun w h => List.mem_cons_of_mem _ (u_X4 w h)) (ci := 3) rfl ka1 5 (by decide) (jz := 5) rfl w_fl_RX5_44 dX5_putDay_20 ?_
      obtain ⟨g19, h⟩ := h
      obtain ⟨g20, h⟩ := h
      refine j_icmp_ge (tgt := 58) hx hb dX5_putDay_23 (by decide) g19 g20 (fun c18 => ?_) (fun c18 => ?_)
      · have h := h.1 c18
        exact jK13 M h H locs hG ls (lv_sub hl [] rfl)
      · have h := h.2 c18
        refine lv_aload_n hx hb dX5_putDay_26 rfl (lv_at hl 0 rfl) ?_
        refine j_geti hx hb hts hown hK hG (k := a0) (fun w h => List.mem_cons_of_mem _ (u_X5 w h)) (ci := 4) rfl ka0 2 (by decide) (jz := 2) rfl w_fl_RX5_25 dX5_putDay_27 ?_
        refine lv_aload_n hx hb dX5_putDay_30 rfl (lv_at hl 0 rfl) ?_
        refine j_getr hx hb hts hown hK hG (k := a0) (fun w h => List.mem_cons_of_mem _ (u_X5 w h)) (ci := 4) rfl ka0 3 (k2 := a0 + 1) (by decide) (by show a0 + (1 : Int) = a0 + 1; omega) w_fl_RX5_9 dX5_putDay_31 ?_
        refine j_alenz_i hx hb hK hG (n := 40) (nz := 40) rfl (kf_5_3 ka0) (by decide) dX5_putDay_34 ?_
        refine j_icmp_ge (tgt := 58) hx hb dX5_putDay_35 (by decide) g19 (by decide) (fun c21 => ?_) (fun c21 => ?_)
        · have h := h.1 c21
          exact jK13 M h H locs hG ls (lv_sub hl [] rfl)
        · have h := h.2 c21
          refine lv_aload_n hx hb dX5_putDay_38 rfl (lv_at hl 0 rfl) ?_
          refine j_getr hx hb hts hown hK hG (k := a0) (fun w h => List.mem_cons_of_mem _ (u_X5 w h)) (ci := 4) rfl ka0 3 (k2 := a0 + 1) (by decide) (by show a0 + (1 : Int) = a0 + 1; omega) w_fl_RX5_9 dX5_putDay_39 ?_
          refine lv_aload_n hx hb dX5_putDay_42 rfl (lv_at hl 0 rfl) ?_
          refine j_geti hx hb hts hown hK hG (k := a0) (fun w h => List.mem_cons_of_mem _ (u_X5 w h)) (ci := 4) rfl ka0 2 (by decide) (jz := 2) rfl w_fl_RX5_25 dX5_putDay_43 ?_
          refine lv_iload_n hx hb dX5_putDay_46 rfl (lv_at hl 2 rfl) ?_
          obtain ⟨g22, h⟩ := h
          refine j_iast hx hb hK hG (n := 40) (kf_5_3 ka0) (by decide) g22 dX5_putDay_47 (fun M23 eM23 H locs hG => ?_)
          have h := h M23 eM23
          refine lv_aload_n hx hb dX5_putDay_48 rfl (lv_at hl 0 rfl) ?_
          refine lv_dup hx hb dX5_putDay_49 rfl ?_
          refine j_geti hx hb hts hown hK hG (k := a0) (fun w h => List.mem_cons_of_mem _ (u_X5 w h)) (ci := 4) rfl ka0 2 (by decide) (jz := 2) rfl w_fl_RX5_25 dX5_putDay_50 ?_
          refine lv_iconst (v := J 1) hx hb dX5_putDay_53 (by decide) ?_
          refine j_iadd hx hb dX5_putDay_54 ?_
          refine j_puti hx hb hts hown hK hG (k := a0) (fun w h => List.mem_cons_of_mem _ (u_X5 w h)) tyX5 tyX5_ok nmX5 (ci := 4) rfl ka0 2 (by decide) (jz := 2) rfl w_fl_RX5_25 (hd := rfl) (hn := rfl) (hfit := rfl) (hdg := dX5_putDay_55) (fun M24 eM24 H locs hG => ?_)
          have h := h M24 eM24
          exact jK13 M24 h H locs hG ls (lv_sub hl [] rfl)

abbrev rm_X5_layDays : Room := { frames := 1, cells := 0, slots := 0, locals := 22 }
set_option maxRecDepth 100000 in
set_option maxHeartbeats 4000000 in
theorem A_X5_layDays (l : Launch) {D : va_G} {cy : Nat → ClassId} {o : Nat} {sK sV : Nat → Nat} {M : jT} {a0 : Int} {a1 : Int} (ka0 : kd a0 = 5) (ka1 : kd a1 = 4) {Q : jT → Prop} (h : wp_X5_layDays M a0 a1 Q) : CoV l yX5_layDays (wj yX5_layDays cX5_layDays 3 none) rm_X5_layDays D cy o sK sV M [.ref (rA o a0), .ref (rA o a1)] Q := by
  refine j_ofW (cc := cX5_layDays) (maxL := 3) (ret := none) (by decide) rfl (Nat.le_of_ble_eq_true rfl) ?_
  intro p e s m args below meth c hx hb hr hlocks hml hown hts hK hSX H locs hG ls hl Qf hQf
  have hown : s.vm.findClass RX5 = some m.cls := hown
  have hl : lv_has ls 3 [(0, .ref (rA o a0)), (1, .ref (rA o a1))] := hl
  have w_fl_RX5_44 := hts _ (List.mem_cons_of_mem _ fl_RX5_44)
  have w_fl_RX5_45 := hts _ (List.mem_cons_of_mem _ fl_RX5_45)
  have w_fl_RX5_48 := hts _ (List.mem_cons_of_mem _ fl_RX5_48)
  unfold wp_X5_layDays at h
  refine lv_iconst (v := J 0) hx hb dX5_layDays_0 (by decide) ?_
  refine lv_istore_n (lv' := [(2, .int (J 0)), (0, .ref (rA o a0)), (1, .ref (rA o a1))]) hx hb dX5_layDays_1 rfl hl (by decide) rfl (fun ls hl => ?_)
  obtain ⟨I3, ⟨n4s, iI3⟩, qI3⟩ := h
  have lI3 : ∀ (n4 : Nat) (x1 : Int) (M2 : jT), I3 n4 x1 M2 → ∀ (H : Heap) (locs : List Loc), GM D cy o M2 s.heap H locs → ∀ ls : Array Slot, lv_has ls 3 [(0, .ref (rA o a0)), (1, .ref (rA o a1)), (2, .int (J x1))] → W p l e rm_X5_layDays s m args below meth c H locs 0 0 Qf (F0 m 2 ls []) := by
    intro n4
    induction n4 using Nat.strongRecOn with
    | ind n4 rI3 =>
      intro x1 M2 iI3 H locs hG ls hl
      have h := qI3 n4 x1 M2 iI3
      refine lv_iload_n hx hb dX5_layDays_2 rfl (lv_at hl 2 rfl) ?_
      refine lv_aload_n hx hb dX5_layDays_3 rfl (lv_at hl 1 rfl) ?_
      refine j_geti hx hb hts hown hK hG (k := a1) (fun w h => List.mem_cons_of_mem _ (u_X4 w h)) (ci := 3) rfl ka1 5 (by decide) (jz := 5) rfl w_fl_RX5_44 dX5_layDays_4 ?_
      obtain ⟨g6, h⟩ := h
      obtain ⟨g7, h⟩ := h
      refine j_icmp_ge (tgt := 32) hx hb dX5_layDays_7 (by decide) g6 g7 (fun c5 => ?_) (fun c5 => ?_)
      · have h := h.1 c5
        rw [hQf]
        exact j_vret hx hb hr hlocks hG h (by decide) dX5_layDays_32
      · have h := h.2 c5
        refine lv_aload_n hx hb dX5_layDays_10 rfl (lv_at hl 0 rfl) ?_
        refine lv_aload_n hx hb dX5_layDays_11 rfl (lv_at hl 1 rfl) ?_
        refine lv_aload_n hx hb dX5_layDays_12 rfl (lv_at hl 1 rfl) ?_
        refine j_geti hx hb hts hown hK hG (k := a1) (fun w h => List.mem_cons_of_mem _ (u_X4 w h)) (ci := 3) rfl ka1 1 (by decide) (jz := 1) rfl w_fl_RX5_45 dX5_layDays_13 ?_
        refine lv_iload_n hx hb dX5_layDays_16 rfl (lv_at hl 2 rfl) ?_
        refine lv_aload_n hx hb dX5_layDays_17 rfl (lv_at hl 1 rfl) ?_
        refine j_geti hx hb hts hown hK hG (k := a1) (fun w h => List.mem_cons_of_mem _ (u_X4 w h)) (ci := 3) rfl ka1 7 (by decide) (jz := 7) rfl w_fl_RX5_48 dX5_layDays_18 ?_
        refine j_imul hx hb dX5_layDays_21 ?_
        refine j_iadd hx hb dX5_layDays_22 ?_
        refine j_contv (va_runV (As := [.ref (rA o a1), .int (J ((M2 a1 1) + (x1 * (M2 a1 7))))]) (rest := []) ⟨hx, hb, hml, hown, hts⟩ (A_X5_putDay l ka0 ka1 h) (cwV 2 hts (gj_V ml_RX5_51 i_X5_putDay s_X5_putDay n_RX5 k_X5_putDay) rfl rfl rfl (by decide +kernel) ⟨by exact Nat.le_of_ble_eq_true rfl, by exact Nat.le_of_ble_eq_true rfl⟩) (j_preV hK hSX hG (ci := 4) rfl ka0 (by decide)) rfl rfl hl.1 rfl (lv_room (Nat.le_of_ble_eq_true rfl)) dX5_layDays_23 ⟨by exact Nat.le_of_ble_eq_true rfl, by exact Nat.le_of_ble_eq_true rfl⟩) hG (c2 := 0) (s2 := 0) ⟨by exact Nat.le_of_ble_eq_true rfl, by exact Nat.le_of_ble_eq_true rfl⟩ (fun M9 h H locs hG => ?_)
        refine j_iinc hx hb dX5_layDays_26 hl (k := 2) rfl (by decide) (fun x10 ex10 ls hl => ?_)
        have h := h x10 ex10
        have hl : lv_has ls 3 [(2, .int (J x10)), (0, .ref (rA o a0)), (1, .ref (rA o a1))] := hl
        refine lv_goto (tgt := 2) hx hb dX5_layDays_29 (by decide) ?_
        obtain ⟨n11, ln11, iI3⟩ := h
        exact rI3 n11 ln11 x10 M9 iI3 H locs hG ls (lv_sub hl [1, 2, 0] rfl)
  exact lI3 n4s 0 M iI3 H locs hG ls (lv_sub hl [1, 2, 0] rfl)

abbrev rm_X5_layWeeks : Room := { frames := 1, cells := 0, slots := 0, locals := 22 }
set_option maxRecDepth 100000 in
set_option maxHeartbeats 4000000 in
theorem A_X5_layWeeks (l : Launch) {D : va_G} {cy : Nat → ClassId} {o : Nat} {sK sV : Nat → Nat} {M : jT} {a0 : Int} {a1 : Int} (ka0 : kd a0 = 5) (ka1 : kd a1 = 4) {Q : jT → Prop} (h : wp_X5_layWeeks M a0 a1 Q) : CoV l yX5_layWeeks (wj yX5_layWeeks cX5_layWeeks 4 none) rm_X5_layWeeks D cy o sK sV M [.ref (rA o a0), .ref (rA o a1)] Q := by
  refine j_ofW (cc := cX5_layWeeks) (maxL := 4) (ret := none) (by decide) rfl (Nat.le_of_ble_eq_true rfl) ?_
  intro p e s m args below meth c hx hb hr hlocks hml hown hts hK hSX H locs hG ls hl Qf hQf
  have hown : s.vm.findClass RX5 = some m.cls := hown
  have hl : lv_has ls 4 [(0, .ref (rA o a0)), (1, .ref (rA o a1))] := hl
  have w_fl_RX5_45 := hts _ (List.mem_cons_of_mem _ fl_RX5_45)
  have w_fl_RX5_25 := hts _ (List.mem_cons_of_mem _ fl_RX5_25)
  have w_fl_RX5_44 := hts _ (List.mem_cons_of_mem _ fl_RX5_44)
  have w_fl_RX5_48 := hts _ (List.mem_cons_of_mem _ fl_RX5_48)
  have w_fl_RX5_61 := hts _ (List.mem_cons_of_mem _ fl_RX5_61)
  unfold wp_X5_layWeeks at h
  refine lv_aload_n hx hb dX5_layWeeks_0 rfl (lv_at hl 1 rfl) ?_
  refine j_geti hx hb hts hown hK hG (k := a1) (fun w h => List.mem_cons_of_mem _ (u_X4 w h)) (ci := 3) rfl ka1 1 (by decide) (jz := 1) rfl w_fl_RX5_45 dX5_layWeeks_1 ?_
  refine lv_aload_n hx hb dX5_layWeeks_4 rfl (lv_at hl 1 rfl) ?_
  refine j_geti hx hb hts hown hK hG (k := a1) (fun w h => List.mem_cons_of_mem _ (u_X4 w h)) (ci := 3) rfl ka1 1 (by decide) (jz := 1) rfl w_fl_RX5_45 dX5_layWeeks_5 ?_
  obtain ⟨g1, h⟩ := h
  refine j_conti (va_runS (As := [.int (J (M a1 1))]) (rest := [.int (J (M a1 1))]) ⟨hx, hb, hml, hown, hts⟩ (A_X1_weekday l g1) (va_cwS 1 hts (gj_S ml_RX5_55 i_X1_weekday n_RX1 k_X1_weekday) rfl rfl rfl (by decide +kernel) ⟨by exact Nat.le_of_ble_eq_true rfl, by exact Nat.le_of_ble_eq_true rfl⟩) (j_preS hK hSX hG) rfl rfl hl.1 rfl (lv_room (Nat.le_of_ble_eq_true rfl)) dX5_layWeeks_8 ⟨by exact Nat.le_of_ble_eq_true rfl, by exact Nat.le_of_ble_eq_true rfl⟩) hG (c2 := 0) (s2 := 0) ⟨by exact Nat.le_of_ble_eq_true rfl, by exact Nat.le_of_ble_eq_true rfl⟩ (fun z2 M3 ez2 H locs hG => ?_)
  obtain ⟨ez2, eM3⟩ := ez2
  subst ez2
  rw [eM3] at hG
  refine j_isub hx hb dX5_layWeeks_11 ?_
  refine j_topi (fun x4 ex4 => ?_)
  have h := h x4 ex4
  refine lv_istore_n (lv' := [(2, .int (J x4)), (0, .ref (rA o a0)), (1, .ref (rA o a1))]) hx hb dX5_layWeeks_12 rfl hl (by decide) rfl (fun ls hl => ?_)
  obtain ⟨I7, ⟨n8s, iI7⟩, qI7⟩ := h
  have lI7 : ∀ (n8 : Nat) (x5 : Int) (M6 : jT), I7 n8 x5 M6 → ∀ (H : Heap) (locs : List Loc), GM D cy o M6 s.heap H locs → ∀ ls : Array Slot, lv_has ls 4 [(0, .ref (rA o a0)), (1, .ref (rA o a1)), (2, .int (J x5))] → W p l e rm_X5_layWeeks s m args below meth c H locs 0 0 Qf (F0 m 13 ls []) := by
    intro n8
    induction n8 using Nat.strongRecOn with
    | ind n8 rI7 =>
      intro x5 M6 iI7 H locs hG ls hl
      have h := qI7 n8 x5 M6 iI7
      refine lv_iload_n hx hb dX5_layWeeks_13 rfl (lv_at hl 2 rfl) ?_
      refine lv_sipush (v := J 11687) hx hb dX5_layWeeks_14 (by decide) ?_
      obtain ⟨K37, hK37, h⟩ := h
      have jK37 : K37 → ∀ (H : Heap) (locs : List Loc), GM D cy o M6 s.heap H locs → ∀ ls : Array Slot, lv_has ls 4 [] → W p l e rm_X5_layWeeks s m args below meth c H locs 0 0 Qf (F0 m 81 ls []) := by
        intro hcK37 H locs hG ls hl
        have h := hK37 hcK37
        rw [hQf]
        exact j_vret hx hb hr hlocks hG h (by decide) dX5_layWeeks_81
      obtain ⟨g39, h⟩ := h
      refine j_icmp_gt (tgt := 81) hx hb dX5_layWeeks_17 (by decide) g39 (by decide) (fun c38 => ?_) (fun c38 => ?_)
      · have h := h.1 c38
        exact jK37 h H locs hG ls (lv_sub hl [] rfl)
      · have h := h.2 c38
        refine lv_aload_n hx hb dX5_layWeeks_20 rfl (lv_at hl 0 rfl) ?_
        refine j_geti hx hb hts hown hK hG (k := a0) (fun w h => List.mem_cons_of_mem _ (u_X5 w h)) (ci := 4) rfl ka0 2 (by decide) (jz := 2) rfl w_fl_RX5_25 dX5_layWeeks_21 ?_
        refine lv_aload_n hx hb dX5_layWeeks_24 rfl (lv_at hl 1 rfl) ?_
        refine j_geti hx hb hts hown hK hG (k := a1) (fun w h => List.mem_cons_of_mem _ (u_X4 w h)) (ci := 3) rfl ka1 5 (by decide) (jz := 5) rfl w_fl_RX5_44 dX5_layWeeks_25 ?_
        obtain ⟨g41, h⟩ := h
        obtain ⟨g42, h⟩ := h
        refine j_icmp_ge (tgt := 81) hx hb dX5_layWeeks_28 (by decide) g41 g42 (fun c40 => ?_) (fun c40 => ?_)
        · have h := h.1 c40
          exact jK37 h H locs hG ls (lv_sub hl [] rfl)
        · have h := h.2 c40
          refine lv_iconst (v := J 0) hx hb dX5_layWeeks_31 (by decide) ?_
          refine lv_istore_n (lv' := [(3, .int (J 0)), (0, .ref (rA o a0)), (1, .ref (rA o a1)), (2, .int (J x5))]) hx hb dX5_layWeeks_32 rfl hl (by decide) rfl (fun ls hl => ?_)
          obtain ⟨I45, ⟨n46s, iI45⟩, qI45⟩ := h
          have lI45 : ∀ (n46 : Nat) (x43 : Int) (M44 : jT), I45 n46 x43 M44 → ∀ (H : Heap) (locs : List Loc), GM D cy o M44 s.heap H locs → ∀ ls : Array Slot, lv_has ls 4 [(0, .ref (rA o a0)), (1, .ref (rA o a1)), (2, .int (J x5)), (3, .int (J x43))] → W p l e rm_X5_layWeeks s m args below meth c H locs 0 0 Qf (F0 m 33 ls []) := by
            intro n46
            induction n46 using Nat.strongRecOn with
            | ind n46 rI45 =>
              intro x43 M44 iI45 H locs hG ls hl
              have h := qI45 n46 x43 M44 iI45
              refine lv_iload_n hx hb dX5_layWeeks_33 rfl (lv_at hl 3 rfl) ?_
              refine lv_bipush (v := J 7) hx hb dX5_layWeeks_34 (by decide) ?_
              obtain ⟨g48, h⟩ := h
              refine j_icmp_ge (tgt := 64) hx hb dX5_layWeeks_36 (by decide) g48 (by decide) (fun c47 => ?_) (fun c47 => ?_)
              · have h := h.1 c47
                refine lv_iload_n hx hb dX5_layWeeks_64 rfl (lv_at hl 2 rfl) ?_
                refine lv_bipush (v := J 7) hx hb dX5_layWeeks_65 (by decide) ?_
                refine lv_aload_n hx hb dX5_layWeeks_67 rfl (lv_at hl 1 rfl) ?_
                refine j_geti hx hb hts hown hK hG (k := a1) (fun w h => List.mem_cons_of_mem _ (u_X4 w h)) (ci := 3) rfl ka1 7 (by decide) (jz := 7) rfl w_fl_RX5_48 dX5_layWeeks_68 ?_
                refine lv_iconst (v := J 1) hx hb dX5_layWeeks_71 (by decide) ?_
                obtain ⟨g49, h⟩ := h
                refine j_mmax hx hb (hml.trans hl.1.symm) hown (hts _ (List.mem_cons_of_mem _ ml_RX5_64)) (hts _ (List.mem_cons_of_mem _ i_mmax)) (hts _ (List.mem_cons_of_mem _ n_Math)) (hts _ (List.mem_cons_of_mem _ k_mmax)) (by exact Nat.le_of_ble_eq_true rfl) (by exact Nat.le_of_ble_eq_true rfl) (by exact Nat.le_of_ble_eq_true rfl) (by exact Nat.le_of_ble_eq_true rfl) g49 (by decide) dX5_layWeeks_72 ?_
                refine j_imul hx hb dX5_layWeeks_75 ?_
                refine j_iadd hx hb dX5_layWeeks_76 ?_
                refine j_topi (fun x50 ex50 => ?_)
                have h := h x50 ex50
                refine lv_istore_n (lv' := [(2, .int (J x50)), (0, .ref (rA o a0)), (1, .ref (rA o a1)), (3, .int (J x43))]) hx hb dX5_layWeeks_77 rfl hl (by decide) rfl (fun ls hl => ?_)
                refine lv_goto (tgt := 13) hx hb dX5_layWeeks_78 (by decide) ?_
                obtain ⟨n51, ln51, iI7⟩ := h
                exact rI7 n51 ln51 x50 M44 iI7 H locs hG ls (lv_sub hl [1, 2, 0] rfl)
              · have h := h.2 c47
                refine lv_aload_n hx hb dX5_layWeeks_39 rfl (lv_at hl 1 rfl) ?_
                refine j_geti hx hb hts hown hK hG (k := a1) (fun w h => List.mem_cons_of_mem _ (u_X4 w h)) (ci := 3) rfl ka1 8 (by decide) (jz := 8) rfl w_fl_RX5_61 dX5_layWeeks_40 ?_
                refine lv_iload_n hx hb dX5_layWeeks_43 rfl (lv_at hl 3 rfl) ?_
                obtain ⟨g52, h⟩ := h
                obtain ⟨g53, h⟩ := h
                refine j_ishr hx hb x43.toNat (by omega) dX5_layWeeks_44 g53 (by omega) ?_
                refine lv_iconst (v := J 1) hx hb dX5_layWeeks_45 (by decide) ?_
                refine j_iand hx hb 1 (by decide) dX5_layWeeks_46 (by decide) ?_
                obtain ⟨K59, hK59, h⟩ := h
                have jK59 : ∀ (M58 : jT), K59 M58 → ∀ (H : Heap) (locs : List Loc), GM D cy o M58 s.heap H locs → ∀ ls : Array Slot, lv_has ls 4 [(0, .ref (rA o a0)), (1, .ref (rA o a1)), (2, .int (J x5)), (3, .int (J x43))] → W p l e rm_X5_layWeeks s m args below meth c H locs 0 0 Qf (F0 m 58 ls []) := by
                  intro M58 hcK59 H locs hG ls hl
                  have h := hK59 M58 hcK59
                  refine j_iinc hx hb dX5_layWeeks_58 hl (k := 3) rfl (by decide) (fun x60 ex60 ls hl => ?_)
                  have h := h x60 ex60
                  have hl : lv_has ls 4 [(3, .int (J x60)), (0, .ref (rA o a0)), (1, .ref (rA o a1)), (2, .int (J x5))] := hl
                  refine lv_goto (tgt := 33) hx hb dX5_layWeeks_61 (by decide) ?_
                  obtain ⟨n61, ln61, iI45⟩ := h
                  exact rI45 n61 ln61 x60 M58 iI45 H locs hG ls (lv_sub hl [1, 2, 3, 0] rfl)
                obtain ⟨g63, h⟩ := h
                refine j_if_eq (tgt := 58) hx hb dX5_layWeeks_47 (by decide) g63 (fun c62 => ?_) (fun c62 => ?_)
                · have h := h.1 c62
                  exact jK59 M44 h H locs hG ls (lv_sub hl [0, 1, 2, 3] rfl)
                · have h := h.2 c62
                  refine lv_aload_n hx hb dX5_layWeeks_50 rfl (lv_at hl 0 rfl) ?_
                  refine lv_aload_n hx hb dX5_layWeeks_51 rfl (lv_at hl 1 rfl) ?_
                  refine lv_iload_n hx hb dX5_layWeeks_52 rfl (lv_at hl 2 rfl) ?_
                  refine lv_iload_n hx hb dX5_layWeeks_53 rfl (lv_at hl 3 rfl) ?_
                  refine j_iadd hx hb dX5_layWeeks_54 ?_
                  refine j_contv (va_runV (As := [.ref (rA o a1), .int (J (x5 + x43))]) (rest := []) ⟨hx, hb, hml, hown, hts⟩ (A_X5_putDay l ka0 ka1 h) (cwV 2 hts (gj_V ml_RX5_51 i_X5_putDay s_X5_putDay n_RX5 k_X5_putDay) rfl rfl rfl (by decide +kernel) ⟨by exact Nat.le_of_ble_eq_true rfl, by exact Nat.le_of_ble_eq_true rfl⟩) (j_preV hK hSX hG (ci := 4) rfl ka0 (by decide)) rfl rfl hl.1 rfl (lv_room (Nat.le_of_ble_eq_true rfl)) dX5_layWeeks_55 ⟨by exact Nat.le_of_ble_eq_true rfl, by exact Nat.le_of_ble_eq_true rfl⟩) hG (c2 := 0) (s2 := 0) ⟨by exact Nat.le_of_ble_eq_true rfl, by exact Nat.le_of_ble_eq_true rfl⟩ (fun M65 h H locs hG => ?_)
                  exact jK59 M65 h H locs hG ls (lv_sub hl [0, 1, 2, 3] rfl)
          exact lI45 n46s 0 M6 iI45 H locs hG ls (lv_sub hl [1, 2, 3, 0] rfl)
  exact lI7 n8s x4 M iI7 H locs hG ls (lv_sub hl [1, 2, 0] rfl)

abbrev rm_X5_layMonths : Room := { frames := 1, cells := 0, slots := 0, locals := 25 }
set_option maxRecDepth 100000 in
set_option maxHeartbeats 4000000 in
theorem A_X5_layMonths (l : Launch) {D : va_G} {cy : Nat → ClassId} {o : Nat} {sK sV : Nat → Nat} {M : jT} {a0 : Int} {a1 : Int} (ka0 : kd a0 = 5) (ka1 : kd a1 = 4) {Q : jT → Prop} (h : wp_X5_layMonths M a0 a1 Q) : CoV l yX5_layMonths (wj yX5_layMonths cX5_layMonths 11 none) rm_X5_layMonths D cy o sK sV M [.ref (rA o a0), .ref (rA o a1)] Q := by
  refine j_ofW (cc := cX5_layMonths) (maxL := 11) (ret := none) (by decide) rfl (Nat.le_of_ble_eq_true rfl) ?_
  intro p e s m args below meth c hx hb hr hlocks hml hown hts hK hSX H locs hG ls hl Qf hQf
  have hown : s.vm.findClass RX5 = some m.cls := hown
  have hl : lv_has ls 11 [(0, .ref (rA o a0)), (1, .ref (rA o a1))] := hl
  have w_fl_RX5_45 := hts _ (List.mem_cons_of_mem _ fl_RX5_45)
  have w_fl_RX5_48 := hts _ (List.mem_cons_of_mem _ fl_RX5_48)
  have w_fl_RX5_25 := hts _ (List.mem_cons_of_mem _ fl_RX5_25)
  have w_fl_RX5_44 := hts _ (List.mem_cons_of_mem _ fl_RX5_44)
  have w_fl_RX5_29 := hts _ (List.mem_cons_of_mem _ fl_RX5_29)
  unfold wp_X5_layMonths at h
  refine lv_aload_n hx hb dX5_layMonths_0 rfl (lv_at hl 1 rfl) ?_
  refine j_geti hx hb hts hown hK hG (k := a1) (fun w h => List.mem_cons_of_mem _ (u_X4 w h)) (ci := 3) rfl ka1 1 (by decide) (jz := 1) rfl w_fl_RX5_45 dX5_layMonths_1 ?_
  obtain ⟨g1, h⟩ := h
  refine j_conti (va_runS (As := [.int (J (M a1 1))]) (rest := []) ⟨hx, hb, hml, hown, hts⟩ (A_X1_yearOf l g1) (va_cwS 1 hts (gj_S ml_RX5_70 i_X1_yearOf n_RX1 k_X1_yearOf) rfl rfl rfl (by decide +kernel) ⟨by exact Nat.le_of_ble_eq_true rfl, by exact Nat.le_of_ble_eq_true rfl⟩) (j_preS hK hSX hG) rfl rfl hl.1 rfl (lv_room (Nat.le_of_ble_eq_true rfl)) dX5_layMonths_4 ⟨by exact Nat.le_of_ble_eq_true rfl, by exact Nat.le_of_ble_eq_true rfl⟩) hG (c2 := 0) (s2 := 0) ⟨by exact Nat.le_of_ble_eq_true rfl, by exact Nat.le_of_ble_eq_true rfl⟩ (fun z2 M3 ez2 H locs hG => ?_)
  obtain ⟨ez2, eM3⟩ := ez2
  subst ez2
  rw [eM3] at hG
  refine j_topi (fun x4 ex4 => ?_)
  have h := h x4 ex4
  refine lv_istore_n (lv' := [(2, .int (J x4)), (0, .ref (rA o a0)), (1, .ref (rA o a1))]) hx hb dX5_layMonths_7 rfl hl (by decide) rfl (fun ls hl => ?_)
  refine lv_bipush (v := J 12) hx hb dX5_layMonths_8 (by decide) ?_
  refine lv_iload_n hx hb dX5_layMonths_10 rfl (lv_at hl 0 rfl) ?_
  refine j_imul hx hb dX5_layMonths_11 ?_
  refine lv_iload_n hx hb dX5_layMonths_12 rfl (lv_at hl 0 rfl) ?_
  refine lv_aload_n hx hb dX5_layMonths_13 rfl (lv_at hl 2 rfl) ?_
  refine j_geti hx hb hts hown hK hG (k := a1) (fun w h => List.mem_cons_of_mem _ (u_X4 w h)) (ci := 3) rfl ka1 1 (by decide) (jz := 1) rfl w_fl_RX5_45 dX5_layMonths_14 ?_
  refine j_conti (va_runS (As := [.int (J x4), .int (J (M a1 1))]) (rest := [.int (J (12 * x4))]) ⟨hx, hb, hml, hown, hts⟩ (A_X1_monthOf l h) (va_cwS 2 hts (gj_S ml_RX5_73 i_X1_monthOf n_RX1 k_X1_monthOf) rfl rfl rfl (by decide +kernel) ⟨by exact Nat.le_of_ble_eq_true rfl, by exact Nat.le_of_ble_eq_true rfl⟩) (j_preS hK hSX hG) rfl rfl hl.1 rfl (lv_room (Nat.le_of_ble_eq_true rfl)) dX5_layMonths_17 ⟨by exact Nat.le_of_ble_eq_true rfl, by exact Nat.le_of_ble_eq_true rfl⟩) hG (c2 := 0) (s2 := 0) ⟨by exact Nat.le_of_ble_eq_true rfl, by exact Nat.le_of_ble_eq_true rfl⟩ (fun z5 M6 h H locs hG => ?_)
  obtain ⟨h, eM6⟩ := h
  rw [eM6] at hG
  refine j_iadd hx hb dX5_layMonths_20 ?_
  refine lv_iconst (v := J 1) hx hb dX5_layMonths_21 (by decide) ?_
  refine j_isub hx hb dX5_layMonths_22 ?_
  refine j_topi (fun x7 ex7 => ?_)
  have h := h x7 ex7
  refine lv_istore_n (lv' := [(3, .int (J x7)), (2, .int (J x4)), (0, .ref (rA o a0)), (1, .ref (rA o a1))]) hx hb dX5_layMonths_23 rfl hl (by decide) rfl (fun ls hl => ?_)
  refine lv_aload_n hx hb dX5_layMonths_24 rfl (lv_at hl 3 rfl) ?_
  refine j_geti hx hb hts hown hK hG (k := a1) (fun w h => List.mem_cons_of_mem _ (u_X4 w h)) (ci := 3) rfl ka1 1 (by decide) (jz := 1) rfl w_fl_RX5_45 dX5_layMonths_25 ?_
  refine lv_iload_n hx hb dX5_layMonths_28 rfl (lv_at hl 1 rfl) ?_
  refine lv_iload_n hx hb dX5_layMonths_29 rfl (lv_at hl 0 rfl) ?_
  refine lv_bipush (v := J 12) hx hb dX5_layMonths_30 (by decide) ?_
  obtain ⟨g8, h⟩ := h
  refine j_irem hx hb dX5_layMonths_32 g8 (by decide) ?_
  refine lv_iconst (v := J 1) hx hb dX5_layMonths_33 (by decide) ?_
  refine j_iadd hx hb dX5_layMonths_34 ?_
  obtain ⟨g9, h⟩ := h
  refine j_conti (va_runS (As := [.int (J x4), .int (J ((x7 % 12) + 1))]) (rest := [.int (J (M a1 1))]) ⟨hx, hb, hml, hown, hts⟩ (A_X1_monthStart l g9) (va_cwS 2 hts (gj_S ml_RX5_76 i_X1_monthStart n_RX1 k_X1_monthStart) rfl rfl rfl (by decide +kernel) ⟨by exact Nat.le_of_ble_eq_true rfl, by exact Nat.le_of_ble_eq_true rfl⟩) (j_preS hK hSX hG) rfl rfl hl.1 rfl (lv_room (Nat.le_of_ble_eq_true rfl)) dX5_layMonths_35 ⟨by exact Nat.le_of_ble_eq_true rfl, by exact Nat.le_of_ble_eq_true rfl⟩) hG (c2 := 0) (s2 := 0) ⟨by exact Nat.le_of_ble_eq_true rfl, by exact Nat.le_of_ble_eq_true rfl⟩ (fun z10 M11 ez10 H locs hG => ?_)
  obtain ⟨ez10, eM11⟩ := ez10
  subst ez10
  rw [eM11] at hG
  refine j_isub hx hb dX5_layMonths_38 ?_
  refine j_topi (fun x12 ex12 => ?_)
  have h := h x12 ex12
  refine lv_istore (lv' := [(4, .int (J x12)), (3, .int (J x7)), (2, .int (J x4)), (0, .ref (rA o a0)), (1, .ref (rA o a1))]) hx hb dX5_layMonths_39 hl (by decide) rfl (fun ls hl => ?_)
  refine lv_aload_n hx hb dX5_layMonths_41 rfl (lv_at hl 4 rfl) ?_
  refine j_geti hx hb hts hown hK hG (k := a1) (fun w h => List.mem_cons_of_mem _ (u_X4 w h)) (ci := 3) rfl ka1 1 (by decide) (jz := 1) rfl w_fl_RX5_45 dX5_layMonths_42 ?_
  obtain ⟨g13, h⟩ := h
  refine j_conti (va_runS (As := [.int (J (M a1 1))]) (rest := []) ⟨hx, hb, hml, hown, hts⟩ (A_X1_weekday l g13) (va_cwS 1 hts (gj_S ml_RX5_55 i_X1_weekday n_RX1 k_X1_weekday) rfl rfl rfl (by decide +kernel) ⟨by exact Nat.le_of_ble_eq_true rfl, by exact Nat.le_of_ble_eq_true rfl⟩) (j_preS hK hSX hG) rfl rfl hl.1 rfl (lv_room (Nat.le_of_ble_eq_true rfl)) dX5_layMonths_45 ⟨by exact Nat.le_of_ble_eq_true rfl, by exact Nat.le_of_ble_eq_true rfl⟩) hG (c2 := 0) (s2 := 0) ⟨by exact Nat.le_of_ble_eq_true rfl, by exact Nat.le_of_ble_eq_true rfl⟩ (fun z14 M15 ez14 H locs hG => ?_)
  obtain ⟨ez14, eM15⟩ := ez14
  subst ez14
  rw [eM15] at hG
  refine j_topi (fun x16 ex16 => ?_)
  have h := h x16 ex16
  refine lv_istore (lv' := [(5, .int (J x16)), (4, .int (J x12)), (3, .int (J x7)), (2, .int (J x4)), (0, .ref (rA o a0)), (1, .ref (rA o a1))]) hx hb dX5_layMonths_48 hl (by decide) rfl (fun ls hl => ?_)
  refine lv_aload_n hx hb dX5_layMonths_50 rfl (lv_at hl 5 rfl) ?_
  refine j_geti hx hb hts hown hK hG (k := a1) (fun w h => List.mem_cons_of_mem _ (u_X4 w h)) (ci := 3) rfl ka1 7 (by decide) (jz := 7) rfl w_fl_RX5_48 dX5_layMonths_51 ?_
  refine lv_iconst (v := J 1) hx hb dX5_layMonths_54 (by decide) ?_
  obtain ⟨g17, h⟩ := h
  refine j_mmax hx hb (hml.trans hl.1.symm) hown (hts _ (List.mem_cons_of_mem _ ml_RX5_64)) (hts _ (List.mem_cons_of_mem _ i_mmax)) (hts _ (List.mem_cons_of_mem _ n_Math)) (hts _ (List.mem_cons_of_mem _ k_mmax)) (by exact Nat.le_of_ble_eq_true rfl) (by exact Nat.le_of_ble_eq_true rfl) (by exact Nat.le_of_ble_eq_true rfl) (by exact Nat.le_of_ble_eq_true rfl) g17 (by decide) dX5_layMonths_55 ?_
  refine j_topi (fun x18 ex18 => ?_)
  have h := h x18 ex18
  refine lv_istore (lv' := [(6, .int (J x18)), (5, .int (J x16)), (4, .int (J x12)), (3, .int (J x7)), (2, .int (J x4)), (0, .ref (rA o a0)), (1, .ref (rA o a1))]) hx hb dX5_layMonths_58 hl (by decide) rfl (fun ls hl => ?_)
  refine lv_iload_n hx hb dX5_layMonths_60 rfl (lv_at hl 3 rfl) ?_
  refine lv_istore (lv' := [(7, .int (J x7)), (6, .int (J x18)), (5, .int (J x16)), (4, .int (J x12)), (3, .int (J x7)), (2, .int (J x4)), (0, .ref (rA o a0)), (1, .ref (rA o a1))]) hx hb dX5_layMonths_61 hl (by decide) rfl (fun ls hl => ?_)
  obtain ⟨I21, ⟨n22s, iI21⟩, qI21⟩ := h
  have lI21 : ∀ (n22 : Nat) (x19 : Int) (M20 : jT), I21 n22 x19 M20 → ∀ (H : Heap) (locs : List Loc), GM D cy o M20 s.heap H locs → ∀ ls : Array Slot, lv_has ls 11 [(0, .ref (rA o a0)), (1, .ref (rA o a1)), (4, .int (J x12)), (5, .int (J x16)), (6, .int (J x18)), (7, .int (J x19))] → W p l e rm_X5_layMonths s m args below meth c H locs 0 0 Qf (F0 m 63 ls []) := by
    intro n22
    induction n22 using Nat.strongRecOn with
    | ind n22 rI21 =>
      intro x19 M20 iI21 H locs hG ls hl
      have h := qI21 n22 x19 M20 iI21
      refine lv_iload hx hb dX5_layMonths_63 (lv_at hl 5 rfl) ?_
      refine lv_sipush (v := J 384) hx hb dX5_layMonths_65 (by decide) ?_
      obtain ⟨K65, hK65, h⟩ := h
      have jK65 : K65 → ∀ (H : Heap) (locs : List Loc), GM D cy o M20 s.heap H locs → ∀ ls : Array Slot, lv_has ls 11 [] → W p l e rm_X5_layMonths s m args below meth c H locs 0 0 Qf (F0 m 177 ls []) := by
        intro hcK65 H locs hG ls hl
        have h := hK65 hcK65
        rw [hQf]
        exact j_vret hx hb hr hlocks hG h (by decide) dX5_layMonths_177
      obtain ⟨g67, h⟩ := h
      refine j_icmp_ge (tgt := 177) hx hb dX5_layMonths_68 (by decide) g67 (by decide) (fun c66 => ?_) (fun c66 => ?_)
      · have h := h.1 c66
        exact jK65 h H locs hG ls (lv_sub hl [] rfl)
      · have h := h.2 c66
        refine lv_aload_n hx hb dX5_layMonths_71 rfl (lv_at hl 0 rfl) ?_
        refine j_geti hx hb hts hown hK hG (k := a0) (fun w h => List.mem_cons_of_mem _ (u_X5 w h)) (ci := 4) rfl ka0 2 (by decide) (jz := 2) rfl w_fl_RX5_25 dX5_layMonths_72 ?_
        refine lv_aload_n hx hb dX5_layMonths_75 rfl (lv_at hl 1 rfl) ?_
        refine j_geti hx hb hts hown hK hG (k := a1) (fun w h => List.mem_cons_of_mem _ (u_X4 w h)) (ci := 3) rfl ka1 5 (by decide) (jz := 5) rfl w_fl_RX5_44 dX5_layMonths_76 ?_
        obtain ⟨g69, h⟩ := h
        obtain ⟨g70, h⟩ := h
        refine j_icmp_ge (tgt := 177) hx hb dX5_layMonths_79 (by decide) g69 g70 (fun c68 => ?_) (fun c68 => ?_)
        · have h := h.1 c68
          exact jK65 h H locs hG ls (lv_sub hl [] rfl)
        · have h := h.2 c68
          refine lv_iload hx hb dX5_layMonths_82 (lv_at hl 5 rfl) ?_
          refine lv_bipush (v := J 12) hx hb dX5_layMonths_84 (by decide) ?_
          obtain ⟨g71, h⟩ := h
          refine j_idiv hx hb dX5_layMonths_86 g71 (by decide) ?_
          refine lv_iload hx hb dX5_layMonths_87 (lv_at hl 5 rfl) ?_
          refine lv_bipush (v := J 12) hx hb dX5_layMonths_89 (by decide) ?_
          refine j_irem hx hb dX5_layMonths_91 g71 (by decide) ?_
          refine lv_iconst (v := J 1) hx hb dX5_layMonths_92 (by decide) ?_
          refine j_iadd hx hb dX5_layMonths_93 ?_
          obtain ⟨g72, h⟩ := h
          refine j_conti (va_runS (As := [.int (J (x19 / 12)), .int (J ((x19 % 12) + 1))]) (rest := []) ⟨hx, hb, hml, hown, hts⟩ (A_X1_monthStart l g72) (va_cwS 2 hts (gj_S ml_RX5_76 i_X1_monthStart n_RX1 k_X1_monthStart) rfl rfl rfl (by decide +kernel) ⟨by exact Nat.le_of_ble_eq_true rfl, by exact Nat.le_of_ble_eq_true rfl⟩) (j_preS hK hSX hG) rfl rfl hl.1 rfl (lv_room (Nat.le_of_ble_eq_true rfl)) dX5_layMonths_94 ⟨by exact Nat.le_of_ble_eq_true rfl, by exact Nat.le_of_ble_eq_true rfl⟩) hG (c2 := 0) (s2 := 0) ⟨by exact Nat.le_of_ble_eq_true rfl, by exact Nat.le_of_ble_eq_true rfl⟩ (fun z73 M74 ez73 H locs hG => ?_)
          obtain ⟨ez73, eM74⟩ := ez73
          subst ez73
          rw [eM74] at hG
          refine j_topi (fun x75 ex75 => ?_)
          have h := h x75 ex75
          refine lv_istore (lv' := [(8, .int (J x75)), (0, .ref (rA o a0)), (1, .ref (rA o a1)), (4, .int (J x12)), (5, .int (J x16)), (6, .int (J x18)), (7, .int (J x19))]) hx hb dX5_layMonths_97 hl (by decide) rfl (fun ls hl => ?_)
          refine lv_iload hx hb dX5_layMonths_99 (lv_at hl 0 rfl) ?_
          refine lv_iload hx hb dX5_layMonths_101 (lv_at hl 6 rfl) ?_
          refine lv_bipush (v := J 12) hx hb dX5_layMonths_103 (by decide) ?_
          refine j_idiv hx hb dX5_layMonths_105 g71 (by decide) ?_
          refine lv_iload hx hb dX5_layMonths_106 (lv_at hl 6 rfl) ?_
          refine lv_bipush (v := J 12) hx hb dX5_layMonths_108 (by decide) ?_
          refine j_irem hx hb dX5_layMonths_110 g71 (by decide) ?_
          refine lv_iconst (v := J 1) hx hb dX5_layMonths_111 (by decide) ?_
          refine j_iadd hx hb dX5_layMonths_112 ?_
          obtain ⟨g76, h⟩ := h
          refine j_conti (va_runS (As := [.int (J (x19 / 12)), .int (J ((x19 % 12) + 1))]) (rest := [.int (J x75)]) ⟨hx, hb, hml, hown, hts⟩ (A_X1_monthLength l g76) (va_cwS 2 hts (gj_S ml_RX5_79 i_X1_monthLength n_RX1 k_X1_monthLength) rfl rfl rfl (by decide +kernel) ⟨by exact Nat.le_of_ble_eq_true rfl, by exact Nat.le_of_ble_eq_true rfl⟩) (j_preS hK hSX hG) rfl rfl hl.1 rfl (lv_room (Nat.le_of_ble_eq_true rfl)) dX5_layMonths_113 ⟨by exact Nat.le_of_ble_eq_true rfl, by exact Nat.le_of_ble_eq_true rfl⟩) hG (c2 := 0) (s2 := 0) ⟨by exact Nat.le_of_ble_eq_true rfl, by exact Nat.le_of_ble_eq_true rfl⟩ (fun z77 M78 ez77 H locs hG => ?_)
          obtain ⟨ez77, eM78⟩ := ez77
          subst ez77
          rw [eM78] at hG
          refine j_iadd hx hb dX5_layMonths_116 ?_
          refine j_topi (fun x79 ex79 => ?_)
          have h := h x79 ex79
          refine lv_istore (lv' := [(9, .int (J x79)), (8, .int (J x75)), (0, .ref (rA o a0)), (1, .ref (rA o a1)), (4, .int (J x12)), (5, .int (J x16)), (6, .int (J x18)), (7, .int (J x19))]) hx hb dX5_layMonths_117 hl (by decide) rfl (fun ls hl => ?_)
          refine lv_aload_n hx hb dX5_layMonths_119 rfl (lv_at hl 3 rfl) ?_
          refine j_geti hx hb hts hown hK hG (k := a1) (fun w h => List.mem_cons_of_mem _ (u_X4 w h)) (ci := 3) rfl ka1 6 (by decide) (jz := 6) rfl w_fl_RX5_29 dX5_layMonths_120 ?_
          refine lv_iconst (v := J 2) hx hb dX5_layMonths_123 (by decide) ?_
          obtain ⟨hg, h⟩ := h
          have jK87 : ∀ x86 : Int, (M20 a1 6 ≠ 2 → x86 = (pf_X1_weekdayFrom x75 x16) + ((x12 / 7) * 7)) → (M20 a1 6 = 2 → x86 = x75 + x12) → ∀ (H : Heap) (locs : List Loc), GM D cy o M20 s.heap H locs → ∀ ls : Array Slot, lv_has ls 11 [(0, .ref (rA o a0)), (1, .ref (rA o a1)), (4, .int (J x12)), (5, .int (J x16)), (6, .int (J x18)), (7, .int (J x19)), (9, .int (J x79))] → W p l e rm_X5_layMonths s m args below meth c H locs 0 0 Qf (F0 m 151 ls [.int (J x86)]) := by
            intro x86 qx86_0 qx86_1 H locs hG ls hl
            have h := h x86 qx86_0 qx86_1
            refine lv_istore (lv' := [(10, .int (J x86)), (0, .ref (rA o a0)), (1, .ref (rA o a1)), (4, .int (J x12)), (5, .int (J x16)), (6, .int (J x18)), (7, .int (J x19)), (9, .int (J x79))]) hx hb dX5_layMonths_151 hl (by decide) rfl (fun ls hl => ?_)
            refine lv_iload hx hb dX5_layMonths_153 (lv_at hl 0 rfl) ?_
            refine lv_iload hx hb dX5_layMonths_155 (lv_at hl 7 rfl) ?_
            obtain ⟨K100, hK100, h⟩ := h
            have jK100 : ∀ (M99 : jT), K100 M99 → ∀ (H : Heap) (locs : List Loc), GM D cy o M99 s.heap H locs → ∀ ls : Array Slot, lv_has ls 11 [(0, .ref (rA o a0)), (1, .ref (rA o a1)), (4, .int (J x12)), (5, .int (J x16)), (6, .int (J x18)), (7, .int (J x19))] → W p l e rm_X5_layMonths s m args below meth c H locs 0 0 Qf (F0 m 167 ls []) := by
              intro M99 hcK100 H locs hG ls hl
              have h := hK100 M99 hcK100
              refine lv_iload hx hb dX5_layMonths_167 (lv_at hl 5 rfl) ?_
              refine lv_iload hx hb dX5_layMonths_169 (lv_at hl 4 rfl) ?_
              refine j_iadd hx hb dX5_layMonths_171 ?_
              refine j_topi (fun x101 ex101 => ?_)
              have h := h x101 ex101
              refine lv_istore (lv' := [(7, .int (J x101)), (0, .ref (rA o a0)), (1, .ref (rA o a1)), (4, .int (J x12)), (5, .int (J x16)), (6, .int (J x18))]) hx hb dX5_layMonths_172 hl (by decide) rfl (fun ls hl => ?_)
              refine lv_goto (tgt := 63) hx hb dX5_layMonths_174 (by decide) ?_
              obtain ⟨n102, ln102, iI21⟩ := h
              exact rI21 n102 ln102 x101 M99 iI21 H locs hG ls (lv_sub hl [1, 2, 3, 4, 5, 0] rfl)
            obtain ⟨g104, h⟩ := h
            obtain ⟨g105, h⟩ := h
            refine j_icmp_ge (tgt := 167) hx hb dX5_layMonths_157 (by decide) g104 g105 (fun c103 => ?_) (fun c103 => ?_)
            · have h := h.1 c103
              exact jK100 M20 h H locs hG ls (lv_sub hl [1, 2, 3, 4, 5, 6] rfl)
            · have h := h.2 c103
              refine lv_aload_n hx hb dX5_layMonths_160 rfl (lv_at hl 1 rfl) ?_
              refine lv_aload_n hx hb dX5_layMonths_161 rfl (lv_at hl 2 rfl) ?_
              refine lv_iload hx hb dX5_layMonths_162 (lv_at hl 0 rfl) ?_
              refine j_contv (va_runV (As := [.ref (rA o a1), .int (J x86)]) (rest := []) ⟨hx, hb, hml, hown, hts⟩ (A_X5_putDay l ka0 ka1 h) (cwV 2 hts (gj_V ml_RX5_51 i_X5_putDay s_X5_putDay n_RX5 k_X5_putDay) rfl rfl rfl (by decide +kernel) ⟨by exact Nat.le_of_ble_eq_true rfl, by exact Nat.le_of_ble_eq_true rfl⟩) (j_preV hK hSX hG (ci := 4) rfl ka0 (by decide)) rfl rfl hl.1 rfl (lv_room (Nat.le_of_ble_eq_true rfl)) dX5_layMonths_164 ⟨by exact Nat.le_of_ble_eq_true rfl, by exact Nat.le_of_ble_eq_true rfl⟩) hG (c2 := 0) (s2 := 0) ⟨by exact Nat.le_of_ble_eq_true rfl, by exact Nat.le_of_ble_eq_true rfl⟩ (fun M107 h H locs hG => ?_)
              exact jK100 M107 h H locs hG ls (lv_sub hl [1, 2, 3, 4, 5, 6] rfl)
          have h := hg
          obtain ⟨g89, h⟩ := h
          refine j_icmp_ne (tgt := 135) hx hb dX5_layMonths_124 (by decide) g89 (by decide) (fun c88 => ?_) (fun c88 => ?_)
          · have h := h.1 c88
            refine lv_iload hx hb dX5_layMonths_135 (lv_at hl 1 rfl) ?_
            refine lv_iload hx hb dX5_layMonths_137 (lv_at hl 5 rfl) ?_
            obtain ⟨g90, h⟩ := h
            refine j_conti (va_runS (As := [.int (J x75), .int (J x16)]) (rest := []) ⟨hx, hb, hml, hown, hts⟩ (A_X1_weekdayFrom l g90) (va_cwS 2 hts (gj_S ml_RX5_82 i_X1_weekdayFrom n_RX1 k_X1_weekdayFrom) rfl rfl rfl (by decide +kernel) ⟨by exact Nat.le_of_ble_eq_true rfl, by exact Nat.le_of_ble_eq_true rfl⟩) (j_preS hK hSX hG) rfl rfl hl.1 rfl (lv_room (Nat.le_of_ble_eq_true rfl)) dX5_layMonths_139 ⟨by exact Nat.le_of_ble_eq_true rfl, by exact Nat.le_of_ble_eq_true rfl⟩) hG (c2 := 0) (s2 := 0) ⟨by exact Nat.le_of_ble_eq_true rfl, by exact Nat.le_of_ble_eq_true rfl⟩ (fun z91 M92 ez91 H locs hG => ?_)
            obtain ⟨ez91, eM92⟩ := ez91
            subst ez91
            rw [eM92] at hG
            refine lv_iload hx hb dX5_layMonths_142 (lv_at hl 4 rfl) ?_
            refine lv_bipush (v := J 7) hx hb dX5_layMonths_144 (by decide) ?_
            obtain ⟨g93, h⟩ := h
            refine j_idiv hx hb dX5_layMonths_146 g93 (by decide) ?_
            refine lv_bipush (v := J 7) hx hb dX5_layMonths_147 (by decide) ?_
            refine j_imul hx hb dX5_layMonths_149 ?_
            refine j_iadd hx hb dX5_layMonths_150 ?_
            exact jK87 ((pf_X1_weekdayFrom x75 x16) + ((x12 / 7) * 7)) (fun _ => rfl) (fun q => absurd q (by omega)) H locs hG ls (lv_sub hl [2, 3, 4, 5, 6, 7, 0] rfl)
          · have h := h.2 c88
            refine lv_iload hx hb dX5_layMonths_127 (lv_at hl 1 rfl) ?_
            refine lv_iload hx hb dX5_layMonths_129 (lv_at hl 4 rfl) ?_
            refine j_iadd hx hb dX5_layMonths_131 ?_
            refine lv_goto (tgt := 151) hx hb dX5_layMonths_132 (by decide) ?_
            exact jK87 (x75 + x12) (fun q => absurd q (by omega)) (fun _ => rfl) H locs hG ls (lv_sub hl [2, 3, 4, 5, 6, 7, 0] rfl)
  exact lI21 n22s x7 M iI21 H locs hG ls (lv_sub hl [6, 7, 3, 2, 1, 0] rfl)

abbrev rm_X5_layOut : Room := { frames := 2, cells := 0, slots := 0, locals := 55 }
set_option maxRecDepth 100000 in
set_option maxHeartbeats 4000000 in
theorem A_X5_layOut (l : Launch) {D : va_G} {cy : Nat → ClassId} {o : Nat} {sK sV : Nat → Nat} {M : jT} {a0 : Int} {a1 : Int} (ka0 : kd a0 = 5) (ka1 : kd a1 = 4) {Q : jT → Prop} (h : wp_X5_layOut M a0 a1 Q) : CoV l yX5_layOut (wj yX5_layOut cX5_layOut 2 none) rm_X5_layOut D cy o sK sV M [.ref (rA o a0), .ref (rA o a1)] Q := by
  refine j_ofW (cc := cX5_layOut) (maxL := 2) (ret := none) (by decide) rfl (Nat.le_of_ble_eq_true rfl) ?_
  intro p e s m args below meth c hx hb hr hlocks hml hown hts hK hSX H locs hG ls hl Qf hQf
  have hown : s.vm.findClass RX5 = some m.cls := hown
  have hl : lv_has ls 2 [(0, .ref (rA o a0)), (1, .ref (rA o a1))] := hl
  have w_fl_RX5_25 := hts _ (List.mem_cons_of_mem _ fl_RX5_25)
  have w_fl_RX5_29 := hts _ (List.mem_cons_of_mem _ fl_RX5_29)
  have w_fl_RX5_18 := hts _ (List.mem_cons_of_mem _ fl_RX5_18)
  unfold wp_X5_layOut at h
  refine lv_aload_n hx hb dX5_layOut_0 rfl (lv_at hl 0 rfl) ?_
  refine lv_iconst (v := J 0) hx hb dX5_layOut_1 (by decide) ?_
  refine j_puti hx hb hts hown hK hG (k := a0) (fun w h => List.mem_cons_of_mem _ (u_X5 w h)) tyX5 tyX5_ok nmX5 (ci := 4) rfl ka0 2 (by decide) (jz := 2) rfl w_fl_RX5_25 (hd := rfl) (hn := rfl) (hfit := rfl) (hdg := dX5_layOut_2) (fun M1 eM1 H locs hG => ?_)
  have h := h M1 eM1
  refine lv_aload_n hx hb dX5_layOut_5 rfl (lv_at hl 1 rfl) ?_
  refine j_geti hx hb hts hown hK hG (k := a1) (fun w h => List.mem_cons_of_mem _ (u_X4 w h)) (ci := 3) rfl ka1 6 (by decide) (jz := 6) rfl w_fl_RX5_29 dX5_layOut_6 ?_
  obtain ⟨K11, hK11, h⟩ := h
  have jK11 : ∀ (M10 : jT), K11 M10 → ∀ (H : Heap) (locs : List Loc), GM D cy o M10 s.heap H locs → ∀ ls : Array Slot, lv_has ls 2 [(0, .ref (rA o a0))] → W p l e rm_X5_layOut s m args below meth c H locs 0 0 Qf (F0 m 57 ls []) := by
    intro M10 hcK11 H locs hG ls hl
    have h := hK11 M10 hcK11
    refine lv_aload_n hx hb dX5_layOut_57 rfl (lv_at hl 0 rfl) ?_
    refine lv_iconst (v := J 1) hx hb dX5_layOut_58 (by decide) ?_
    refine j_puti hx hb hts hown hK hG (k := a0) (fun w h => List.mem_cons_of_mem _ (u_X5 w h)) tyX5 tyX5_ok nmX5 (ci := 4) rfl ka0 0 (by decide) (jz := 0) rfl w_fl_RX5_18 (hd := rfl) (hn := nar_b (by decide)) (hfit := fit_b (by decide)) (hdg := dX5_layOut_59) (fun M12 eM12 H locs hG => ?_)
    have h := h M12 eM12
    rw [hQf]
    exact j_vret hx hb hr hlocks hG h (by decide) dX5_layOut_62
  obtain ⟨g13, h⟩ := h
  rcases em_eqI (M1 a1 6) 0 with c14 | c14_0
  · refine j_lsw hx hb dX5_layOut_9 g13 (k := 0) (tgt := 36) c14 rfl (by decide) (by decide) ?_
    have h := h.1 c14
    refine lv_aload_n hx hb dX5_layOut_36 rfl (lv_at hl 0 rfl) ?_
    refine lv_aload_n hx hb dX5_layOut_37 rfl (lv_at hl 1 rfl) ?_
    refine j_contv (va_runV (As := [.ref (rA o a1)]) (rest := []) ⟨hx, hb, hml, hown, hts⟩ (A_X5_layDays l ka0 ka1 h) (cwV 1 hts (gj_V ml_RX5_34 i_X5_layDays s_X5_layDays n_RX5 k_X5_layDays) rfl rfl rfl (by decide +kernel) ⟨by exact Nat.le_of_ble_eq_true rfl, by exact Nat.le_of_ble_eq_true rfl⟩) (j_preV hK hSX hG (ci := 4) rfl ka0 (by decide)) rfl rfl hl.1 rfl (lv_room (Nat.le_of_ble_eq_true rfl)) dX5_layOut_38 ⟨by exact Nat.le_of_ble_eq_true rfl, by exact Nat.le_of_ble_eq_true rfl⟩) hG (c2 := 0) (s2 := 0) ⟨by exact Nat.le_of_ble_eq_true rfl, by exact Nat.le_of_ble_eq_true rfl⟩ (fun M16 h H locs hG => ?_)
    refine lv_goto (tgt := 57) hx hb dX5_layOut_41 (by decide) ?_
    exact jK11 M16 h H locs hG ls (lv_sub hl [0] rfl)
  · rcases em_eqI (M1 a1 6) 1 with c14 | c14_1
    · refine j_lsw hx hb dX5_layOut_9 g13 (k := 1) (tgt := 44) c14 rfl (by decide) (by decide) ?_
      have h := h.2.1 c14
      refine lv_aload_n hx hb dX5_layOut_44 rfl (lv_at hl 0 rfl) ?_
      refine lv_aload_n hx hb dX5_layOut_45 rfl (lv_at hl 1 rfl) ?_
      refine j_contv (va_runV (As := [.ref (rA o a1)]) (rest := []) ⟨hx, hb, hml, hown, hts⟩ (A_X5_layWeeks l ka0 ka1 h) (cwV 1 hts (gj_V ml_RX5_38 i_X5_layWeeks s_X5_layWeeks n_RX5 k_X5_layWeeks) rfl rfl rfl (by decide +kernel) ⟨by exact Nat.le_of_ble_eq_true rfl, by exact Nat.le_of_ble_eq_true rfl⟩) (j_preV hK hSX hG (ci := 4) rfl ka0 (by decide)) rfl rfl hl.1 rfl (lv_room (Nat.le_of_ble_eq_true rfl)) dX5_layOut_46 ⟨by exact Nat.le_of_ble_eq_true rfl, by exact Nat.le_of_ble_eq_true rfl⟩) hG (c2 := 0) (s2 := 0) ⟨by exact Nat.le_of_ble_eq_true rfl, by exact Nat.le_of_ble_eq_true rfl⟩ (fun M18 h H locs hG => ?_)
      refine lv_goto (tgt := 57) hx hb dX5_layOut_49 (by decide) ?_
      exact jK11 M18 h H locs hG ls (lv_sub hl [0] rfl)
    · have c14 : M1 a1 6 ≠ 0 ∧ M1 a1 6 ≠ 1 := ⟨c14_0, c14_1⟩
      have h := h.2.2 c14
      refine j_lswd hx hb dX5_layOut_9 g13 (tgt := 52) (by simp only [Op.lookupswitch.offset_cons, Op.lookupswitch.offset]; repeat (rw [if_neg (by omega)])) (by decide) (by decide) ?_
      refine lv_aload_n hx hb dX5_layOut_52 rfl (lv_at hl 0 rfl) ?_
      refine lv_aload_n hx hb dX5_layOut_53 rfl (lv_at hl 1 rfl) ?_
      refine j_contv (va_runV (As := [.ref (rA o a1)]) (rest := []) ⟨hx, hb, hml, hown, hts⟩ (A_X5_layMonths l ka0 ka1 h) (cwV 1 hts (gj_V ml_RX5_41 i_X5_layMonths s_X5_layMonths n_RX5 k_X5_layMonths) rfl rfl rfl (by decide +kernel) ⟨by exact Nat.le_of_ble_eq_true rfl, by exact Nat.le_of_ble_eq_true rfl⟩) (j_preV hK hSX hG (ci := 4) rfl ka0 (by decide)) rfl rfl hl.1 rfl (lv_room (Nat.le_of_ble_eq_true rfl)) dX5_layOut_54 ⟨by exact Nat.le_of_ble_eq_true rfl, by exact Nat.le_of_ble_eq_true rfl⟩) hG (c2 := 0) (s2 := 0) ⟨by exact Nat.le_of_ble_eq_true rfl, by exact Nat.le_of_ble_eq_true rfl⟩ (fun M20 h H locs hG => ?_)
      exact jK11 M20 h H locs hG ls (lv_sub hl [0] rfl)

abbrev rm_X10_laidOut : Room := { frames := 3, cells := 0, slots := 0, locals := 76 }
set_option maxRecDepth 100000 in
set_option maxHeartbeats 4000000 in
theorem A_X10_laidOut (l : Launch) {D : va_G} {cy : Nat → ClassId} {o : Nat} {sK sV : Nat → Nat} {M : jT} {a0 : Int} {a1 : Int} (ka0 : kd a0 = 10) {Q : Int → jT → Prop} (h : wp_X10_laidOut M a0 a1 Q) : CoR l yX10_laidOut (wj yX10_laidOut cX10_laidOut 3 (some (.object "ZoneCompiler$Plan"))) rm_X10_laidOut D cy o sK sV M [.ref (rA o a0), .int (J a1)] 5 Q := by
  refine j_ofW (cc := cX10_laidOut) (maxL := 3) (ret := (some (.object "ZoneCompiler$Plan"))) (by decide) rfl (Nat.le_of_ble_eq_true rfl) ?_
  intro p e s m args below meth c hx hb hr hlocks hml hown hts hK hSX H locs hG ls hl Qf hQf
  have hown : s.vm.findClass RX10 = some m.cls := hown
  have hl : lv_has ls 3 [(0, .ref (rA o a0)), (1, .int (J a1))] := hl
  have w_fl_RX10_32 := hts _ (List.mem_cons_of_mem _ fl_RX10_32)
  have w_fl_RX10_527 := hts _ (List.mem_cons_of_mem _ fl_RX10_527)
  have w_fl_RX10_12 := hts _ (List.mem_cons_of_mem _ fl_RX10_12)
  have w_fl_RX10_269 := hts _ (List.mem_cons_of_mem _ fl_RX10_269)
  unfold wp_X10_laidOut at h
  refine lv_aload_n hx hb dX10_laidOut_0 rfl (lv_at hl 0 rfl) ?_
  refine j_getr hx hb hts hown hK hG (k := a0) (fun w h => List.mem_cons_of_mem _ (u_X10 w h)) (ci := 9) rfl ka0 3 (k2 := a0 + 569) (by decide) (by show a0 + (569 : Int) = a0 + 569; omega) w_fl_RX10_32 dX10_laidOut_1 ?_
  refine lv_iload_n hx hb dX10_laidOut_4 rfl (lv_at hl 1 rfl) ?_
  obtain ⟨g1, h⟩ := h
  refine j_aald hx hb hK hG (t := 24) (t0 := 7) (k2 := a0 + 3 * a1 + 570) (kf_10_3 ka0) (by decide) rfl g1 (by simp only [ra_24]; omega) dX10_laidOut_5 ?_
  have k2 : kd (a0 + 3 * a1 + 570) = 5 := by have q9 := (ka_24 (kf_10_3 ka0) g1); rwa [show (a0 + 569) + 1 + 3 * a1 = a0 + 3 * a1 + 570 from by omega] at q9
  refine lv_astore_n (lv' := [(2, .ref (rA o (a0 + 3 * a1 + 570))), (0, .ref (rA o a0)), (1, .int (J a1))]) hx hb dX10_laidOut_6 rfl hl (by decide) rfl (fun ls hl => ?_)
  refine lv_aload_n hx hb dX10_laidOut_7 rfl (lv_at hl 0 rfl) ?_
  refine j_geti hx hb hts hown hK hG (k := a0 + 3 * a1 + 570) (fun w h => List.mem_cons_of_mem _ (u_X5 w h)) (ci := 4) rfl k2 0 (by decide) (jz := 0) rfl w_fl_RX10_527 dX10_laidOut_8 ?_
  obtain ⟨K9, hK9, h⟩ := h
  have jK9 : ∀ (M8 : jT), K9 M8 → ∀ (H : Heap) (locs : List Loc), GM D cy o M8 s.heap H locs → ∀ ls : Array Slot, lv_has ls 3 [(2, .ref (rA o (a0 + 3 * a1 + 570)))] → W p l e rm_X10_laidOut s m args below meth c H locs 0 0 Qf (F0 m 27 ls []) := by
    intro M8 hcK9 H locs hG ls hl
    have h := hK9 M8 hcK9
    refine lv_aload_n hx hb dX10_laidOut_27 rfl (lv_at hl 0 rfl) ?_
    rw [hQf]
    exact j_aretr hx hb hr (Or.inl ⟨_, rfl⟩) hlocks hG k2 h (by decide) dX10_laidOut_28
  obtain ⟨g11, h⟩ := h
  refine j_if_ne (tgt := 27) hx hb dX10_laidOut_11 (by decide) g11 (fun c10 => ?_) (fun c10 => ?_)
  · have h := h.1 c10
    exact jK9 M h H locs hG ls (lv_sub hl [0] rfl)
  · have h := h.2 c10
    refine lv_aload_n hx hb dX10_laidOut_14 rfl (lv_at hl 0 rfl) ?_
    refine lv_aload_n hx hb dX10_laidOut_15 rfl (lv_at hl 1 rfl) ?_
    refine j_getr hx hb hts hown hK hG (k := a0) (fun w h => List.mem_cons_of_mem _ (u_X10 w h)) (ci := 9) rfl ka0 0 (k2 := a0 + 1) (by decide) (by show a0 + (1 : Int) = a0 + 1; omega) w_fl_RX10_12 dX10_laidOut_16 ?_
    refine j_getr hx hb hts hown hK hG (k := a0 + 1) (fun w h => List.mem_cons_of_mem _ (u_X0 w h)) (ci := 0) rfl (kf_10_0 ka0) 3 (k2 := a0 + 3) (by decide) (by show (a0 + 1) + (2 : Int) = a0 + 3; omega) w_fl_RX10_269 dX10_laidOut_19 ?_
    refine lv_iload_n hx hb dX10_laidOut_22 rfl (lv_at hl 2 rfl) ?_
    refine j_aald hx hb hK hG (t := 21) (t0 := 4) (k2 := a0 + 2 * a1 + 28) (show kd (a0 + 3) = 21 from (show (a0 + 1) + 2 = a0 + 3 from by omega) ▸ (kf_1_3 (kf_10_0 ka0))) (by decide) rfl g1 (by simp only [ra_21]; omega) dX10_laidOut_23 ?_
    have k12 : kd (a0 + 2 * a1 + 28) = 4 := by have q9 := (ka_21 (show kd (a0 + 3) = 21 from (show (a0 + 1) + 2 = a0 + 3 from by omega) ▸ (kf_1_3 (kf_10_0 ka0))) g1); rwa [show (a0 + 3) + 25 + 2 * a1 = a0 + 2 * a1 + 28 from by omega] at q9
    refine j_contv (va_runV (As := [.ref (rA o (a0 + 2 * a1 + 28))]) (rest := []) ⟨hx, hb, hml, hown, hts⟩ (A_X5_layOut l k2 k12 h) (cwV 1 hts (gj_V ml_RX10_530 i_X5_layOut s_X5_layOut n_RX5 k_X5_layOut) rfl rfl rfl (by decide +kernel) ⟨by exact Nat.le_of_ble_eq_true rfl, by exact Nat.le_of_ble_eq_true rfl⟩) (j_preV hK hSX hG (ci := 4) rfl k2 (by decide)) rfl rfl hl.1 rfl (lv_room (Nat.le_of_ble_eq_true rfl)) dX10_laidOut_24 ⟨by exact Nat.le_of_ble_eq_true rfl, by exact Nat.le_of_ble_eq_true rfl⟩) hG (c2 := 0) (s2 := 0) ⟨by exact Nat.le_of_ble_eq_true rfl, by exact Nat.le_of_ble_eq_true rfl⟩ (fun M14 h H locs hG => ?_)
    exact jK9 M14 h H locs hG ls (lv_sub hl [0] rfl)

abbrev rom_X10_recur : Room := { frames := 5, cells := 0, slots := 0, locals := 144 }
set_option maxRecDepth 100000 in
set_option maxHeartbeats 4000000 in
theorem Ao_X10_recur (l : Launch) {D : va_G} {cy : Nat → ClassId} {o : Nat} {sK sV : Nat → Nat} {M : jT} {a0 : Int} {a1 : Int} {a2 : Int} {a3 : Int} {a4 : Int} (ka0 : kd a0 = 10) {Q : Int → jT → Prop} (h : wo_X10_recur M a0 a1 a2 a3 a4 Q) : CoI l yX10_recur (wj yX10_recur cX10_recur 5 (some .int)) rom_X10_recur D cy o sK sV M [.ref (rA o a0), .int (J a1), .int (J a2), .int (J a3), .int (J a4)] Q := by
  refine j_ofW (cc := cX10_recur) (maxL := 5) (ret := (some .int)) (by decide) rfl (Nat.le_of_ble_eq_true rfl) ?_
  intro p e s m args below meth c hx hb hr hlocks hml hown hts hK hSX H locs hG ls hl Qf hQf
  have hown : s.vm.findClass RX10 = some m.cls := hown
  have hl : lv_has ls 5 [(0, .ref (rA o a0)), (1, .int (J a1)), (2, .int (J a2)), (3, .int (J a3)), (4, .int (J a4))] := hl
  have w_fl_RX10_12 := hts _ (List.mem_cons_of_mem _ fl_RX10_12)
  have w_fl_RX10_269 := hts _ (List.mem_cons_of_mem _ fl_RX10_269)
  have w_fl_RX10_32 := hts _ (List.mem_cons_of_mem _ fl_RX10_32)
  have w_fl_RX10_295 := hts _ (List.mem_cons_of_mem _ fl_RX10_295)
  unfold wo_X10_recur at h
  refine lv_aload_n hx hb dX10_recur_0 rfl (lv_at hl 0 rfl) ?_
  refine lv_iload_n hx hb dX10_recur_1 rfl (lv_at hl 1 rfl) ?_
  refine j_contv (va_runV (As := [.int (J a1)]) (rest := []) ⟨hx, hb, hml, hown, hts⟩ (Ao_X10_needMeeting l ka0 h) (cwV 1 hts (gj_V ml_RX10_281 i_X10_needMeeting s_X10_needMeeting n_RX10 k_X10_needMeeting) rfl rfl rfl (by decide +kernel) ⟨by exact Nat.le_of_ble_eq_true rfl, by exact Nat.le_of_ble_eq_true rfl⟩) (j_preV hK hSX hG (ci := 9) rfl ka0 (by decide)) rfl rfl hl.1 rfl (lv_room (Nat.le_of_ble_eq_true rfl)) dX10_recur_2 ⟨by exact Nat.le_of_ble_eq_true rfl, by exact Nat.le_of_ble_eq_true rfl⟩) hG (c2 := 0) (s2 := 0) ⟨by exact Nat.le_of_ble_eq_true rfl, by exact Nat.le_of_ble_eq_true rfl⟩ (fun M2 h H locs hG => ?_)
  obtain ⟨h, eM2⟩ := h
  rw [eM2] at hG
  refine lv_iload_n hx hb dX10_recur_5 rfl (lv_at hl 2 rfl) ?_
  obtain ⟨K25, hK25, h⟩ := h
  have jK25 : ∀ (x24 : Int), K25 x24 → ∀ (H : Heap) (locs : List Loc), GM D cy o M s.heap H locs → ∀ ls : Array Slot, lv_has ls 5 [(0, .ref (rA o a0)), (1, .int (J a1)), (2, .int (J a2)), (3, .int (J a3)), (4, .int (J a4))] → W p l e rom_X10_recur s m args below meth c H locs 0 0 Qf (F0 m 32 ls [.int (J x24)]) := by
    intro x24 hcK25 H locs hG ls hl
    have h := hK25 x24 hcK25
    refine j_contv (va_runS (As := [.int (J x24)]) (rest := []) ⟨hx, hb, hml, hown, hts⟩ (Ao_X10_needArgument l h) (va_cwS 1 hts (gj_S ml_RX10_72 i_X10_needArgument n_RX10 k_X10_needArgument) rfl rfl rfl (by decide +kernel) ⟨by exact Nat.le_of_ble_eq_true rfl, by exact Nat.le_of_ble_eq_true rfl⟩) (j_preS hK hSX hG) rfl rfl hl.1 rfl (lv_room (Nat.le_of_ble_eq_true rfl)) dX10_recur_32 ⟨by exact Nat.le_of_ble_eq_true rfl, by exact Nat.le_of_ble_eq_true rfl⟩) hG (c2 := 0) (s2 := 0) ⟨by exact Nat.le_of_ble_eq_true rfl, by exact Nat.le_of_ble_eq_true rfl⟩ (fun M27 h H locs hG => ?_)
    obtain ⟨h, eM27⟩ := h
    rw [eM27] at hG
    refine lv_iload_n hx hb dX10_recur_35 rfl (lv_at hl 2 rfl) ?_
    refine lv_iconst (v := J 1) hx hb dX10_recur_36 (by decide) ?_
    obtain ⟨hg, h⟩ := h
    have jK36 : ∀ x35 : Int, x35 = b2i ((a2 ≠ 1 ∧ a4 = 0) ∨ (a2 = 1 ∧ 1 ≤ a4 ∧ a4 ≤ 127)) → ∀ (H : Heap) (locs : List Loc), GM D cy o M s.heap H locs → ∀ ls : Array Slot, lv_has ls 5 [(0, .ref (rA o a0)), (1, .int (J a1)), (2, .int (J a2)), (3, .int (J a3)), (4, .int (J a4))] → W p l e rom_X10_recur s m args below meth c H locs 0 0 Qf (F0 m 71 ls [.int (J x35)]) := by
      intro x35 ex35 H locs hG ls hl
      subst ex35
      refine j_contv (va_runS (As := [.int (J (b2i ((a2 ≠ 1 ∧ a4 = 0) ∨ (a2 = 1 ∧ 1 ≤ a4 ∧ a4 ≤ 127))))]) (rest := []) ⟨hx, hb, hml, hown, hts⟩ (Ao_X10_needArgument l h) (va_cwS 1 hts (gj_S ml_RX10_72 i_X10_needArgument n_RX10 k_X10_needArgument) rfl rfl rfl (by decide +kernel) ⟨by exact Nat.le_of_ble_eq_true rfl, by exact Nat.le_of_ble_eq_true rfl⟩) (j_preS hK hSX hG) rfl rfl hl.1 rfl (lv_room (Nat.le_of_ble_eq_true rfl)) dX10_recur_71 ⟨by exact Nat.le_of_ble_eq_true rfl, by exact Nat.le_of_ble_eq_true rfl⟩) hG (c2 := 0) (s2 := 0) ⟨by exact Nat.le_of_ble_eq_true rfl, by exact Nat.le_of_ble_eq_true rfl⟩ (fun M45 h H locs hG => ?_)
      obtain ⟨h, eM45⟩ := h
      rw [eM45] at hG
      refine lv_aload_n hx hb dX10_recur_74 rfl (lv_at hl 0 rfl) ?_
      refine j_contv (va_runV (As := []) (rest := []) ⟨hx, hb, hml, hown, hts⟩ (A_X10_remember l ka0 h) (cwV 0 hts (gj_V ml_RX10_111 i_X10_remember s_X10_remember n_RX10 k_X10_remember) rfl rfl rfl (by decide +kernel) ⟨by exact Nat.le_of_ble_eq_true rfl, by exact Nat.le_of_ble_eq_true rfl⟩) (j_preV hK hSX hG (ci := 9) rfl ka0 (by decide)) rfl rfl hl.1 rfl (lv_room (Nat.le_of_ble_eq_true rfl)) dX10_recur_75 ⟨by exact Nat.le_of_ble_eq_true rfl, by exact Nat.le_of_ble_eq_true rfl⟩) hG (c2 := 0) (s2 := 0) ⟨by exact Nat.le_of_ble_eq_true rfl, by exact Nat.le_of_ble_eq_true rfl⟩ (fun M47 h H locs hG => ?_)
      refine lv_aload_n hx hb dX10_recur_78 rfl (lv_at hl 0 rfl) ?_
      refine j_getr hx hb hts hown hK hG (k := a0) (fun w h => List.mem_cons_of_mem _ (u_X10 w h)) (ci := 9) rfl ka0 0 (k2 := a0 + 1) (by decide) (by show a0 + (1 : Int) = a0 + 1; omega) w_fl_RX10_12 dX10_recur_79 ?_
      refine j_getr hx hb hts hown hK hG (k := a0 + 1) (fun w h => List.mem_cons_of_mem _ (u_X0 w h)) (ci := 0) rfl (kf_10_0 ka0) 3 (k2 := a0 + 3) (by decide) (by show (a0 + 1) + (2 : Int) = a0 + 3; omega) w_fl_RX10_269 dX10_recur_82 ?_
      refine lv_iload_n hx hb dX10_recur_85 rfl (lv_at hl 1 rfl) ?_
      obtain ⟨g48, h⟩ := h
      refine j_aald hx hb hK hG (t := 21) (t0 := 4) (k2 := a0 + 2 * a1 + 28) (show kd (a0 + 3) = 21 from (show (a0 + 1) + 2 = a0 + 3 from by omega) ▸ (kf_1_3 (kf_10_0 ka0))) (by decide) rfl g48 (by simp only [ra_21]; omega) dX10_recur_86 ?_
      have k49 : kd (a0 + 2 * a1 + 28) = 4 := by have q9 := (ka_21 (show kd (a0 + 3) = 21 from (show (a0 + 1) + 2 = a0 + 3 from by omega) ▸ (kf_1_3 (kf_10_0 ka0))) g48); rwa [show (a0 + 3) + 25 + 2 * a1 = a0 + 2 * a1 + 28 from by omega] at q9
      refine lv_iload_n hx hb dX10_recur_87 rfl (lv_at hl 2 rfl) ?_
      refine lv_iload_n hx hb dX10_recur_88 rfl (lv_at hl 3 rfl) ?_
      refine lv_iload hx hb dX10_recur_89 (lv_at hl 4 rfl) ?_
      refine j_contv (va_runV (As := [.int (J a2), .int (J a3), .int (J a4)]) (rest := []) ⟨hx, hb, hml, hown, hts⟩ (A_X4_repeat l k49 h) (cwV 3 hts (gj_V ml_RX10_287 i_X4_repeat s_X4_repeat n_RX4 k_X4_repeat) rfl rfl rfl (by decide +kernel) ⟨by exact Nat.le_of_ble_eq_true rfl, by exact Nat.le_of_ble_eq_true rfl⟩) (j_preV hK hSX hG (ci := 3) rfl k49 (by decide)) rfl rfl hl.1 rfl (lv_room (Nat.le_of_ble_eq_true rfl)) dX10_recur_91 ⟨by exact Nat.le_of_ble_eq_true rfl, by exact Nat.le_of_ble_eq_true rfl⟩) hG (c2 := 0) (s2 := 0) ⟨by exact Nat.le_of_ble_eq_true rfl, by exact Nat.le_of_ble_eq_true rfl⟩ (fun M51 h H locs hG => ?_)
      refine lv_aload_n hx hb dX10_recur_94 rfl (lv_at hl 0 rfl) ?_
      refine j_getr hx hb hts hown hK hG (k := a0) (fun w h => List.mem_cons_of_mem _ (u_X10 w h)) (ci := 9) rfl ka0 3 (k2 := a0 + 569) (by decide) (by show a0 + (569 : Int) = a0 + 569; omega) w_fl_RX10_32 dX10_recur_95 ?_
      refine lv_iload_n hx hb dX10_recur_98 rfl (lv_at hl 1 rfl) ?_
      refine j_aald hx hb hK hG (t := 24) (t0 := 7) (k2 := a0 + 3 * a1 + 570) (kf_10_3 ka0) (by decide) rfl g48 (by simp only [ra_24]; omega) dX10_recur_99 ?_
      have k52 : kd (a0 + 3 * a1 + 570) = 5 := by have q9 := (ka_24 (kf_10_3 ka0) g48); rwa [show (a0 + 569) + 1 + 3 * a1 = a0 + 3 * a1 + 570 from by omega] at q9
      refine j_contv (va_runV (As := []) (rest := []) ⟨hx, hb, hml, hown, hts⟩ (A_X5_spoil l k52 h) (cwV 0 hts (gj_V ml_RX10_278 i_X5_spoil s_X5_spoil n_RX5 k_X5_spoil) rfl rfl rfl (by decide +kernel) ⟨by exact Nat.le_of_ble_eq_true rfl, by exact Nat.le_of_ble_eq_true rfl⟩) (j_preV hK hSX hG (ci := 4) rfl k52 (by decide)) rfl rfl hl.1 rfl (lv_room (Nat.le_of_ble_eq_true rfl)) dX10_recur_100 ⟨by exact Nat.le_of_ble_eq_true rfl, by exact Nat.le_of_ble_eq_true rfl⟩) hG (c2 := 0) (s2 := 0) ⟨by exact Nat.le_of_ble_eq_true rfl, by exact Nat.le_of_ble_eq_true rfl⟩ (fun M54 h H locs hG => ?_)
      refine lv_aload_n hx hb dX10_recur_103 rfl (lv_at hl 0 rfl) ?_
      refine lv_iload_n hx hb dX10_recur_104 rfl (lv_at hl 1 rfl) ?_
      refine j_contr (va_runV (As := [.int (J a1)]) (rest := []) ⟨hx, hb, hml, hown, hts⟩ (A_X10_laidOut l ka0 h) (cwV 1 hts (gj_V ml_RX10_291 i_X10_laidOut s_X10_laidOut n_RX10 k_X10_laidOut) rfl rfl rfl (by decide +kernel) ⟨by exact Nat.le_of_ble_eq_true rfl, by exact Nat.le_of_ble_eq_true rfl⟩) (j_preV hK hSX hG (ci := 9) rfl ka0 (by decide)) rfl rfl hl.1 rfl (lv_room (Nat.le_of_ble_eq_true rfl)) dX10_recur_105 ⟨by exact Nat.le_of_ble_eq_true rfl, by exact Nat.le_of_ble_eq_true rfl⟩) hG (c2 := 0) (s2 := 0) ⟨by exact Nat.le_of_ble_eq_true rfl, by exact Nat.le_of_ble_eq_true rfl⟩ (fun k55 M56 h hk55 H locs hG => ?_)
      refine j_geti hx hb hts hown hK hG (k := k55) (fun w h => List.mem_cons_of_mem _ (u_X5 w h)) (ci := 4) rfl hk55 2 (by decide) (jz := 2) rfl w_fl_RX10_295 dX10_recur_108 ?_
      rw [hQf]
      exact j_ireti hx hb hr hlocks hG h (by decide) dX10_recur_111
    have h := hg
    obtain ⟨g38, h⟩ := h
    refine j_icmp_ne (tgt := 61) hx hb dX10_recur_37 (by decide) g38 (by decide) (fun c37 => ?_) (fun c37 => ?_)
    · have h := h.1 c37
      refine lv_iload hx hb dX10_recur_61 (lv_at hl 4 rfl) ?_
      obtain ⟨g40, h⟩ := h
      refine j_if_ne (tgt := 70) hx hb dX10_recur_63 (by decide) g40 (fun c39 => ?_) (fun c39 => ?_)
      · have h := h.1 c39
        refine lv_iconst (v := J 0) hx hb dX10_recur_70 (by decide) ?_
        exact jK36 0 (b2i_iff0 ((pj_t c37 (show ¬ (a2 = 1) from by omega)).trans (iff_of_false (show ¬ (a4 = 0) from by omega) id))) H locs hG ls (lv_sub hl [0, 1, 2, 3, 4] rfl)
      · have h := h.2 c39
        refine lv_iconst (v := J 1) hx hb dX10_recur_66 (by decide) ?_
        refine lv_goto (tgt := 71) hx hb dX10_recur_67 (by decide) ?_
        exact jK36 1 (b2i_iff1 ((pj_t c37 (show ¬ (a2 = 1) from by omega)).trans (iff_of_true c39 trivial))) H locs hG ls (lv_sub hl [0, 1, 2, 3, 4] rfl)
    · have h := h.2 c37
      refine lv_iload hx hb dX10_recur_40 (lv_at hl 4 rfl) ?_
      refine lv_iconst (v := J 1) hx hb dX10_recur_42 (by decide) ?_
      obtain ⟨g42, h⟩ := h
      refine j_icmp_lt (tgt := 57) hx hb dX10_recur_43 (by decide) g42 (by decide) (fun c41 => ?_) (fun c41 => ?_)
      · have h := h.1 c41
        refine lv_iconst (v := J 0) hx hb dX10_recur_57 (by decide) ?_
        refine lv_goto (tgt := 71) hx hb dX10_recur_58 (by decide) ?_
        exact jK36 0 (b2i_iff0 ((pj_f (show ¬ (a2 ≠ 1) from by omega) c37).trans (iff_of_false (fun q8 => (show ¬ (1 ≤ a4) from by omega) q8.1) id))) H locs hG ls (lv_sub hl [0, 1, 2, 3, 4] rfl)
      · have h := h.2 c41
        refine lv_iload hx hb dX10_recur_46 (lv_at hl 4 rfl) ?_
        refine lv_bipush (v := J 127) hx hb dX10_recur_48 (by decide) ?_
        refine j_icmp_gt (tgt := 57) hx hb dX10_recur_50 (by decide) g42 (by decide) (fun c43 => ?_) (fun c43 => ?_)
        · have h := h.1 c43
          refine lv_iconst (v := J 0) hx hb dX10_recur_57 (by decide) ?_
          refine lv_goto (tgt := 71) hx hb dX10_recur_58 (by decide) ?_
          exact jK36 0 (b2i_iff0 ((pj_f (show ¬ (a2 ≠ 1) from by omega) c37).trans ((and_iff_right c41).trans (iff_of_false (show ¬ (a4 ≤ 127) from by omega) id)))) H locs hG ls (lv_sub hl [0, 1, 2, 3, 4] rfl)
        · have h := h.2 c43
          refine lv_iconst (v := J 1) hx hb dX10_recur_53 (by decide) ?_
          refine lv_goto (tgt := 71) hx hb dX10_recur_54 (by decide) ?_
          exact jK36 1 (b2i_iff1 ((pj_f (show ¬ (a2 ≠ 1) from by omega) c37).trans ((and_iff_right c41).trans (iff_of_true c43 trivial)))) H locs hG ls (lv_sub hl [0, 1, 2, 3, 4] rfl)
  obtain ⟨K67, hK67, h⟩ := h
  have jK67 : K67 → ∀ (H : Heap) (locs : List Loc), GM D cy o M s.heap H locs → ∀ ls : Array Slot, lv_has ls 5 [(0, .ref (rA o a0)), (1, .int (J a1)), (2, .int (J a2)), (3, .int (J a3)), (4, .int (J a4))] → W p l e rom_X10_recur s m args below meth c H locs 0 0 Qf (F0 m 31 ls []) := by
    intro hcK67 H locs hG ls hl
    have h := hK67 hcK67
    refine lv_iconst (v := J 0) hx hb dX10_recur_31 (by decide) ?_
    exact jK25 0 h H locs hG ls (lv_sub hl [0, 1, 2, 3, 4] rfl)
  obtain ⟨g69, h⟩ := h
  refine j_if_lt (tgt := 31) hx hb dX10_recur_6 (by decide) g69 (fun c68 => ?_) (fun c68 => ?_)
  · have h := h.1 c68
    exact jK67 h H locs hG ls (lv_sub hl [0, 1, 2, 3, 4] rfl)
  · have h := h.2 c68
    refine lv_iload_n hx hb dX10_recur_9 rfl (lv_at hl 2 rfl) ?_
    refine lv_iconst (v := J 3) hx hb dX10_recur_10 (by decide) ?_
    refine j_icmp_gt (tgt := 31) hx hb dX10_recur_11 (by decide) g69 (by decide) (fun c70 => ?_) (fun c70 => ?_)
    · have h := h.1 c70
      exact jK67 h H locs hG ls (lv_sub hl [0, 1, 2, 3, 4] rfl)
    · have h := h.2 c70
      refine lv_iload_n hx hb dX10_recur_14 rfl (lv_at hl 3 rfl) ?_
      refine lv_iconst (v := J 1) hx hb dX10_recur_15 (by decide) ?_
      obtain ⟨g72, h⟩ := h
      refine j_icmp_lt (tgt := 31) hx hb dX10_recur_16 (by decide) g72 (by decide) (fun c71 => ?_) (fun c71 => ?_)
      · have h := h.1 c71
        exact jK67 h H locs hG ls (lv_sub hl [0, 1, 2, 3, 4] rfl)
      · have h := h.2 c71
        refine lv_iload_n hx hb dX10_recur_19 rfl (lv_at hl 3 rfl) ?_
        refine lv_iload_n hx hb dX10_recur_20 rfl (lv_at hl 2 rfl) ?_
        obtain ⟨g73, h⟩ := h
        refine j_conti (va_runS (As := [.int (J a2)]) (rest := [.int (J a3)]) ⟨hx, hb, hml, hown, hts⟩ (A_X10_greatestStep l g73) (va_cwS 1 hts (gj_S ml_RX10_284 i_X10_greatestStep n_RX10 k_X10_greatestStep) rfl rfl rfl (by decide +kernel) ⟨by exact Nat.le_of_ble_eq_true rfl, by exact Nat.le_of_ble_eq_true rfl⟩) (j_preS hK hSX hG) rfl rfl hl.1 rfl (lv_room (Nat.le_of_ble_eq_true rfl)) dX10_recur_21 ⟨by exact Nat.le_of_ble_eq_true rfl, by exact Nat.le_of_ble_eq_true rfl⟩) hG (c2 := 0) (s2 := 0) ⟨by exact Nat.le_of_ble_eq_true rfl, by exact Nat.le_of_ble_eq_true rfl⟩ (fun z74 M75 ez74 H locs hG => ?_)
        obtain ⟨ez74, eM75⟩ := ez74
        subst ez74
        rw [eM75] at hG
        obtain ⟨g77, h⟩ := h
        refine j_icmp_gt (tgt := 31) hx hb dX10_recur_24 (by decide) g72 g77 (fun c76 => ?_) (fun c76 => ?_)
        · have h := h.1 c76
          exact jK67 h H locs hG ls (lv_sub hl [0, 1, 2, 3, 4] rfl)
        · have h := h.2 c76
          refine lv_iconst (v := J 1) hx hb dX10_recur_27 (by decide) ?_
          refine lv_goto (tgt := 32) hx hb dX10_recur_28 (by decide) ?_
          exact jK25 1 h H locs hG ls (lv_sub hl [0, 1, 2, 3, 4] rfl)
abbrev rm_X10_recur : Room := { frames := 8, cells := 1, slots := 6, locals := 144 }
set_option maxRecDepth 100000 in
set_option maxHeartbeats 4000000 in
theorem A_X10_recur (l : Launch) (hst : l.stackTraces = false) {D : va_G} {cy : Nat → ClassId} {o : Nat} {sK sV : Nat → Nat} {M : jT} {a0 : Int} {a1 : Int} {a2 : Int} {a3 : Int} {a4 : Int} (ka0 : kd a0 = 10) {Q : Int → jT → Prop} {X : Nat → jT → Prop} (h : wp_X10_recur M a0 a1 a2 a3 a4 Q X) : CxI l yX10_recur (wj yX10_recur cX10_recur 5 (some .int)) rm_X10_recur D cy o sK sV M [.ref (rA o a0), .int (J a1), .int (J a2), .int (J a3), .int (J a4)] Q X := by
  refine j_ofWx (cc := cX10_recur) (maxL := 5) (ret := (some .int)) (by decide) rfl (Nat.le_of_ble_eq_true rfl) ?_
  intro p e s m args below meth c hx hb hr hlocks hout hml hown hts hK hSX H locs hsz hG ls hl Qf hQf
  have hown : s.vm.findClass RX10 = some m.cls := hown
  have hl : lv_has ls 5 [(0, .ref (rA o a0)), (1, .int (J a1)), (2, .int (J a2)), (3, .int (J a3)), (4, .int (J a4))] := hl
  have w_fl_RX10_12 := hts _ (List.mem_cons_of_mem _ fl_RX10_12)
  have w_fl_RX10_269 := hts _ (List.mem_cons_of_mem _ fl_RX10_269)
  have w_fl_RX10_32 := hts _ (List.mem_cons_of_mem _ fl_RX10_32)
  have w_fl_RX10_295 := hts _ (List.mem_cons_of_mem _ fl_RX10_295)
  unfold wp_X10_recur at h
  refine lv_aload_n hx hb dX10_recur_0 rfl (lv_at hl 0 rfl) ?_
  refine lv_iload_n hx hb dX10_recur_1 rfl (lv_at hl 1 rfl) ?_
  rcases h with h | h
  · refine j_contv (va_runV (As := [.int (J a1)]) (rest := []) ⟨hx, hb, hml, hown, hts⟩ (Ao_X10_needMeeting l ka0 h) (cwV 1 hts (gj_V ml_RX10_281 i_X10_needMeeting s_X10_needMeeting n_RX10 k_X10_needMeeting) rfl rfl rfl (by decide +kernel) ⟨by exact Nat.le_of_ble_eq_true rfl, by exact Nat.le_of_ble_eq_true rfl⟩) (j_preV hK hSX hG (ci := 9) rfl ka0 (by decide)) rfl rfl hl.1 rfl (lv_room (Nat.le_of_ble_eq_true rfl)) dX10_recur_2 ⟨by exact Nat.le_of_ble_eq_true rfl, by exact Nat.le_of_ble_eq_true rfl⟩) hG (c2 := 0) (s2 := 0) ⟨by exact Nat.le_of_ble_eq_true rfl, by exact Nat.le_of_ble_eq_true rfl⟩ (fun M2 h H locs hG => ?_)
    obtain ⟨h, eM2⟩ := h
    rw [eM2] at hG
    refine lv_iload_n hx hb dX10_recur_5 rfl (lv_at hl 2 rfl) ?_
    obtain ⟨K25, hK25, h⟩ := h
    have jK25 : ∀ (x24 : Int), K25 x24 → ∀ (H : Heap) (locs : List Loc), GM D cy o M s.heap H locs → ∀ ls : Array Slot, lv_has ls 5 [(0, .ref (rA o a0)), (1, .int (J a1)), (2, .int (J a2)), (3, .int (J a3)), (4, .int (J a4))] → W p l e rm_X10_recur s m args below meth c H locs 0 0 Qf (F0 m 32 ls [.int (J x24)]) := by
      intro x24 hcK25 H locs hG ls hl
      have h := hK25 x24 hcK25
      rcases h with h | h
      · refine j_contv (va_runS (As := [.int (J x24)]) (rest := []) ⟨hx, hb, hml, hown, hts⟩ (Ao_X10_needArgument l h) (va_cwS 1 hts (gj_S ml_RX10_72 i_X10_needArgument n_RX10 k_X10_needArgument) rfl rfl rfl (by decide +kernel) ⟨by exact Nat.le_of_ble_eq_true rfl, by exact Nat.le_of_ble_eq_true rfl⟩) (j_preS hK hSX hG) rfl rfl hl.1 rfl (lv_room (Nat.le_of_ble_eq_true rfl)) dX10_recur_32 ⟨by exact Nat.le_of_ble_eq_true rfl, by exact Nat.le_of_ble_eq_true rfl⟩) hG (c2 := 0) (s2 := 0) ⟨by exact Nat.le_of_ble_eq_true rfl, by exact Nat.le_of_ble_eq_true rfl⟩ (fun M27 h H locs hG => ?_)
        obtain ⟨h, eM27⟩ := h
        rw [eM27] at hG
        refine lv_iload_n hx hb dX10_recur_35 rfl (lv_at hl 2 rfl) ?_
        refine lv_iconst (v := J 1) hx hb dX10_recur_36 (by decide) ?_
        obtain ⟨hg, h⟩ := h
        have jK36 : ∀ x35 : Int, x35 = b2i ((a2 ≠ 1 ∧ a4 = 0) ∨ (a2 = 1 ∧ 1 ≤ a4 ∧ a4 ≤ 127)) → ∀ (H : Heap) (locs : List Loc), GM D cy o M s.heap H locs → ∀ ls : Array Slot, lv_has ls 5 [(0, .ref (rA o a0)), (1, .int (J a1)), (2, .int (J a2)), (3, .int (J a3)), (4, .int (J a4))] → W p l e rm_X10_recur s m args below meth c H locs 0 0 Qf (F0 m 71 ls [.int (J x35)]) := by
          intro x35 ex35 H locs hG ls hl
          subst ex35
          rcases h with h | h
          · refine j_contv (va_runS (As := [.int (J (b2i ((a2 ≠ 1 ∧ a4 = 0) ∨ (a2 = 1 ∧ 1 ≤ a4 ∧ a4 ≤ 127))))]) (rest := []) ⟨hx, hb, hml, hown, hts⟩ (Ao_X10_needArgument l h) (va_cwS 1 hts (gj_S ml_RX10_72 i_X10_needArgument n_RX10 k_X10_needArgument) rfl rfl rfl (by decide +kernel) ⟨by exact Nat.le_of_ble_eq_true rfl, by exact Nat.le_of_ble_eq_true rfl⟩) (j_preS hK hSX hG) rfl rfl hl.1 rfl (lv_room (Nat.le_of_ble_eq_true rfl)) dX10_recur_71 ⟨by exact Nat.le_of_ble_eq_true rfl, by exact Nat.le_of_ble_eq_true rfl⟩) hG (c2 := 0) (s2 := 0) ⟨by exact Nat.le_of_ble_eq_true rfl, by exact Nat.le_of_ble_eq_true rfl⟩ (fun M45 h H locs hG => ?_)
            obtain ⟨h, eM45⟩ := h
            rw [eM45] at hG
            refine lv_aload_n hx hb dX10_recur_74 rfl (lv_at hl 0 rfl) ?_
            refine j_contv (va_runV (As := []) (rest := []) ⟨hx, hb, hml, hown, hts⟩ (A_X10_remember l ka0 h) (cwV 0 hts (gj_V ml_RX10_111 i_X10_remember s_X10_remember n_RX10 k_X10_remember) rfl rfl rfl (by decide +kernel) ⟨by exact Nat.le_of_ble_eq_true rfl, by exact Nat.le_of_ble_eq_true rfl⟩) (j_preV hK hSX hG (ci := 9) rfl ka0 (by decide)) rfl rfl hl.1 rfl (lv_room (Nat.le_of_ble_eq_true rfl)) dX10_recur_75 ⟨by exact Nat.le_of_ble_eq_true rfl, by exact Nat.le_of_ble_eq_true rfl⟩) hG (c2 := 0) (s2 := 0) ⟨by exact Nat.le_of_ble_eq_true rfl, by exact Nat.le_of_ble_eq_true rfl⟩ (fun M47 h H locs hG => ?_)
            refine lv_aload_n hx hb dX10_recur_78 rfl (lv_at hl 0 rfl) ?_
            refine j_getr hx hb hts hown hK hG (k := a0) (fun w h => List.mem_cons_of_mem _ (u_X10 w h)) (ci := 9) rfl ka0 0 (k2 := a0 + 1) (by decide) (by show a0 + (1 : Int) = a0 + 1; omega) w_fl_RX10_12 dX10_recur_79 ?_
            refine j_getr hx hb hts hown hK hG (k := a0 + 1) (fun w h => List.mem_cons_of_mem _ (u_X0 w h)) (ci := 0) rfl (kf_10_0 ka0) 3 (k2 := a0 + 3) (by decide) (by show (a0 + 1) + (2 : Int) = a0 + 3; omega) w_fl_RX10_269 dX10_recur_82 ?_
            refine lv_iload_n hx hb dX10_recur_85 rfl (lv_at hl 1 rfl) ?_
            obtain ⟨g48, h⟩ := h
            refine j_aald hx hb hK hG (t := 21) (t0 := 4) (k2 := a0 + 2 * a1 + 28) (show kd (a0 + 3) = 21 from (show (a0 + 1) + 2 = a0 + 3 from by omega) ▸ (kf_1_3 (kf_10_0 ka0))) (by decide) rfl g48 (by simp only [ra_21]; omega) dX10_recur_86 ?_
            have k49 : kd (a0 + 2 * a1 + 28) = 4 := by have q9 := (ka_21 (show kd (a0 + 3) = 21 from (show (a0 + 1) + 2 = a0 + 3 from by omega) ▸ (kf_1_3 (kf_10_0 ka0))) g48); rwa [show (a0 + 3) + 25 + 2 * a1 = a0 + 2 * a1 + 28 from by omega] at q9
            refine lv_iload_n hx hb dX10_recur_87 rfl (lv_at hl 2 rfl) ?_
            refine lv_iload_n hx hb dX10_recur_88 rfl (lv_at hl 3 rfl) ?_
            refine lv_iload hx hb dX10_recur_89 (lv_at hl 4 rfl) ?_
            refine j_contv (va_runV (As := [.int (J a2), .int (J a3), .int (J a4)]) (rest := []) ⟨hx, hb, hml, hown, hts⟩ (A_X4_repeat l k49 h) (cwV 3 hts (gj_V ml_RX10_287 i_X4_repeat s_X4_repeat n_RX4 k_X4_repeat) rfl rfl rfl (by decide +kernel) ⟨by exact Nat.le_of_ble_eq_true rfl, by exact Nat.le_of_ble_eq_true rfl⟩) (j_preV hK hSX hG (ci := 3) rfl k49 (by decide)) rfl rfl hl.1 rfl (lv_room (Nat.le_of_ble_eq_true rfl)) dX10_recur_91 ⟨by exact Nat.le_of_ble_eq_true rfl, by exact Nat.le_of_ble_eq_true rfl⟩) hG (c2 := 0) (s2 := 0) ⟨by exact Nat.le_of_ble_eq_true rfl, by exact Nat.le_of_ble_eq_true rfl⟩ (fun M51 h H locs hG => ?_)
            refine lv_aload_n hx hb dX10_recur_94 rfl (lv_at hl 0 rfl) ?_
            refine j_getr hx hb hts hown hK hG (k := a0) (fun w h => List.mem_cons_of_mem _ (u_X10 w h)) (ci := 9) rfl ka0 3 (k2 := a0 + 569) (by decide) (by show a0 + (569 : Int) = a0 + 569; omega) w_fl_RX10_32 dX10_recur_95 ?_
            refine lv_iload_n hx hb dX10_recur_98 rfl (lv_at hl 1 rfl) ?_
            refine j_aald hx hb hK hG (t := 24) (t0 := 7) (k2 := a0 + 3 * a1 + 570) (kf_10_3 ka0) (by decide) rfl g48 (by simp only [ra_24]; omega) dX10_recur_99 ?_
            have k52 : kd (a0 + 3 * a1 + 570) = 5 := by have q9 := (ka_24 (kf_10_3 ka0) g48); rwa [show (a0 + 569) + 1 + 3 * a1 = a0 + 3 * a1 + 570 from by omega] at q9
            refine j_contv (va_runV (As := []) (rest := []) ⟨hx, hb, hml, hown, hts⟩ (A_X5_spoil l k52 h) (cwV 0 hts (gj_V ml_RX10_278 i_X5_spoil s_X5_spoil n_RX5 k_X5_spoil) rfl rfl rfl (by decide +kernel) ⟨by exact Nat.le_of_ble_eq_true rfl, by exact Nat.le_of_ble_eq_true rfl⟩) (j_preV hK hSX hG (ci := 4) rfl k52 (by decide)) rfl rfl hl.1 rfl (lv_room (Nat.le_of_ble_eq_true rfl)) dX10_recur_100 ⟨by exact Nat.le_of_ble_eq_true rfl, by exact Nat.le_of_ble_eq_true rfl⟩) hG (c2 := 0) (s2 := 0) ⟨by exact Nat.le_of_ble_eq_true rfl, by exact Nat.le_of_ble_eq_true rfl⟩ (fun M54 h H locs hG => ?_)
            refine lv_aload_n hx hb dX10_recur_103 rfl (lv_at hl 0 rfl) ?_
            refine lv_iload_n hx hb dX10_recur_104 rfl (lv_at hl 1 rfl) ?_
            refine j_contr (va_runV (As := [.int (J a1)]) (rest := []) ⟨hx, hb, hml, hown, hts⟩ (A_X10_laidOut l ka0 h) (cwV 1 hts (gj_V ml_RX10_291 i_X10_laidOut s_X10_laidOut n_RX10 k_X10_laidOut) rfl rfl rfl (by decide +kernel) ⟨by exact Nat.le_of_ble_eq_true rfl, by exact Nat.le_of_ble_eq_true rfl⟩) (j_preV hK hSX hG (ci := 9) rfl ka0 (by decide)) rfl rfl hl.1 rfl (lv_room (Nat.le_of_ble_eq_true rfl)) dX10_recur_105 ⟨by exact Nat.le_of_ble_eq_true rfl, by exact Nat.le_of_ble_eq_true rfl⟩) hG (c2 := 0) (s2 := 0) ⟨by exact Nat.le_of_ble_eq_true rfl, by exact Nat.le_of_ble_eq_true rfl⟩ (fun k55 M56 h hk55 H locs hG => ?_)
            refine j_geti hx hb hts hown hK hG (k := k55) (fun w h => List.mem_cons_of_mem _ (u_X5 w h)) (ci := 4) rfl hk55 2 (by decide) (jz := 2) rfl w_fl_RX10_295 dX10_recur_108 ?_
            rw [hQf]
            exact vx_ret (j_ireti hx hb hr hlocks hG h (by decide) dX10_recur_111)
          · refine j_contxv (vx_runS (As := [.int (J (b2i ((a2 ≠ 1 ∧ a4 = 0) ∨ (a2 = 1 ∧ 1 ≤ a4 ∧ a4 ≤ 127))))]) (rest := []) ⟨hx, hb, hml, hown, hts⟩ (A_X10_needArgument l hst h) (va_cwS 1 hts (gj_S ml_RX10_72 i_X10_needArgument n_RX10 k_X10_needArgument) rfl rfl rfl (by decide +kernel) ⟨by exact Nat.le_of_ble_eq_true rfl, by exact Nat.le_of_ble_eq_true rfl⟩) (j_preS hK hSX hG) rfl rfl hl.1 rfl (lv_room (Nat.le_of_ble_eq_true rfl)) dX10_recur_71 ⟨by exact Nat.le_of_ble_eq_true rfl, by exact Nat.le_of_ble_eq_true rfl⟩) hG (c2 := 1) (s2 := 6) ⟨by exact Nat.le_of_ble_eq_true rfl, by exact Nat.le_of_ble_eq_true rfl⟩ (fun x M h ce q H locs hG h1 h2 h3 => ?_) (fun M h H locs hG => h.elim)
            rw [hQf]
            exact j_xout hlocks hout hG h h1 h2 h3 (by decide)
        have h := hg
        obtain ⟨g38, h⟩ := h
        refine j_icmp_ne (tgt := 61) hx hb dX10_recur_37 (by decide) g38 (by decide) (fun c37 => ?_) (fun c37 => ?_)
        · have h := h.1 c37
          refine lv_iload hx hb dX10_recur_61 (lv_at hl 4 rfl) ?_
          obtain ⟨g40, h⟩ := h
          refine j_if_ne (tgt := 70) hx hb dX10_recur_63 (by decide) g40 (fun c39 => ?_) (fun c39 => ?_)
          · have h := h.1 c39
            refine lv_iconst (v := J 0) hx hb dX10_recur_70 (by decide) ?_
            exact jK36 0 (b2i_iff0 ((pj_t c37 (show ¬ (a2 = 1) from by omega)).trans (iff_of_false (show ¬ (a4 = 0) from by omega) id))) H locs hG ls (lv_sub hl [0, 1, 2, 3, 4] rfl)
          · have h := h.2 c39
            refine lv_iconst (v := J 1) hx hb dX10_recur_66 (by decide) ?_
            refine lv_goto (tgt := 71) hx hb dX10_recur_67 (by decide) ?_
            exact jK36 1 (b2i_iff1 ((pj_t c37 (show ¬ (a2 = 1) from by omega)).trans (iff_of_true c39 trivial))) H locs hG ls (lv_sub hl [0, 1, 2, 3, 4] rfl)
        · have h := h.2 c37
          refine lv_iload hx hb dX10_recur_40 (lv_at hl 4 rfl) ?_
          refine lv_iconst (v := J 1) hx hb dX10_recur_42 (by decide) ?_
          obtain ⟨g42, h⟩ := h
          refine j_icmp_lt (tgt := 57) hx hb dX10_recur_43 (by decide) g42 (by decide) (fun c41 => ?_) (fun c41 => ?_)
          · have h := h.1 c41
            refine lv_iconst (v := J 0) hx hb dX10_recur_57 (by decide) ?_
            refine lv_goto (tgt := 71) hx hb dX10_recur_58 (by decide) ?_
            exact jK36 0 (b2i_iff0 ((pj_f (show ¬ (a2 ≠ 1) from by omega) c37).trans (iff_of_false (fun q8 => (show ¬ (1 ≤ a4) from by omega) q8.1) id))) H locs hG ls (lv_sub hl [0, 1, 2, 3, 4] rfl)
          · have h := h.2 c41
            refine lv_iload hx hb dX10_recur_46 (lv_at hl 4 rfl) ?_
            refine lv_bipush (v := J 127) hx hb dX10_recur_48 (by decide) ?_
            refine j_icmp_gt (tgt := 57) hx hb dX10_recur_50 (by decide) g42 (by decide) (fun c43 => ?_) (fun c43 => ?_)
            · have h := h.1 c43
              refine lv_iconst (v := J 0) hx hb dX10_recur_57 (by decide) ?_
              refine lv_goto (tgt := 71) hx hb dX10_recur_58 (by decide) ?_
              exact jK36 0 (b2i_iff0 ((pj_f (show ¬ (a2 ≠ 1) from by omega) c37).trans ((and_iff_right c41).trans (iff_of_false (show ¬ (a4 ≤ 127) from by omega) id)))) H locs hG ls (lv_sub hl [0, 1, 2, 3, 4] rfl)
            · have h := h.2 c43
              refine lv_iconst (v := J 1) hx hb dX10_recur_53 (by decide) ?_
              refine lv_goto (tgt := 71) hx hb dX10_recur_54 (by decide) ?_
              exact jK36 1 (b2i_iff1 ((pj_f (show ¬ (a2 ≠ 1) from by omega) c37).trans ((and_iff_right c41).trans (iff_of_true c43 trivial)))) H locs hG ls (lv_sub hl [0, 1, 2, 3, 4] rfl)
      · refine j_contxv (vx_runS (As := [.int (J x24)]) (rest := []) ⟨hx, hb, hml, hown, hts⟩ (A_X10_needArgument l hst h) (va_cwS 1 hts (gj_S ml_RX10_72 i_X10_needArgument n_RX10 k_X10_needArgument) rfl rfl rfl (by decide +kernel) ⟨by exact Nat.le_of_ble_eq_true rfl, by exact Nat.le_of_ble_eq_true rfl⟩) (j_preS hK hSX hG) rfl rfl hl.1 rfl (lv_room (Nat.le_of_ble_eq_true rfl)) dX10_recur_32 ⟨by exact Nat.le_of_ble_eq_true rfl, by exact Nat.le_of_ble_eq_true rfl⟩) hG (c2 := 1) (s2 := 6) ⟨by exact Nat.le_of_ble_eq_true rfl, by exact Nat.le_of_ble_eq_true rfl⟩ (fun x M h ce q H locs hG h1 h2 h3 => ?_) (fun M h H locs hG => h.elim)
        rw [hQf]
        exact j_xout hlocks hout hG h h1 h2 h3 (by decide)
    obtain ⟨K67, hK67, h⟩ := h
    have jK67 : K67 → ∀ (H : Heap) (locs : List Loc), GM D cy o M s.heap H locs → ∀ ls : Array Slot, lv_has ls 5 [(0, .ref (rA o a0)), (1, .int (J a1)), (2, .int (J a2)), (3, .int (J a3)), (4, .int (J a4))] → W p l e rm_X10_recur s m args below meth c H locs 0 0 Qf (F0 m 31 ls []) := by
      intro hcK67 H locs hG ls hl
      have h := hK67 hcK67
      refine lv_iconst (v := J 0) hx hb dX10_recur_31 (by decide) ?_
      exact jK25 0 h H locs hG ls (lv_sub hl [0, 1, 2, 3, 4] rfl)
    obtain ⟨g69, h⟩ := h
    refine j_if_lt (tgt := 31) hx hb dX10_recur_6 (by decide) g69 (fun c68 => ?_) (fun c68 => ?_)
    · have h := h.1 c68
      exact jK67 h H locs hG ls (lv_sub hl [0, 1, 2, 3, 4] rfl)
    · have h := h.2 c68
      refine lv_iload_n hx hb dX10_recur_9 rfl (lv_at hl 2 rfl) ?_
      refine lv_iconst (v := J 3) hx hb dX10_recur_10 (by decide) ?_
      refine j_icmp_gt (tgt := 31) hx hb dX10_recur_11 (by decide) g69 (by decide) (fun c70 => ?_) (fun c70 => ?_)
      · have h := h.1 c70
        exact jK67 h H locs hG ls (lv_sub hl [0, 1, 2, 3, 4] rfl)
      · have h := h.2 c70
        refine lv_iload_n hx hb dX10_recur_14 rfl (lv_at hl 3 rfl) ?_
        refine lv_iconst (v := J 1) hx hb dX10_recur_15 (by decide) ?_
        obtain ⟨g72, h⟩ := h
        refine j_icmp_lt (tgt := 31) hx hb dX10_recur_16 (by decide) g72 (by decide) (fun c71 => ?_) (fun c71 => ?_)
        · have h := h.1 c71
          exact jK67 h H locs hG ls (lv_sub hl [0, 1, 2, 3, 4] rfl)
        · have h := h.2 c71
          refine lv_iload_n hx hb dX10_recur_19 rfl (lv_at hl 3 rfl) ?_
          refine lv_iload_n hx hb dX10_recur_20 rfl (lv_at hl 2 rfl) ?_
          obtain ⟨g73, h⟩ := h
          refine j_conti (va_runS (As := [.int (J a2)]) (rest := [.int (J a3)]) ⟨hx, hb, hml, hown, hts⟩ (A_X10_greatestStep l g73) (va_cwS 1 hts (gj_S ml_RX10_284 i_X10_greatestStep n_RX10 k_X10_greatestStep) rfl rfl rfl (by decide +kernel) ⟨by exact Nat.le_of_ble_eq_true rfl, by exact Nat.le_of_ble_eq_true rfl⟩) (j_preS hK hSX hG) rfl rfl hl.1 rfl (lv_room (Nat.le_of_ble_eq_true rfl)) dX10_recur_21 ⟨by exact Nat.le_of_ble_eq_true rfl, by exact Nat.le_of_ble_eq_true rfl⟩) hG (c2 := 0) (s2 := 0) ⟨by exact Nat.le_of_ble_eq_true rfl, by exact Nat.le_of_ble_eq_true rfl⟩ (fun z74 M75 ez74 H locs hG => ?_)
          obtain ⟨ez74, eM75⟩ := ez74
          subst ez74
          rw [eM75] at hG
          obtain ⟨g77, h⟩ := h
          refine j_icmp_gt (tgt := 31) hx hb dX10_recur_24 (by decide) g72 g77 (fun c76 => ?_) (fun c76 => ?_)
          · have h := h.1 c76
            exact jK67 h H locs hG ls (lv_sub hl [0, 1, 2, 3, 4] rfl)
          · have h := h.2 c76
            refine lv_iconst (v := J 1) hx hb dX10_recur_27 (by decide) ?_
            refine lv_goto (tgt := 32) hx hb dX10_recur_28 (by decide) ?_
            exact jK25 1 h H locs hG ls (lv_sub hl [0, 1, 2, 3, 4] rfl)
  · refine j_contxv (vx_runV (As := [.int (J a1)]) (rest := []) ⟨hx, hb, hml, hown, hts⟩ (A_X10_needMeeting l hst ka0 h) (cwV 1 hts (gj_V ml_RX10_281 i_X10_needMeeting s_X10_needMeeting n_RX10 k_X10_needMeeting) rfl rfl rfl (by decide +kernel) ⟨by exact Nat.le_of_ble_eq_true rfl, by exact Nat.le_of_ble_eq_true rfl⟩) (j_preV hK hSX hG (ci := 9) rfl ka0 (by decide)) rfl rfl hl.1 rfl (lv_room (Nat.le_of_ble_eq_true rfl)) dX10_recur_2 ⟨by exact Nat.le_of_ble_eq_true rfl, by exact Nat.le_of_ble_eq_true rfl⟩) hG (c2 := 1) (s2 := 6) ⟨by exact Nat.le_of_ble_eq_true rfl, by exact Nat.le_of_ble_eq_true rfl⟩ (fun x M h ce q H locs hG h1 h2 h3 => ?_) (fun M h H locs hG => h.elim)
    rw [hQf]
    exact j_xout hlocks hout hG h h1 h2 h3 (by decide)

abbrev rm_X10_occurrenceFault : Room := { frames := 4, cells := 0, slots := 0, locals := 98 }
set_option maxRecDepth 100000 in
set_option maxHeartbeats 4000000 in
theorem A_X10_occurrenceFault (l : Launch) {D : va_G} {cy : Nat → ClassId} {o : Nat} {sK sV : Nat → Nat} {M : jT} {a0 : Int} {a1 : Int} {a2 : Int} (ka0 : kd a0 = 10) {Q : Int → jT → Prop} (h : wp_X10_occurrenceFault M a0 a1 a2 Q) : CoI l yX10_occurrenceFault (wj yX10_occurrenceFault cX10_occurrenceFault 4 (some .int)) rm_X10_occurrenceFault D cy o sK sV M [.ref (rA o a0), .int (J a1), .int (J a2)] Q := by
  refine j_ofW (cc := cX10_occurrenceFault) (maxL := 4) (ret := (some .int)) (by decide) rfl (Nat.le_of_ble_eq_true rfl) ?_
  intro p e s m args below meth c hx hb hr hlocks hml hown hts hK hSX H locs hG ls hl Qf hQf
  have hown : s.vm.findClass RX10 = some m.cls := hown
  have hl : lv_has ls 4 [(0, .ref (rA o a0)), (1, .int (J a1)), (2, .int (J a2))] := hl
  have w_fl_RX10_12 := hts _ (List.mem_cons_of_mem _ fl_RX10_12)
  have w_fl_RX10_266 := hts _ (List.mem_cons_of_mem _ fl_RX10_266)
  have w_fl_RX10_295 := hts _ (List.mem_cons_of_mem _ fl_RX10_295)
  unfold wp_X10_occurrenceFault at h
  refine lv_iload_n hx hb dX10_occurrenceFault_0 rfl (lv_at hl 1 rfl) ?_
  obtain ⟨K25, hK25, h⟩ := h
  have jK25 : ∀ (x23 : Int) (M24 : jT), K25 x23 M24 → ∀ (H : Heap) (locs : List Loc), GM D cy o M24 s.heap H locs → ∀ ls : Array Slot, lv_has ls 4 [] → W p l e rm_X10_occurrenceFault s m args below meth c H locs 0 0 Qf (F0 m 36 ls [.int (J x23)]) := by
    intro x23 M24 hcK25 H locs hG ls hl
    have h := hK25 x23 M24 hcK25
    refine lv_istore_n (lv' := [(3, .int (J x23))]) hx hb dX10_occurrenceFault_36 rfl hl (by decide) rfl (fun ls hl => ?_)
    refine lv_iload_n hx hb dX10_occurrenceFault_37 rfl (lv_at hl 0 rfl) ?_
    obtain ⟨hg, h⟩ := h
    have jK29 : ∀ x28 : Int, x28 = b2i (x23 = 0) → ∀ (H : Heap) (locs : List Loc), GM D cy o M24 s.heap H locs → ∀ ls : Array Slot, lv_has ls 4 [] → W p l e rm_X10_occurrenceFault s m args below meth c H locs 0 0 Qf (F0 m 46 ls [.int (J x28)]) := by
      intro x28 ex28 H locs hG ls hl
      subst ex28
      rw [hQf]
      exact j_ireti hx hb hr hlocks hG h (by decide) dX10_occurrenceFault_46
    have h := hg
    obtain ⟨g31, h⟩ := h
    refine j_if_eq (tgt := 45) hx hb dX10_occurrenceFault_38 (by decide) g31 (fun c30 => ?_) (fun c30 => ?_)
    · have h := h.1 c30
      refine lv_iconst (v := J 1) hx hb dX10_occurrenceFault_45 (by decide) ?_
      exact jK29 1 (b2i_iff1 (iff_of_true c30 trivial)) H locs hG ls (lv_sub hl [] rfl)
    · have h := h.2 c30
      refine lv_iconst (v := J 0) hx hb dX10_occurrenceFault_41 (by decide) ?_
      refine lv_goto (tgt := 46) hx hb dX10_occurrenceFault_42 (by decide) ?_
      exact jK29 0 (b2i_iff0 (iff_of_false (show ¬ (x23 = 0) from by omega) id)) H locs hG ls (lv_sub hl [] rfl)
  obtain ⟨K43, hK43, h⟩ := h
  have jK43 : ∀ (M42 : jT), K43 M42 → ∀ (H : Heap) (locs : List Loc), GM D cy o M42 s.heap H locs → ∀ ls : Array Slot, lv_has ls 4 [] → W p l e rm_X10_occurrenceFault s m args below meth c H locs 0 0 Qf (F0 m 35 ls []) := by
    intro M42 hcK43 H locs hG ls hl
    have h := hK43 M42 hcK43
    refine lv_iconst (v := J 0) hx hb dX10_occurrenceFault_35 (by decide) ?_
    exact jK25 0 M42 h H locs hG ls (lv_sub hl [] rfl)
  obtain ⟨g45, h⟩ := h
  refine j_if_lt (tgt := 35) hx hb dX10_occurrenceFault_1 (by decide) g45 (fun c44 => ?_) (fun c44 => ?_)
  · have h := h.1 c44
    exact jK43 M h H locs hG ls (lv_sub hl [] rfl)
  · have h := h.2 c44
    refine lv_iload_n hx hb dX10_occurrenceFault_4 rfl (lv_at hl 1 rfl) ?_
    refine lv_aload_n hx hb dX10_occurrenceFault_5 rfl (lv_at hl 0 rfl) ?_
    refine j_getr hx hb hts hown hK hG (k := a0) (fun w h => List.mem_cons_of_mem _ (u_X10 w h)) (ci := 9) rfl ka0 0 (k2 := a0 + 1) (by decide) (by show a0 + (1 : Int) = a0 + 1; omega) w_fl_RX10_12 dX10_occurrenceFault_6 ?_
    refine j_geti hx hb hts hown hK hG (k := a0 + 1) (fun w h => List.mem_cons_of_mem _ (u_X0 w h)) (ci := 0) rfl (kf_10_0 ka0) 1 (by decide) (jz := 1) rfl w_fl_RX10_266 dX10_occurrenceFault_9 ?_
    obtain ⟨g47, h⟩ := h
    refine j_icmp_ge (tgt := 35) hx hb dX10_occurrenceFault_12 (by decide) g45 g47 (fun c46 => ?_) (fun c46 => ?_)
    · have h := h.1 c46
      exact jK43 M h H locs hG ls (lv_sub hl [] rfl)
    · have h := h.2 c46
      refine lv_iload_n hx hb dX10_occurrenceFault_15 rfl (lv_at hl 2 rfl) ?_
      obtain ⟨g49, h⟩ := h
      refine j_if_lt (tgt := 35) hx hb dX10_occurrenceFault_16 (by decide) g49 (fun c48 => ?_) (fun c48 => ?_)
      · have h := h.1 c48
        exact jK43 M h H locs hG ls (lv_sub hl [] rfl)
      · have h := h.2 c48
        refine lv_iload_n hx hb dX10_occurrenceFault_19 rfl (lv_at hl 2 rfl) ?_
        refine lv_aload_n hx hb dX10_occurrenceFault_20 rfl (lv_at hl 0 rfl) ?_
        refine lv_iload_n hx hb dX10_occurrenceFault_21 rfl (lv_at hl 1 rfl) ?_
        refine j_contr (va_runV (As := [.int (J a1)]) (rest := [.int (J a2)]) ⟨hx, hb, hml, hown, hts⟩ (A_X10_laidOut l ka0 h) (cwV 1 hts (gj_V ml_RX10_291 i_X10_laidOut s_X10_laidOut n_RX10 k_X10_laidOut) rfl rfl rfl (by decide +kernel) ⟨by exact Nat.le_of_ble_eq_true rfl, by exact Nat.le_of_ble_eq_true rfl⟩) (j_preV hK hSX hG (ci := 9) rfl ka0 (by decide)) rfl rfl hl.1 rfl (lv_room (Nat.le_of_ble_eq_true rfl)) dX10_occurrenceFault_22 ⟨by exact Nat.le_of_ble_eq_true rfl, by exact Nat.le_of_ble_eq_true rfl⟩) hG (c2 := 0) (s2 := 0) ⟨by exact Nat.le_of_ble_eq_true rfl, by exact Nat.le_of_ble_eq_true rfl⟩ (fun k50 M51 h hk50 H locs hG => ?_)
        refine j_geti hx hb hts hown hK hG (k := k50) (fun w h => List.mem_cons_of_mem _ (u_X5 w h)) (ci := 4) rfl hk50 2 (by decide) (jz := 2) rfl w_fl_RX10_295 dX10_occurrenceFault_25 ?_
        obtain ⟨g53, h⟩ := h
        refine j_icmp_ge (tgt := 35) hx hb dX10_occurrenceFault_28 (by decide) g49 g53 (fun c52 => ?_) (fun c52 => ?_)
        · have h := h.1 c52
          exact jK43 M51 h H locs hG ls (lv_sub hl [] rfl)
        · have h := h.2 c52
          refine lv_iconst (v := J 1) hx hb dX10_occurrenceFault_31 (by decide) ?_
          refine lv_goto (tgt := 36) hx hb dX10_occurrenceFault_32 (by decide) ?_
          exact jK25 1 M51 h H locs hG ls (lv_sub hl [] rfl)

abbrev rm_X4_isCancelled : Room := { frames := 0, cells := 0, slots := 0, locals := 0 }
set_option maxRecDepth 100000 in
set_option maxHeartbeats 4000000 in
theorem A_X4_isCancelled (l : Launch) {D : va_G} {cy : Nat → ClassId} {o : Nat} {sK sV : Nat → Nat} {M : jT} {a0 : Int} {a1 : Int} (ka0 : kd a0 = 4) (h : pg_X4_isCancelled M a0 a1) : CoI l yX4_isCancelled (wj yX4_isCancelled cX4_isCancelled 2 (some .boolean)) rm_X4_isCancelled D cy o sK sV M [.ref (rA o a0), .int (J a1)] (fun z M9 => z = b2i (pb_X4_isCancelled M a0 a1) ∧ M9 = M) := by
  refine j_ofW (cc := cX4_isCancelled) (maxL := 2) (ret := (some .boolean)) (by decide) rfl (Nat.le_of_ble_eq_true rfl) ?_
  intro p e s m args below meth c hx hb hr hlocks hml hown hts hK hSX H locs hG ls hl Qf hQf
  have hown : s.vm.findClass RX4 = some m.cls := hown
  have hl : lv_has ls 2 [(0, .ref (rA o a0)), (1, .int (J a1))] := hl
  have w_fl_RX4_47 := hts _ (List.mem_cons_of_mem _ fl_RX4_47)
  unfold pg_X4_isCancelled at h
  refine lv_aload_n hx hb dX4_isCancelled_0 rfl (lv_at hl 0 rfl) ?_
  refine j_getl hx hb hts hown hK hG (k := a0) (fun w h => List.mem_cons_of_mem _ (u_X4 w h)) (ci := 3) rfl ka0 9 (by decide) (jz := 9) rfl w_fl_RX4_47 dX4_isCancelled_1 ?_
  refine lv_iload_n hx hb dX4_isCancelled_4 rfl (lv_at hl 1 rfl) ?_
  obtain ⟨g1, h⟩ := h
  obtain ⟨g2, h⟩ := h
  refine j_lshr hx hb a1.toNat (by omega) dX4_isCancelled_5 g2 (by omega) ?_
  refine lv_lconst (v := JL 1) hx hb dX4_isCancelled_6 (by decide) ?_
  refine j_land1 hx hb dX4_isCancelled_7 ?_
  refine lv_lconst (v := JL 0) hx hb dX4_isCancelled_8 (by decide) ?_
  obtain ⟨g4, h⟩ := h
  refine j_lcmp_eq (tgt := 17) hx hb dX4_isCancelled_9 dX4_isCancelled_10 (by decide) g4 (by decide) (fun c3 => ?_) (fun c3 => ?_)
  · have h := h.1 c3
    refine lv_iconst (v := J 0) hx hb dX4_isCancelled_17 (by decide) ?_
    rw [hQf]
    exact j_iretn hx hb hr hlocks (nar_b (by decide)) hG ⟨(b2i_iff0 (iff_of_false (show ¬ (((M a0 9) / 2 ^ a1.toNat) % 2 ≠ 0) from by omega) id)), rfl⟩ (by decide) dX4_isCancelled_18
  · have h := h.2 c3
    refine lv_iconst (v := J 1) hx hb dX4_isCancelled_13 (by decide) ?_
    refine lv_goto (tgt := 18) hx hb dX4_isCancelled_14 (by decide) ?_
    rw [hQf]
    exact j_iretn hx hb hr hlocks (nar_b (by decide)) hG ⟨(b2i_iff1 (iff_of_true c3 trivial)), rfl⟩ (by decide) dX4_isCancelled_18

abbrev rm_X10_turnCancelled : Room := { frames := 1, cells := 0, slots := 0, locals := 21 }
set_option maxRecDepth 100000 in
set_option maxHeartbeats 4000000 in
theorem A_X10_turnCancelled (l : Launch) {D : va_G} {cy : Nat → ClassId} {o : Nat} {sK sV : Nat → Nat} {M : jT} {a0 : Int} {a1 : Int} {a2 : Int} (ka0 : kd a0 = 10) {Q : Int → jT → Prop} (h : wp_X10_turnCancelled M a0 a1 a2 Q) : CoI l yX10_turnCancelled (wj yX10_turnCancelled cX10_turnCancelled 3 (some .int)) rm_X10_turnCancelled D cy o sK sV M [.ref (rA o a0), .int (J a1), .int (J a2)] Q := by
  refine j_ofW (cc := cX10_turnCancelled) (maxL := 3) (ret := (some .int)) (by decide) rfl (Nat.le_of_ble_eq_true rfl) ?_
  intro p e s m args below meth c hx hb hr hlocks hml hown hts hK hSX H locs hG ls hl Qf hQf
  have hown : s.vm.findClass RX10 = some m.cls := hown
  have hl : lv_has ls 3 [(0, .ref (rA o a0)), (1, .int (J a1)), (2, .int (J a2))] := hl
  have w_fl_RX10_12 := hts _ (List.mem_cons_of_mem _ fl_RX10_12)
  have w_fl_RX10_269 := hts _ (List.mem_cons_of_mem _ fl_RX10_269)
  have w_fl_RX10_496 := hts _ (List.mem_cons_of_mem _ fl_RX10_496)
  unfold wp_X10_turnCancelled at h
  refine lv_aload_n hx hb dX10_turnCancelled_0 rfl (lv_at hl 0 rfl) ?_
  refine j_getr hx hb hts hown hK hG (k := a0) (fun w h => List.mem_cons_of_mem _ (u_X10 w h)) (ci := 9) rfl ka0 0 (k2 := a0 + 1) (by decide) (by show a0 + (1 : Int) = a0 + 1; omega) w_fl_RX10_12 dX10_turnCancelled_1 ?_
  refine j_getr hx hb hts hown hK hG (k := a0 + 1) (fun w h => List.mem_cons_of_mem _ (u_X0 w h)) (ci := 0) rfl (kf_10_0 ka0) 3 (k2 := a0 + 3) (by decide) (by show (a0 + 1) + (2 : Int) = a0 + 3; omega) w_fl_RX10_269 dX10_turnCancelled_4 ?_
  refine lv_iload_n hx hb dX10_turnCancelled_7 rfl (lv_at hl 1 rfl) ?_
  obtain ⟨g1, h⟩ := h
  refine j_aald hx hb hK hG (t := 21) (t0 := 4) (k2 := a0 + 2 * a1 + 28) (show kd (a0 + 3) = 21 from (show (a0 + 1) + 2 = a0 + 3 from by omega) ▸ (kf_1_3 (kf_10_0 ka0))) (by decide) rfl g1 (by simp only [ra_21]; omega) dX10_turnCancelled_8 ?_
  have k2 : kd (a0 + 2 * a1 + 28) = 4 := by have q9 := (ka_21 (show kd (a0 + 3) = 21 from (show (a0 + 1) + 2 = a0 + 3 from by omega) ▸ (kf_1_3 (kf_10_0 ka0))) g1); rwa [show (a0 + 3) + 25 + 2 * a1 = a0 + 2 * a1 + 28 from by omega] at q9
  refine lv_dup hx hb dX10_turnCancelled_9 rfl ?_
  refine j_getl hx hb hts hown hK hG (k := a0 + 2 * a1 + 28) (fun w h => List.mem_cons_of_mem _ (u_X4 w h)) (ci := 3) rfl k2 9 (by decide) (jz := 9) rfl w_fl_RX10_496 dX10_turnCancelled_10 ?_
  refine lv_lconst (v := JL 1) hx hb dX10_turnCancelled_13 (by decide) ?_
  refine lv_iload_n hx hb dX10_turnCancelled_14 rfl (lv_at hl 2 rfl) ?_
  obtain ⟨g3, h⟩ := h
  refine j_lshl1 hx hb a2.toNat (by omega) dX10_turnCancelled_15 (by omega) ?_
  refine j_lxor hx hb dX10_turnCancelled_16 ?_
  refine j_putl hx hb hts hown hK hG (k := a0 + 2 * a1 + 28) (fun w h => List.mem_cons_of_mem _ (u_X4 w h)) tyX4 tyX4_ok nmX4 (ci := 3) rfl k2 9 (by decide) (jz := 9) rfl w_fl_RX10_496 rfl dX10_turnCancelled_17 (fun M4 eM4 H locs hG => ?_)
  have h := h M4 eM4
  refine lv_aload_n hx hb dX10_turnCancelled_20 rfl (lv_at hl 0 rfl) ?_
  refine j_getr hx hb hts hown hK hG (k := a0) (fun w h => List.mem_cons_of_mem _ (u_X10 w h)) (ci := 9) rfl ka0 0 (k2 := a0 + 1) (by decide) (by show a0 + (1 : Int) = a0 + 1; omega) w_fl_RX10_12 dX10_turnCancelled_21 ?_
  refine j_getr hx hb hts hown hK hG (k := a0 + 1) (fun w h => List.mem_cons_of_mem _ (u_X0 w h)) (ci := 0) rfl (kf_10_0 ka0) 3 (k2 := a0 + 3) (by decide) (by show (a0 + 1) + (2 : Int) = a0 + 3; omega) w_fl_RX10_269 dX10_turnCancelled_24 ?_
  refine lv_iload_n hx hb dX10_turnCancelled_27 rfl (lv_at hl 1 rfl) ?_
  refine j_aald hx hb hK hG (t := 21) (t0 := 4) (k2 := a0 + 2 * a1 + 28) (show kd (a0 + 3) = 21 from (show (a0 + 1) + 2 = a0 + 3 from by omega) ▸ (kf_1_3 (kf_10_0 ka0))) (by decide) rfl g1 (by simp only [ra_21]; omega) dX10_turnCancelled_28 ?_
  have k5 : kd (a0 + 2 * a1 + 28) = 4 := by have q9 := (ka_21 (show kd (a0 + 3) = 21 from (show (a0 + 1) + 2 = a0 + 3 from by omega) ▸ (kf_1_3 (kf_10_0 ka0))) g1); rwa [show (a0 + 3) + 25 + 2 * a1 = a0 + 2 * a1 + 28 from by omega] at q9
  refine lv_iload_n hx hb dX10_turnCancelled_29 rfl (lv_at hl 2 rfl) ?_
  obtain ⟨g6, h⟩ := h
  refine j_conti (va_runV (As := [.int (J a2)]) (rest := []) ⟨hx, hb, hml, hown, hts⟩ (A_X4_isCancelled l k5 g6) (cwV 1 hts (gj_V ml_RX10_500 i_X4_isCancelled s_X4_isCancelled n_RX4 k_X4_isCancelled) rfl rfl rfl (by decide +kernel) ⟨by exact Nat.le_of_ble_eq_true rfl, by exact Nat.le_of_ble_eq_true rfl⟩) (j_preV hK hSX hG (ci := 3) rfl k5 (by decide)) rfl rfl hl.1 rfl (lv_room (Nat.le_of_ble_eq_true rfl)) dX10_turnCancelled_30 ⟨by exact Nat.le_of_ble_eq_true rfl, by exact Nat.le_of_ble_eq_true rfl⟩) hG (c2 := 0) (s2 := 0) ⟨by exact Nat.le_of_ble_eq_true rfl, by exact Nat.le_of_ble_eq_true rfl⟩ (fun z7 M8 ez7 H locs hG => ?_)
  obtain ⟨ez7, eM8⟩ := ez7
  subst ez7
  rw [eM8] at hG
  obtain ⟨hg, h⟩ := h
  have jK11 : ∀ x10 : Int, x10 = b2i (pb_X4_isCancelled M4 (a0 + 2 * a1 + 28) a2) → ∀ (H : Heap) (locs : List Loc), GM D cy o M4 s.heap H locs → ∀ ls : Array Slot, lv_has ls 3 [] → W p l e rm_X10_turnCancelled s m args below meth c H locs 0 0 Qf (F0 m 41 ls [.int (J x10)]) := by
    intro x10 ex10 H locs hG ls hl
    subst ex10
    rw [hQf]
    exact j_ireti hx hb hr hlocks hG h (by decide) dX10_turnCancelled_41
  have h := hg
  refine j_if_eq_b (tgt := 40) hx hb dX10_turnCancelled_33 (by decide) (fun c12 => ?_) (fun c12 => ?_)
  · have h := h.1 c12
    refine lv_iconst (v := J 0) hx hb dX10_turnCancelled_40 (by decide) ?_
    exact jK11 0 (b2i_iff0 (iff_of_false c12 id)) H locs hG ls (lv_sub hl [] rfl)
  · have h := h.2 c12
    refine lv_iconst (v := J 1) hx hb dX10_turnCancelled_36 (by decide) ?_
    refine lv_goto (tgt := 41) hx hb dX10_turnCancelled_37 (by decide) ?_
    exact jK11 1 (b2i_iff1 (iff_of_true c12 trivial)) H locs hG ls (lv_sub hl [] rfl)

abbrev rom_X10_cancel : Room := { frames := 5, cells := 0, slots := 0, locals := 144 }
set_option maxRecDepth 100000 in
set_option maxHeartbeats 4000000 in
theorem Ao_X10_cancel (l : Launch) {D : va_G} {cy : Nat → ClassId} {o : Nat} {sK sV : Nat → Nat} {M : jT} {a0 : Int} {a1 : Int} {a2 : Int} (ka0 : kd a0 = 10) {Q : Int → jT → Prop} (h : wo_X10_cancel M a0 a1 a2 Q) : CoI l yX10_cancel (wj yX10_cancel cX10_cancel 3 (some .int)) rom_X10_cancel D cy o sK sV M [.ref (rA o a0), .int (J a1), .int (J a2)] Q := by
  refine j_ofW (cc := cX10_cancel) (maxL := 3) (ret := (some .int)) (by decide) rfl (Nat.le_of_ble_eq_true rfl) ?_
  intro p e s m args below meth c hx hb hr hlocks hml hown hts hK hSX H locs hG ls hl Qf hQf
  have hown : s.vm.findClass RX10 = some m.cls := hown
  have hl : lv_has ls 3 [(0, .ref (rA o a0)), (1, .int (J a1)), (2, .int (J a2))] := hl
  unfold wo_X10_cancel at h
  refine lv_aload_n hx hb dX10_cancel_0 rfl (lv_at hl 0 rfl) ?_
  refine lv_iload_n hx hb dX10_cancel_1 rfl (lv_at hl 1 rfl) ?_
  refine lv_iload_n hx hb dX10_cancel_2 rfl (lv_at hl 2 rfl) ?_
  refine j_conti (va_runV (As := [.int (J a1), .int (J a2)]) (rest := []) ⟨hx, hb, hml, hown, hts⟩ (A_X10_occurrenceFault l ka0 h) (cwV 2 hts (gj_V ml_RX10_298 i_X10_occurrenceFault s_X10_occurrenceFault n_RX10 k_X10_occurrenceFault) rfl rfl rfl (by decide +kernel) ⟨by exact Nat.le_of_ble_eq_true rfl, by exact Nat.le_of_ble_eq_true rfl⟩) (j_preV hK hSX hG (ci := 9) rfl ka0 (by decide)) rfl rfl hl.1 rfl (lv_room (Nat.le_of_ble_eq_true rfl)) dX10_cancel_3 ⟨by exact Nat.le_of_ble_eq_true rfl, by exact Nat.le_of_ble_eq_true rfl⟩) hG (c2 := 0) (s2 := 0) ⟨by exact Nat.le_of_ble_eq_true rfl, by exact Nat.le_of_ble_eq_true rfl⟩ (fun z1 M2 h H locs hG => ?_)
  refine j_contv (va_runS (As := [.int (J z1)]) (rest := []) ⟨hx, hb, hml, hown, hts⟩ (Ao_X10_refuse l h) (va_cwS 1 hts (gj_S ml_RX10_107 i_X10_refuse n_RX10 k_X10_refuse) rfl rfl rfl (by decide +kernel) ⟨by exact Nat.le_of_ble_eq_true rfl, by exact Nat.le_of_ble_eq_true rfl⟩) (j_preS hK hSX hG) rfl rfl hl.1 rfl (lv_room (Nat.le_of_ble_eq_true rfl)) dX10_cancel_6 ⟨by exact Nat.le_of_ble_eq_true rfl, by exact Nat.le_of_ble_eq_true rfl⟩) hG (c2 := 0) (s2 := 0) ⟨by exact Nat.le_of_ble_eq_true rfl, by exact Nat.le_of_ble_eq_true rfl⟩ (fun M4 h H locs hG => ?_)
  obtain ⟨h, eM4⟩ := h
  rw [eM4] at hG
  refine lv_aload_n hx hb dX10_cancel_9 rfl (lv_at hl 0 rfl) ?_
  refine j_contv (va_runV (As := []) (rest := []) ⟨hx, hb, hml, hown, hts⟩ (A_X10_remember l ka0 h) (cwV 0 hts (gj_V ml_RX10_111 i_X10_remember s_X10_remember n_RX10 k_X10_remember) rfl rfl rfl (by decide +kernel) ⟨by exact Nat.le_of_ble_eq_true rfl, by exact Nat.le_of_ble_eq_true rfl⟩) (j_preV hK hSX hG (ci := 9) rfl ka0 (by decide)) rfl rfl hl.1 rfl (lv_room (Nat.le_of_ble_eq_true rfl)) dX10_cancel_10 ⟨by exact Nat.le_of_ble_eq_true rfl, by exact Nat.le_of_ble_eq_true rfl⟩) hG (c2 := 0) (s2 := 0) ⟨by exact Nat.le_of_ble_eq_true rfl, by exact Nat.le_of_ble_eq_true rfl⟩ (fun M6 h H locs hG => ?_)
  refine lv_aload_n hx hb dX10_cancel_13 rfl (lv_at hl 0 rfl) ?_
  refine lv_iload_n hx hb dX10_cancel_14 rfl (lv_at hl 1 rfl) ?_
  refine lv_iload_n hx hb dX10_cancel_15 rfl (lv_at hl 2 rfl) ?_
  refine j_conti (va_runV (As := [.int (J a1), .int (J a2)]) (rest := []) ⟨hx, hb, hml, hown, hts⟩ (A_X10_turnCancelled l ka0 h) (cwV 2 hts (gj_V ml_RX10_301 i_X10_turnCancelled s_X10_turnCancelled n_RX10 k_X10_turnCancelled) rfl rfl rfl (by decide +kernel) ⟨by exact Nat.le_of_ble_eq_true rfl, by exact Nat.le_of_ble_eq_true rfl⟩) (j_preV hK hSX hG (ci := 9) rfl ka0 (by decide)) rfl rfl hl.1 rfl (lv_room (Nat.le_of_ble_eq_true rfl)) dX10_cancel_16 ⟨by exact Nat.le_of_ble_eq_true rfl, by exact Nat.le_of_ble_eq_true rfl⟩) hG (c2 := 0) (s2 := 0) ⟨by exact Nat.le_of_ble_eq_true rfl, by exact Nat.le_of_ble_eq_true rfl⟩ (fun z7 M8 h H locs hG => ?_)
  rw [hQf]
  exact j_ireti hx hb hr hlocks hG h (by decide) dX10_cancel_19
abbrev rm_X10_cancel : Room := { frames := 8, cells := 1, slots := 6, locals := 144 }
set_option maxRecDepth 100000 in
set_option maxHeartbeats 4000000 in
theorem A_X10_cancel (l : Launch) (hst : l.stackTraces = false) {D : va_G} {cy : Nat → ClassId} {o : Nat} {sK sV : Nat → Nat} {M : jT} {a0 : Int} {a1 : Int} {a2 : Int} (ka0 : kd a0 = 10) {Q : Int → jT → Prop} {X : Nat → jT → Prop} (h : wp_X10_cancel M a0 a1 a2 Q X) : CxI l yX10_cancel (wj yX10_cancel cX10_cancel 3 (some .int)) rm_X10_cancel D cy o sK sV M [.ref (rA o a0), .int (J a1), .int (J a2)] Q X := by
  refine j_ofWx (cc := cX10_cancel) (maxL := 3) (ret := (some .int)) (by decide) rfl (Nat.le_of_ble_eq_true rfl) ?_
  intro p e s m args below meth c hx hb hr hlocks hout hml hown hts hK hSX H locs hsz hG ls hl Qf hQf
  have hown : s.vm.findClass RX10 = some m.cls := hown
  have hl : lv_has ls 3 [(0, .ref (rA o a0)), (1, .int (J a1)), (2, .int (J a2))] := hl
  unfold wp_X10_cancel at h
  refine lv_aload_n hx hb dX10_cancel_0 rfl (lv_at hl 0 rfl) ?_
  refine lv_iload_n hx hb dX10_cancel_1 rfl (lv_at hl 1 rfl) ?_
  refine lv_iload_n hx hb dX10_cancel_2 rfl (lv_at hl 2 rfl) ?_
  refine j_conti (va_runV (As := [.int (J a1), .int (J a2)]) (rest := []) ⟨hx, hb, hml, hown, hts⟩ (A_X10_occurrenceFault l ka0 h) (cwV 2 hts (gj_V ml_RX10_298 i_X10_occurrenceFault s_X10_occurrenceFault n_RX10 k_X10_occurrenceFault) rfl rfl rfl (by decide +kernel) ⟨by exact Nat.le_of_ble_eq_true rfl, by exact Nat.le_of_ble_eq_true rfl⟩) (j_preV hK hSX hG (ci := 9) rfl ka0 (by decide)) rfl rfl hl.1 rfl (lv_room (Nat.le_of_ble_eq_true rfl)) dX10_cancel_3 ⟨by exact Nat.le_of_ble_eq_true rfl, by exact Nat.le_of_ble_eq_true rfl⟩) hG (c2 := 0) (s2 := 0) ⟨by exact Nat.le_of_ble_eq_true rfl, by exact Nat.le_of_ble_eq_true rfl⟩ (fun z1 M2 h H locs hG => ?_)
  rcases h with h | h
  · refine j_contv (va_runS (As := [.int (J z1)]) (rest := []) ⟨hx, hb, hml, hown, hts⟩ (Ao_X10_refuse l h) (va_cwS 1 hts (gj_S ml_RX10_107 i_X10_refuse n_RX10 k_X10_refuse) rfl rfl rfl (by decide +kernel) ⟨by exact Nat.le_of_ble_eq_true rfl, by exact Nat.le_of_ble_eq_true rfl⟩) (j_preS hK hSX hG) rfl rfl hl.1 rfl (lv_room (Nat.le_of_ble_eq_true rfl)) dX10_cancel_6 ⟨by exact Nat.le_of_ble_eq_true rfl, by exact Nat.le_of_ble_eq_true rfl⟩) hG (c2 := 0) (s2 := 0) ⟨by exact Nat.le_of_ble_eq_true rfl, by exact Nat.le_of_ble_eq_true rfl⟩ (fun M4 h H locs hG => ?_)
    obtain ⟨h, eM4⟩ := h
    rw [eM4] at hG
    refine lv_aload_n hx hb dX10_cancel_9 rfl (lv_at hl 0 rfl) ?_
    refine j_contv (va_runV (As := []) (rest := []) ⟨hx, hb, hml, hown, hts⟩ (A_X10_remember l ka0 h) (cwV 0 hts (gj_V ml_RX10_111 i_X10_remember s_X10_remember n_RX10 k_X10_remember) rfl rfl rfl (by decide +kernel) ⟨by exact Nat.le_of_ble_eq_true rfl, by exact Nat.le_of_ble_eq_true rfl⟩) (j_preV hK hSX hG (ci := 9) rfl ka0 (by decide)) rfl rfl hl.1 rfl (lv_room (Nat.le_of_ble_eq_true rfl)) dX10_cancel_10 ⟨by exact Nat.le_of_ble_eq_true rfl, by exact Nat.le_of_ble_eq_true rfl⟩) hG (c2 := 0) (s2 := 0) ⟨by exact Nat.le_of_ble_eq_true rfl, by exact Nat.le_of_ble_eq_true rfl⟩ (fun M6 h H locs hG => ?_)
    refine lv_aload_n hx hb dX10_cancel_13 rfl (lv_at hl 0 rfl) ?_
    refine lv_iload_n hx hb dX10_cancel_14 rfl (lv_at hl 1 rfl) ?_
    refine lv_iload_n hx hb dX10_cancel_15 rfl (lv_at hl 2 rfl) ?_
    refine j_conti (va_runV (As := [.int (J a1), .int (J a2)]) (rest := []) ⟨hx, hb, hml, hown, hts⟩ (A_X10_turnCancelled l ka0 h) (cwV 2 hts (gj_V ml_RX10_301 i_X10_turnCancelled s_X10_turnCancelled n_RX10 k_X10_turnCancelled) rfl rfl rfl (by decide +kernel) ⟨by exact Nat.le_of_ble_eq_true rfl, by exact Nat.le_of_ble_eq_true rfl⟩) (j_preV hK hSX hG (ci := 9) rfl ka0 (by decide)) rfl rfl hl.1 rfl (lv_room (Nat.le_of_ble_eq_true rfl)) dX10_cancel_16 ⟨by exact Nat.le_of_ble_eq_true rfl, by exact Nat.le_of_ble_eq_true rfl⟩) hG (c2 := 0) (s2 := 0) ⟨by exact Nat.le_of_ble_eq_true rfl, by exact Nat.le_of_ble_eq_true rfl⟩ (fun z7 M8 h H locs hG => ?_)
    rw [hQf]
    exact vx_ret (j_ireti hx hb hr hlocks hG h (by decide) dX10_cancel_19)
  · refine j_contxv (vx_runS (As := [.int (J z1)]) (rest := []) ⟨hx, hb, hml, hown, hts⟩ (A_X10_refuse l hst h) (va_cwS 1 hts (gj_S ml_RX10_107 i_X10_refuse n_RX10 k_X10_refuse) rfl rfl rfl (by decide +kernel) ⟨by exact Nat.le_of_ble_eq_true rfl, by exact Nat.le_of_ble_eq_true rfl⟩) (j_preS hK hSX hG) rfl rfl hl.1 rfl (lv_room (Nat.le_of_ble_eq_true rfl)) dX10_cancel_6 ⟨by exact Nat.le_of_ble_eq_true rfl, by exact Nat.le_of_ble_eq_true rfl⟩) hG (c2 := 1) (s2 := 6) ⟨by exact Nat.le_of_ble_eq_true rfl, by exact Nat.le_of_ble_eq_true rfl⟩ (fun x M h ce q H locs hG h1 h2 h3 => ?_) (fun M h H locs hG => h.elim)
    rw [hQf]
    exact j_xout hlocks hout hG h h1 h2 h3 (by decide)

abbrev rom_X10_shift : Room := { frames := 5, cells := 0, slots := 0, locals := 144 }
set_option maxRecDepth 100000 in
set_option maxHeartbeats 4000000 in
theorem Ao_X10_shift (l : Launch) {D : va_G} {cy : Nat → ClassId} {o : Nat} {sK sV : Nat → Nat} {M : jT} {a0 : Int} {a1 : Int} {a2 : Int} {a3 : Int} (ka0 : kd a0 = 10) {Q : Int → jT → Prop} (h : wo_X10_shift M a0 a1 a2 a3 Q) : CoI l yX10_shift (wj yX10_shift cX10_shift 5 (some .int)) rom_X10_shift D cy o sK sV M [.ref (rA o a0), .int (J a1), .int (J a2), .int (J a3)] Q := by
  refine j_ofW (cc := cX10_shift) (maxL := 5) (ret := (some .int)) (by decide) rfl (Nat.le_of_ble_eq_true rfl) ?_
  intro p e s m args below meth c hx hb hr hlocks hml hown hts hK hSX H locs hG ls hl Qf hQf
  have hown : s.vm.findClass RX10 = some m.cls := hown
  have hl : lv_has ls 5 [(0, .ref (rA o a0)), (1, .int (J a1)), (2, .int (J a2)), (3, .int (J a3))] := hl
  have w_fl_RX10_12 := hts _ (List.mem_cons_of_mem _ fl_RX10_12)
  have w_fl_RX10_269 := hts _ (List.mem_cons_of_mem _ fl_RX10_269)
  have w_fl_RX10_304 := hts _ (List.mem_cons_of_mem _ fl_RX10_304)
  have w_fl_RX10_32 := hts _ (List.mem_cons_of_mem _ fl_RX10_32)
  have w_fl_RX10_307 := hts _ (List.mem_cons_of_mem _ fl_RX10_307)
  unfold wo_X10_shift at h
  refine lv_aload_n hx hb dX10_shift_0 rfl (lv_at hl 0 rfl) ?_
  refine lv_iload_n hx hb dX10_shift_1 rfl (lv_at hl 1 rfl) ?_
  refine lv_iload_n hx hb dX10_shift_2 rfl (lv_at hl 2 rfl) ?_
  refine j_conti (va_runV (As := [.int (J a1), .int (J a2)]) (rest := []) ⟨hx, hb, hml, hown, hts⟩ (A_X10_occurrenceFault l ka0 h) (cwV 2 hts (gj_V ml_RX10_298 i_X10_occurrenceFault s_X10_occurrenceFault n_RX10 k_X10_occurrenceFault) rfl rfl rfl (by decide +kernel) ⟨by exact Nat.le_of_ble_eq_true rfl, by exact Nat.le_of_ble_eq_true rfl⟩) (j_preV hK hSX hG (ci := 9) rfl ka0 (by decide)) rfl rfl hl.1 rfl (lv_room (Nat.le_of_ble_eq_true rfl)) dX10_shift_3 ⟨by exact Nat.le_of_ble_eq_true rfl, by exact Nat.le_of_ble_eq_true rfl⟩) hG (c2 := 0) (s2 := 0) ⟨by exact Nat.le_of_ble_eq_true rfl, by exact Nat.le_of_ble_eq_true rfl⟩ (fun z1 M2 h H locs hG => ?_)
  refine j_contv (va_runS (As := [.int (J z1)]) (rest := []) ⟨hx, hb, hml, hown, hts⟩ (Ao_X10_refuse l h) (va_cwS 1 hts (gj_S ml_RX10_107 i_X10_refuse n_RX10 k_X10_refuse) rfl rfl rfl (by decide +kernel) ⟨by exact Nat.le_of_ble_eq_true rfl, by exact Nat.le_of_ble_eq_true rfl⟩) (j_preS hK hSX hG) rfl rfl hl.1 rfl (lv_room (Nat.le_of_ble_eq_true rfl)) dX10_shift_6 ⟨by exact Nat.le_of_ble_eq_true rfl, by exact Nat.le_of_ble_eq_true rfl⟩) hG (c2 := 0) (s2 := 0) ⟨by exact Nat.le_of_ble_eq_true rfl, by exact Nat.le_of_ble_eq_true rfl⟩ (fun M4 h H locs hG => ?_)
  obtain ⟨h, eM4⟩ := h
  rw [eM4] at hG
  refine lv_iload_n hx hb dX10_shift_9 rfl (lv_at hl 3 rfl) ?_
  refine lv_sipush (v := J (-1440)) hx hb dX10_shift_10 (by decide) ?_
  obtain ⟨K13, hK13, h⟩ := h
  have jK13 : ∀ (x12 : Int), K13 x12 → ∀ (H : Heap) (locs : List Loc), GM D cy o M2 s.heap H locs → ∀ ls : Array Slot, lv_has ls 5 [(0, .ref (rA o a0)), (1, .int (J a1)), (2, .int (J a2)), (3, .int (J a3))] → W p l e rom_X10_shift s m args below meth c H locs 0 0 Qf (F0 m 28 ls [.int (J x12)]) := by
    intro x12 hcK13 H locs hG ls hl
    have h := hK13 x12 hcK13
    refine j_contv (va_runS (As := [.int (J x12)]) (rest := []) ⟨hx, hb, hml, hown, hts⟩ (Ao_X10_needArgument l h) (va_cwS 1 hts (gj_S ml_RX10_72 i_X10_needArgument n_RX10 k_X10_needArgument) rfl rfl rfl (by decide +kernel) ⟨by exact Nat.le_of_ble_eq_true rfl, by exact Nat.le_of_ble_eq_true rfl⟩) (j_preS hK hSX hG) rfl rfl hl.1 rfl (lv_room (Nat.le_of_ble_eq_true rfl)) dX10_shift_28 ⟨by exact Nat.le_of_ble_eq_true rfl, by exact Nat.le_of_ble_eq_true rfl⟩) hG (c2 := 0) (s2 := 0) ⟨by exact Nat.le_of_ble_eq_true rfl, by exact Nat.le_of_ble_eq_true rfl⟩ (fun M15 h H locs hG => ?_)
    obtain ⟨h, eM15⟩ := h
    rw [eM15] at hG
    refine lv_aload_n hx hb dX10_shift_31 rfl (lv_at hl 0 rfl) ?_
    refine j_contv (va_runV (As := []) (rest := []) ⟨hx, hb, hml, hown, hts⟩ (A_X10_remember l ka0 h) (cwV 0 hts (gj_V ml_RX10_111 i_X10_remember s_X10_remember n_RX10 k_X10_remember) rfl rfl rfl (by decide +kernel) ⟨by exact Nat.le_of_ble_eq_true rfl, by exact Nat.le_of_ble_eq_true rfl⟩) (j_preV hK hSX hG (ci := 9) rfl ka0 (by decide)) rfl rfl hl.1 rfl (lv_room (Nat.le_of_ble_eq_true rfl)) dX10_shift_32 ⟨by exact Nat.le_of_ble_eq_true rfl, by exact Nat.le_of_ble_eq_true rfl⟩) hG (c2 := 0) (s2 := 0) ⟨by exact Nat.le_of_ble_eq_true rfl, by exact Nat.le_of_ble_eq_true rfl⟩ (fun M17 h H locs hG => ?_)
    refine lv_aload_n hx hb dX10_shift_35 rfl (lv_at hl 0 rfl) ?_
    refine j_getr hx hb hts hown hK hG (k := a0) (fun w h => List.mem_cons_of_mem _ (u_X10 w h)) (ci := 9) rfl ka0 0 (k2 := a0 + 1) (by decide) (by show a0 + (1 : Int) = a0 + 1; omega) w_fl_RX10_12 dX10_shift_36 ?_
    refine j_getr hx hb hts hown hK hG (k := a0 + 1) (fun w h => List.mem_cons_of_mem _ (u_X0 w h)) (ci := 0) rfl (kf_10_0 ka0) 3 (k2 := a0 + 3) (by decide) (by show (a0 + 1) + (2 : Int) = a0 + 3; omega) w_fl_RX10_269 dX10_shift_39 ?_
    refine lv_iload_n hx hb dX10_shift_42 rfl (lv_at hl 1 rfl) ?_
    obtain ⟨g18, h⟩ := h
    refine j_aald hx hb hK hG (t := 21) (t0 := 4) (k2 := a0 + 2 * a1 + 28) (show kd (a0 + 3) = 21 from (show (a0 + 1) + 2 = a0 + 3 from by omega) ▸ (kf_1_3 (kf_10_0 ka0))) (by decide) rfl g18 (by simp only [ra_21]; omega) dX10_shift_43 ?_
    have k19 : kd (a0 + 2 * a1 + 28) = 4 := by have q9 := (ka_21 (show kd (a0 + 3) = 21 from (show (a0 + 1) + 2 = a0 + 3 from by omega) ▸ (kf_1_3 (kf_10_0 ka0))) g18); rwa [show (a0 + 3) + 25 + 2 * a1 = a0 + 2 * a1 + 28 from by omega] at q9
    refine j_getr hx hb hts hown hK hG (k := a0 + 2 * a1 + 28) (fun w h => List.mem_cons_of_mem _ (u_X4 w h)) (ci := 3) rfl k19 10 (k2 := a0 + 2 * a1 + 29) (by decide) (by show (a0 + 2 * a1 + 28) + (1 : Int) = a0 + 2 * a1 + 29; omega) w_fl_RX10_304 dX10_shift_44 ?_
    refine lv_iload_n hx hb dX10_shift_47 rfl (lv_at hl 2 rfl) ?_
    obtain ⟨g20, h⟩ := h
    refine j_iald hx hb hK hG (n := 40) (show kd (a0 + 2 * a1 + 29) = 1040 from (show (a0 + 2 * a1 + 28) + 1 = a0 + 2 * a1 + 29 from by omega) ▸ (kf_4_10 k19)) (by decide) g20 dX10_shift_48 ?_
    refine j_topi (fun x21 ex21 => ?_)
    have h := h x21 ex21
    refine lv_istore (lv' := [(4, .int (J x21)), (0, .ref (rA o a0)), (1, .int (J a1)), (2, .int (J a2)), (3, .int (J a3))]) hx hb dX10_shift_49 hl (by decide) rfl (fun ls hl => ?_)
    refine lv_aload_n hx hb dX10_shift_51 rfl (lv_at hl 1 rfl) ?_
    refine j_getr hx hb hts hown hK hG (k := a0) (fun w h => List.mem_cons_of_mem _ (u_X10 w h)) (ci := 9) rfl ka0 0 (k2 := a0 + 1) (by decide) (by show a0 + (1 : Int) = a0 + 1; omega) w_fl_RX10_12 dX10_shift_52 ?_
    refine j_getr hx hb hts hown hK hG (k := a0 + 1) (fun w h => List.mem_cons_of_mem _ (u_X0 w h)) (ci := 0) rfl (kf_10_0 ka0) 3 (k2 := a0 + 3) (by decide) (by show (a0 + 1) + (2 : Int) = a0 + 3; omega) w_fl_RX10_269 dX10_shift_55 ?_
    refine lv_iload_n hx hb dX10_shift_58 rfl (lv_at hl 2 rfl) ?_
    refine j_aald hx hb hK hG (t := 21) (t0 := 4) (k2 := a0 + 2 * a1 + 28) (show kd (a0 + 3) = 21 from (show (a0 + 1) + 2 = a0 + 3 from by omega) ▸ (kf_1_3 (kf_10_0 ka0))) (by decide) rfl g18 (by simp only [ra_21]; omega) dX10_shift_59 ?_
    have k22 : kd (a0 + 2 * a1 + 28) = 4 := by have q9 := (ka_21 (show kd (a0 + 3) = 21 from (show (a0 + 1) + 2 = a0 + 3 from by omega) ▸ (kf_1_3 (kf_10_0 ka0))) g18); rwa [show (a0 + 3) + 25 + 2 * a1 = a0 + 2 * a1 + 28 from by omega] at q9
    refine j_getr hx hb hts hown hK hG (k := a0 + 2 * a1 + 28) (fun w h => List.mem_cons_of_mem _ (u_X4 w h)) (ci := 3) rfl k22 10 (k2 := a0 + 2 * a1 + 29) (by decide) (by show (a0 + 2 * a1 + 28) + (1 : Int) = a0 + 2 * a1 + 29; omega) w_fl_RX10_304 dX10_shift_60 ?_
    refine lv_iload_n hx hb dX10_shift_63 rfl (lv_at hl 3 rfl) ?_
    refine lv_iload_n hx hb dX10_shift_64 rfl (lv_at hl 4 rfl) ?_
    refine j_iast hx hb hK hG (n := 40) (show kd (a0 + 2 * a1 + 29) = 1040 from (show (a0 + 2 * a1 + 28) + 1 = a0 + 2 * a1 + 29 from by omega) ▸ (kf_4_10 k22)) (by decide) g20 dX10_shift_65 (fun M23 eM23 H locs hG => ?_)
    have h := h M23 eM23
    refine lv_aload_n hx hb dX10_shift_66 rfl (lv_at hl 1 rfl) ?_
    refine j_getr hx hb hts hown hK hG (k := a0) (fun w h => List.mem_cons_of_mem _ (u_X10 w h)) (ci := 9) rfl ka0 3 (k2 := a0 + 569) (by decide) (by show a0 + (569 : Int) = a0 + 569; omega) w_fl_RX10_32 dX10_shift_67 ?_
    refine lv_iload_n hx hb dX10_shift_70 rfl (lv_at hl 2 rfl) ?_
    refine j_aald hx hb hK hG (t := 24) (t0 := 7) (k2 := a0 + 3 * a1 + 570) (kf_10_3 ka0) (by decide) rfl g18 (by simp only [ra_24]; omega) dX10_shift_71 ?_
    have k24 : kd (a0 + 3 * a1 + 570) = 5 := by have q9 := (ka_24 (kf_10_3 ka0) g18); rwa [show (a0 + 569) + 1 + 3 * a1 = a0 + 3 * a1 + 570 from by omega] at q9
    refine lv_iconst (v := J 0) hx hb dX10_shift_72 (by decide) ?_
    refine j_puti hx hb hts hown hK hG (k := a0 + 3 * a1 + 570) (fun w h => List.mem_cons_of_mem _ (u_X5 w h)) tyX5 tyX5_ok nmX5 (ci := 4) rfl k24 1 (by decide) (jz := 1) rfl w_fl_RX10_307 (hd := rfl) (hn := nar_b (by decide)) (hfit := fit_b (by decide)) (hdg := dX10_shift_73) (fun M25 eM25 H locs hG => ?_)
    have h := h M25 eM25
    refine lv_iload hx hb dX10_shift_76 (lv_at hl 0 rfl) ?_
    rw [hQf]
    exact j_ireti hx hb hr hlocks hG h (by decide) dX10_shift_78
  obtain ⟨K29, hK29, h⟩ := h
  have jK29 : K29 → ∀ (H : Heap) (locs : List Loc), GM D cy o M2 s.heap H locs → ∀ ls : Array Slot, lv_has ls 5 [(0, .ref (rA o a0)), (1, .int (J a1)), (2, .int (J a2)), (3, .int (J a3))] → W p l e rom_X10_shift s m args below meth c H locs 0 0 Qf (F0 m 27 ls []) := by
    intro hcK29 H locs hG ls hl
    have h := hK29 hcK29
    refine lv_iconst (v := J 0) hx hb dX10_shift_27 (by decide) ?_
    exact jK13 0 h H locs hG ls (lv_sub hl [0, 1, 2, 3] rfl)
  obtain ⟨g31, h⟩ := h
  refine j_icmp_lt (tgt := 27) hx hb dX10_shift_13 (by decide) g31 (by decide) (fun c30 => ?_) (fun c30 => ?_)
  · have h := h.1 c30
    exact jK29 h H locs hG ls (lv_sub hl [0, 1, 2, 3] rfl)
  · have h := h.2 c30
    refine lv_iload_n hx hb dX10_shift_16 rfl (lv_at hl 3 rfl) ?_
    refine lv_sipush (v := J 1440) hx hb dX10_shift_17 (by decide) ?_
    refine j_icmp_gt (tgt := 27) hx hb dX10_shift_20 (by decide) g31 (by decide) (fun c32 => ?_) (fun c32 => ?_)
    · have h := h.1 c32
      exact jK29 h H locs hG ls (lv_sub hl [0, 1, 2, 3] rfl)
    · have h := h.2 c32
      refine lv_iconst (v := J 1) hx hb dX10_shift_23 (by decide) ?_
      refine lv_goto (tgt := 28) hx hb dX10_shift_24 (by decide) ?_
      exact jK13 1 h H locs hG ls (lv_sub hl [0, 1, 2, 3] rfl)
abbrev rm_X10_shift : Room := { frames := 8, cells := 1, slots := 6, locals := 144 }
set_option maxRecDepth 100000 in
set_option maxHeartbeats 4000000 in
theorem A_X10_shift (l : Launch) (hst : l.stackTraces = false) {D : va_G} {cy : Nat → ClassId} {o : Nat} {sK sV : Nat → Nat} {M : jT} {a0 : Int} {a1 : Int} {a2 : Int} {a3 : Int} (ka0 : kd a0 = 10) {Q : Int → jT → Prop} {X : Nat → jT → Prop} (h : wp_X10_shift M a0 a1 a2 a3 Q X) : CxI l yX10_shift (wj yX10_shift cX10_shift 5 (some .int)) rm_X10_shift D cy o sK sV M [.ref (rA o a0), .int (J a1), .int (J a2), .int (J a3)] Q X := by
  refine j_ofWx (cc := cX10_shift) (maxL := 5) (ret := (some .int)) (by decide) rfl (Nat.le_of_ble_eq_true rfl) ?_
  intro p e s m args below meth c hx hb hr hlocks hout hml hown hts hK hSX H locs hsz hG ls hl Qf hQf
  have hown : s.vm.findClass RX10 = some m.cls := hown
  have hl : lv_has ls 5 [(0, .ref (rA o a0)), (1, .int (J a1)), (2, .int (J a2)), (3, .int (J a3))] := hl
  have w_fl_RX10_12 := hts _ (List.mem_cons_of_mem _ fl_RX10_12)
  have w_fl_RX10_269 := hts _ (List.mem_cons_of_mem _ fl_RX10_269)
  have w_fl_RX10_304 := hts _ (List.mem_cons_of_mem _ fl_RX10_304)
  have w_fl_RX10_32 := hts _ (List.mem_cons_of_mem _ fl_RX10_32)
  have w_fl_RX10_307 := hts _ (List.mem_cons_of_mem _ fl_RX10_307)
  unfold wp_X10_shift at h
  refine lv_aload_n hx hb dX10_shift_0 rfl (lv_at hl 0 rfl) ?_
  refine lv_iload_n hx hb dX10_shift_1 rfl (lv_at hl 1 rfl) ?_
  refine lv_iload_n hx hb dX10_shift_2 rfl (lv_at hl 2 rfl) ?_
  refine j_conti (va_runV (As := [.int (J a1), .int (J a2)]) (rest := []) ⟨hx, hb, hml, hown, hts⟩ (A_X10_occurrenceFault l ka0 h) (cwV 2 hts (gj_V ml_RX10_298 i_X10_occurrenceFault s_X10_occurrenceFault n_RX10 k_X10_occurrenceFault) rfl rfl rfl (by decide +kernel) ⟨by exact Nat.le_of_ble_eq_true rfl, by exact Nat.le_of_ble_eq_true rfl⟩) (j_preV hK hSX hG (ci := 9) rfl ka0 (by decide)) rfl rfl hl.1 rfl (lv_room (Nat.le_of_ble_eq_true rfl)) dX10_shift_3 ⟨by exact Nat.le_of_ble_eq_true rfl, by exact Nat.le_of_ble_eq_true rfl⟩) hG (c2 := 0) (s2 := 0) ⟨by exact Nat.le_of_ble_eq_true rfl, by exact Nat.le_of_ble_eq_true rfl⟩ (fun z1 M2 h H locs hG => ?_)
  rcases h with h | h
  · refine j_contv (va_runS (As := [.int (J z1)]) (rest := []) ⟨hx, hb, hml, hown, hts⟩ (Ao_X10_refuse l h) (va_cwS 1 hts (gj_S ml_RX10_107 i_X10_refuse n_RX10 k_X10_refuse) rfl rfl rfl (by decide +kernel) ⟨by exact Nat.le_of_ble_eq_true rfl, by exact Nat.le_of_ble_eq_true rfl⟩) (j_preS hK hSX hG) rfl rfl hl.1 rfl (lv_room (Nat.le_of_ble_eq_true rfl)) dX10_shift_6 ⟨by exact Nat.le_of_ble_eq_true rfl, by exact Nat.le_of_ble_eq_true rfl⟩) hG (c2 := 0) (s2 := 0) ⟨by exact Nat.le_of_ble_eq_true rfl, by exact Nat.le_of_ble_eq_true rfl⟩ (fun M4 h H locs hG => ?_)
    obtain ⟨h, eM4⟩ := h
    rw [eM4] at hG
    refine lv_iload_n hx hb dX10_shift_9 rfl (lv_at hl 3 rfl) ?_
    refine lv_sipush (v := J (-1440)) hx hb dX10_shift_10 (by decide) ?_
    obtain ⟨K13, hK13, h⟩ := h
    have jK13 : ∀ (x12 : Int), K13 x12 → ∀ (H : Heap) (locs : List Loc), GM D cy o M2 s.heap H locs → ∀ ls : Array Slot, lv_has ls 5 [(0, .ref (rA o a0)), (1, .int (J a1)), (2, .int (J a2)), (3, .int (J a3))] → W p l e rm_X10_shift s m args below meth c H locs 0 0 Qf (F0 m 28 ls [.int (J x12)]) := by
      intro x12 hcK13 H locs hG ls hl
      have h := hK13 x12 hcK13
      rcases h with h | h
      · refine j_contv (va_runS (As := [.int (J x12)]) (rest := []) ⟨hx, hb, hml, hown, hts⟩ (Ao_X10_needArgument l h) (va_cwS 1 hts (gj_S ml_RX10_72 i_X10_needArgument n_RX10 k_X10_needArgument) rfl rfl rfl (by decide +kernel) ⟨by exact Nat.le_of_ble_eq_true rfl, by exact Nat.le_of_ble_eq_true rfl⟩) (j_preS hK hSX hG) rfl rfl hl.1 rfl (lv_room (Nat.le_of_ble_eq_true rfl)) dX10_shift_28 ⟨by exact Nat.le_of_ble_eq_true rfl, by exact Nat.le_of_ble_eq_true rfl⟩) hG (c2 := 0) (s2 := 0) ⟨by exact Nat.le_of_ble_eq_true rfl, by exact Nat.le_of_ble_eq_true rfl⟩ (fun M15 h H locs hG => ?_)
        obtain ⟨h, eM15⟩ := h
        rw [eM15] at hG
        refine lv_aload_n hx hb dX10_shift_31 rfl (lv_at hl 0 rfl) ?_
        refine j_contv (va_runV (As := []) (rest := []) ⟨hx, hb, hml, hown, hts⟩ (A_X10_remember l ka0 h) (cwV 0 hts (gj_V ml_RX10_111 i_X10_remember s_X10_remember n_RX10 k_X10_remember) rfl rfl rfl (by decide +kernel) ⟨by exact Nat.le_of_ble_eq_true rfl, by exact Nat.le_of_ble_eq_true rfl⟩) (j_preV hK hSX hG (ci := 9) rfl ka0 (by decide)) rfl rfl hl.1 rfl (lv_room (Nat.le_of_ble_eq_true rfl)) dX10_shift_32 ⟨by exact Nat.le_of_ble_eq_true rfl, by exact Nat.le_of_ble_eq_true rfl⟩) hG (c2 := 0) (s2 := 0) ⟨by exact Nat.le_of_ble_eq_true rfl, by exact Nat.le_of_ble_eq_true rfl⟩ (fun M17 h H locs hG => ?_)
        refine lv_aload_n hx hb dX10_shift_35 rfl (lv_at hl 0 rfl) ?_
        refine j_getr hx hb hts hown hK hG (k := a0) (fun w h => List.mem_cons_of_mem _ (u_X10 w h)) (ci := 9) rfl ka0 0 (k2 := a0 + 1) (by decide) (by show a0 + (1 : Int) = a0 + 1; omega) w_fl_RX10_12 dX10_shift_36 ?_
        refine j_getr hx hb hts hown hK hG (k := a0 + 1) (fun w h => List.mem_cons_of_mem _ (u_X0 w h)) (ci := 0) rfl (kf_10_0 ka0) 3 (k2 := a0 + 3) (by decide) (by show (a0 + 1) + (2 : Int) = a0 + 3; omega) w_fl_RX10_269 dX10_shift_39 ?_
        refine lv_iload_n hx hb dX10_shift_42 rfl (lv_at hl 1 rfl) ?_
        obtain ⟨g18, h⟩ := h
        refine j_aald hx hb hK hG (t := 21) (t0 := 4) (k2 := a0 + 2 * a1 + 28) (show kd (a0 + 3) = 21 from (show (a0 + 1) + 2 = a0 + 3 from by omega) ▸ (kf_1_3 (kf_10_0 ka0))) (by decide) rfl g18 (by simp only [ra_21]; omega) dX10_shift_43 ?_
        have k19 : kd (a0 + 2 * a1 + 28) = 4 := by have q9 := (ka_21 (show kd (a0 + 3) = 21 from (show (a0 + 1) + 2 = a0 + 3 from by omega) ▸ (kf_1_3 (kf_10_0 ka0))) g18); rwa [show (a0 + 3) + 25 + 2 * a1 = a0 + 2 * a1 + 28 from by omega] at q9
        refine j_getr hx hb hts hown hK hG (k := a0 + 2 * a1 + 28) (fun w h => List.mem_cons_of_mem _ (u_X4 w h)) (ci := 3) rfl k19 10 (k2 := a0 + 2 * a1 + 29) (by decide) (by show (a0 + 2 * a1 + 28) + (1 : Int) = a0 + 2 * a1 + 29; omega) w_fl_RX10_304 dX10_shift_44 ?_
        refine lv_iload_n hx hb dX10_shift_47 rfl (lv_at hl 2 rfl) ?_
        obtain ⟨g20, h⟩ := h
        refine j_iald hx hb hK hG (n := 40) (show kd (a0 + 2 * a1 + 29) = 1040 from (show (a0 + 2 * a1 + 28) + 1 = a0 + 2 * a1 + 29 from by omega) ▸ (kf_4_10 k19)) (by decide) g20 dX10_shift_48 ?_
        refine j_topi (fun x21 ex21 => ?_)
        have h := h x21 ex21
        refine lv_istore (lv' := [(4, .int (J x21)), (0, .ref (rA o a0)), (1, .int (J a1)), (2, .int (J a2)), (3, .int (J a3))]) hx hb dX10_shift_49 hl (by decide) rfl (fun ls hl => ?_)
        refine lv_aload_n hx hb dX10_shift_51 rfl (lv_at hl 1 rfl) ?_
        refine j_getr hx hb hts hown hK hG (k := a0) (fun w h => List.mem_cons_of_mem _ (u_X10 w h)) (ci := 9) rfl ka0 0 (k2 := a0 + 1) (by decide) (by show a0 + (1 : Int) = a0 + 1; omega) w_fl_RX10_12 dX10_shift_52 ?_
        refine j_getr hx hb hts hown hK hG (k := a0 + 1) (fun w h => List.mem_cons_of_mem _ (u_X0 w h)) (ci := 0) rfl (kf_10_0 ka0) 3 (k2 := a0 + 3) (by decide) (by show (a0 + 1) + (2 : Int) = a0 + 3; omega) w_fl_RX10_269 dX10_shift_55 ?_
        refine lv_iload_n hx hb dX10_shift_58 rfl (lv_at hl 2 rfl) ?_
        refine j_aald hx hb hK hG (t := 21) (t0 := 4) (k2 := a0 + 2 * a1 + 28) (show kd (a0 + 3) = 21 from (show (a0 + 1) + 2 = a0 + 3 from by omega) ▸ (kf_1_3 (kf_10_0 ka0))) (by decide) rfl g18 (by simp only [ra_21]; omega) dX10_shift_59 ?_
        have k22 : kd (a0 + 2 * a1 + 28) = 4 := by have q9 := (ka_21 (show kd (a0 + 3) = 21 from (show (a0 + 1) + 2 = a0 + 3 from by omega) ▸ (kf_1_3 (kf_10_0 ka0))) g18); rwa [show (a0 + 3) + 25 + 2 * a1 = a0 + 2 * a1 + 28 from by omega] at q9
        refine j_getr hx hb hts hown hK hG (k := a0 + 2 * a1 + 28) (fun w h => List.mem_cons_of_mem _ (u_X4 w h)) (ci := 3) rfl k22 10 (k2 := a0 + 2 * a1 + 29) (by decide) (by show (a0 + 2 * a1 + 28) + (1 : Int) = a0 + 2 * a1 + 29; omega) w_fl_RX10_304 dX10_shift_60 ?_
        refine lv_iload_n hx hb dX10_shift_63 rfl (lv_at hl 3 rfl) ?_
        refine lv_iload_n hx hb dX10_shift_64 rfl (lv_at hl 4 rfl) ?_
        refine j_iast hx hb hK hG (n := 40) (show kd (a0 + 2 * a1 + 29) = 1040 from (show (a0 + 2 * a1 + 28) + 1 = a0 + 2 * a1 + 29 from by omega) ▸ (kf_4_10 k22)) (by decide) g20 dX10_shift_65 (fun M23 eM23 H locs hG => ?_)
        have h := h M23 eM23
        refine lv_aload_n hx hb dX10_shift_66 rfl (lv_at hl 1 rfl) ?_
        refine j_getr hx hb hts hown hK hG (k := a0) (fun w h => List.mem_cons_of_mem _ (u_X10 w h)) (ci := 9) rfl ka0 3 (k2 := a0 + 569) (by decide) (by show a0 + (569 : Int) = a0 + 569; omega) w_fl_RX10_32 dX10_shift_67 ?_
        refine lv_iload_n hx hb dX10_shift_70 rfl (lv_at hl 2 rfl) ?_
        refine j_aald hx hb hK hG (t := 24) (t0 := 7) (k2 := a0 + 3 * a1 + 570) (kf_10_3 ka0) (by decide) rfl g18 (by simp only [ra_24]; omega) dX10_shift_71 ?_
        have k24 : kd (a0 + 3 * a1 + 570) = 5 := by have q9 := (ka_24 (kf_10_3 ka0) g18); rwa [show (a0 + 569) + 1 + 3 * a1 = a0 + 3 * a1 + 570 from by omega] at q9
        refine lv_iconst (v := J 0) hx hb dX10_shift_72 (by decide) ?_
        refine j_puti hx hb hts hown hK hG (k := a0 + 3 * a1 + 570) (fun w h => List.mem_cons_of_mem _ (u_X5 w h)) tyX5 tyX5_ok nmX5 (ci := 4) rfl k24 1 (by decide) (jz := 1) rfl w_fl_RX10_307 (hd := rfl) (hn := nar_b (by decide)) (hfit := fit_b (by decide)) (hdg := dX10_shift_73) (fun M25 eM25 H locs hG => ?_)
        have h := h M25 eM25
        refine lv_iload hx hb dX10_shift_76 (lv_at hl 0 rfl) ?_
        rw [hQf]
        exact vx_ret (j_ireti hx hb hr hlocks hG h (by decide) dX10_shift_78)
      · refine j_contxv (vx_runS (As := [.int (J x12)]) (rest := []) ⟨hx, hb, hml, hown, hts⟩ (A_X10_needArgument l hst h) (va_cwS 1 hts (gj_S ml_RX10_72 i_X10_needArgument n_RX10 k_X10_needArgument) rfl rfl rfl (by decide +kernel) ⟨by exact Nat.le_of_ble_eq_true rfl, by exact Nat.le_of_ble_eq_true rfl⟩) (j_preS hK hSX hG) rfl rfl hl.1 rfl (lv_room (Nat.le_of_ble_eq_true rfl)) dX10_shift_28 ⟨by exact Nat.le_of_ble_eq_true rfl, by exact Nat.le_of_ble_eq_true rfl⟩) hG (c2 := 1) (s2 := 6) ⟨by exact Nat.le_of_ble_eq_true rfl, by exact Nat.le_of_ble_eq_true rfl⟩ (fun x M h ce q H locs hG h1 h2 h3 => ?_) (fun M h H locs hG => h.elim)
        rw [hQf]
        exact j_xout hlocks hout hG h h1 h2 h3 (by decide)
    obtain ⟨K29, hK29, h⟩ := h
    have jK29 : K29 → ∀ (H : Heap) (locs : List Loc), GM D cy o M2 s.heap H locs → ∀ ls : Array Slot, lv_has ls 5 [(0, .ref (rA o a0)), (1, .int (J a1)), (2, .int (J a2)), (3, .int (J a3))] → W p l e rm_X10_shift s m args below meth c H locs 0 0 Qf (F0 m 27 ls []) := by
      intro hcK29 H locs hG ls hl
      have h := hK29 hcK29
      refine lv_iconst (v := J 0) hx hb dX10_shift_27 (by decide) ?_
      exact jK13 0 h H locs hG ls (lv_sub hl [0, 1, 2, 3] rfl)
    obtain ⟨g31, h⟩ := h
    refine j_icmp_lt (tgt := 27) hx hb dX10_shift_13 (by decide) g31 (by decide) (fun c30 => ?_) (fun c30 => ?_)
    · have h := h.1 c30
      exact jK29 h H locs hG ls (lv_sub hl [0, 1, 2, 3] rfl)
    · have h := h.2 c30
      refine lv_iload_n hx hb dX10_shift_16 rfl (lv_at hl 3 rfl) ?_
      refine lv_sipush (v := J 1440) hx hb dX10_shift_17 (by decide) ?_
      refine j_icmp_gt (tgt := 27) hx hb dX10_shift_20 (by decide) g31 (by decide) (fun c32 => ?_) (fun c32 => ?_)
      · have h := h.1 c32
        exact jK29 h H locs hG ls (lv_sub hl [0, 1, 2, 3] rfl)
      · have h := h.2 c32
        refine lv_iconst (v := J 1) hx hb dX10_shift_23 (by decide) ?_
        refine lv_goto (tgt := 28) hx hb dX10_shift_24 (by decide) ?_
        exact jK13 1 h H locs hG ls (lv_sub hl [0, 1, 2, 3] rfl)
  · refine j_contxv (vx_runS (As := [.int (J z1)]) (rest := []) ⟨hx, hb, hml, hown, hts⟩ (A_X10_refuse l hst h) (va_cwS 1 hts (gj_S ml_RX10_107 i_X10_refuse n_RX10 k_X10_refuse) rfl rfl rfl (by decide +kernel) ⟨by exact Nat.le_of_ble_eq_true rfl, by exact Nat.le_of_ble_eq_true rfl⟩) (j_preS hK hSX hG) rfl rfl hl.1 rfl (lv_room (Nat.le_of_ble_eq_true rfl)) dX10_shift_6 ⟨by exact Nat.le_of_ble_eq_true rfl, by exact Nat.le_of_ble_eq_true rfl⟩) hG (c2 := 1) (s2 := 6) ⟨by exact Nat.le_of_ble_eq_true rfl, by exact Nat.le_of_ble_eq_true rfl⟩ (fun x M h ce q H locs hG h1 h2 h3 => ?_) (fun M h H locs hG => h.elim)
    rw [hQf]
    exact j_xout hlocks hout hG h h1 h2 h3 (by decide)

abbrev rm_X5_localOf : Room := { frames := 0, cells := 0, slots := 0, locals := 0 }
set_option maxRecDepth 100000 in
set_option maxHeartbeats 4000000 in
theorem A_X5_localOf (l : Launch) {D : va_G} {cy : Nat → ClassId} {o : Nat} {sK sV : Nat → Nat} {M : jT} {a0 : Int} {a1 : Int} {a2 : Int} (ka0 : kd a0 = 5) (ka1 : kd a1 = 4) (h : pg_X5_localOf M a0 a1 a2) : CoI l yX5_localOf (wj yX5_localOf cX5_localOf 3 (some .int)) rm_X5_localOf D cy o sK sV M [.ref (rA o a0), .ref (rA o a1), .int (J a2)] (fun z M9 => z = pf_X5_localOf M a0 a1 a2 ∧ M9 = M) := by
  refine j_ofW (cc := cX5_localOf) (maxL := 3) (ret := (some .int)) (by decide) rfl (Nat.le_of_ble_eq_true rfl) ?_
  intro p e s m args below meth c hx hb hr hlocks hml hown hts hK hSX H locs hG ls hl Qf hQf
  have hown : s.vm.findClass RX5 = some m.cls := hown
  have hl : lv_has ls 3 [(0, .ref (rA o a0)), (1, .ref (rA o a1)), (2, .int (J a2))] := hl
  have w_fl_RX5_9 := hts _ (List.mem_cons_of_mem _ fl_RX5_9)
  have w_fl_RX5_102 := hts _ (List.mem_cons_of_mem _ fl_RX5_102)
  have w_fl_RX5_105 := hts _ (List.mem_cons_of_mem _ fl_RX5_105)
  unfold pg_X5_localOf at h
  refine lv_sipush (v := J 1440) hx hb dX5_localOf_0 (by decide) ?_
  refine lv_aload_n hx hb dX5_localOf_3 rfl (lv_at hl 0 rfl) ?_
  refine j_getr hx hb hts hown hK hG (k := a0) (fun w h => List.mem_cons_of_mem _ (u_X5 w h)) (ci := 4) rfl ka0 3 (k2 := a0 + 1) (by decide) (by show a0 + (1 : Int) = a0 + 1; omega) w_fl_RX5_9 dX5_localOf_4 ?_
  refine lv_iload_n hx hb dX5_localOf_7 rfl (lv_at hl 2 rfl) ?_
  obtain ⟨g1, h⟩ := h
  refine j_iald hx hb hK hG (n := 40) (kf_5_3 ka0) (by decide) g1 dX5_localOf_8 ?_
  refine j_imul hx hb dX5_localOf_9 ?_
  refine lv_aload_n hx hb dX5_localOf_10 rfl (lv_at hl 1 rfl) ?_
  refine j_geti hx hb hts hown hK hG (k := a1) (fun w h => List.mem_cons_of_mem _ (u_X4 w h)) (ci := 3) rfl ka1 2 (by decide) (jz := 2) rfl w_fl_RX5_102 dX5_localOf_11 ?_
  refine j_iadd hx hb dX5_localOf_14 ?_
  refine lv_aload_n hx hb dX5_localOf_15 rfl (lv_at hl 1 rfl) ?_
  refine j_getr hx hb hts hown hK hG (k := a1) (fun w h => List.mem_cons_of_mem _ (u_X4 w h)) (ci := 3) rfl ka1 10 (k2 := a1 + 1) (by decide) (by show a1 + (1 : Int) = a1 + 1; omega) w_fl_RX5_105 dX5_localOf_16 ?_
  refine lv_iload_n hx hb dX5_localOf_19 rfl (lv_at hl 2 rfl) ?_
  refine j_iald hx hb hK hG (n := 40) (kf_4_10 ka1) (by decide) g1 dX5_localOf_20 ?_
  refine j_iadd hx hb dX5_localOf_21 ?_
  rw [hQf]
  exact j_ireti hx hb hr hlocks hG ⟨rfl, rfl⟩ (by decide) dX5_localOf_22

abbrev rm_X5_time : Room := { frames := 3, cells := 0, slots := 0, locals := 71 }
set_option maxRecDepth 100000 in
set_option maxHeartbeats 4000000 in
theorem A_X5_time (l : Launch) {D : va_G} {cy : Nat → ClassId} {o : Nat} {sK sV : Nat → Nat} {M : jT} {a0 : Int} {a1 : Int} {a2 : Int} (ka0 : kd a0 = 5) (ka1 : kd a1 = 4) (ka2 : kd a2 = 7) {Q : jT → Prop} (h : wp_X5_time M a0 a1 a2 Q) : CoV l yX5_time (wj yX5_time cX5_time 5 none) rm_X5_time D cy o sK sV M [.ref (rA o a0), .ref (rA o a1), .ref (rA o a2)] Q := by
  refine j_ofW (cc := cX5_time) (maxL := 5) (ret := none) (by decide) rfl (Nat.le_of_ble_eq_true rfl) ?_
  intro p e s m args below meth c hx hb hr hlocks hml hown hts hK hSX H locs hG ls hl Qf hQf
  have hown : s.vm.findClass RX5 = some m.cls := hown
  have hl : lv_has ls 5 [(0, .ref (rA o a0)), (1, .ref (rA o a1)), (2, .ref (rA o a2))] := hl
  have w_fl_RX5_25 := hts _ (List.mem_cons_of_mem _ fl_RX5_25)
  have w_fl_RX5_22 := hts _ (List.mem_cons_of_mem _ fl_RX5_22)
  have w_fl_RX5_15 := hts _ (List.mem_cons_of_mem _ fl_RX5_15)
  have w_ck_RX5_101 := hts _ (List.mem_cons_of_mem _ ck_RX5_101)
  have w_fl_RX5_93 := hts _ (List.mem_cons_of_mem _ fl_RX5_93)
  unfold wp_X5_time at h
  refine lv_iconst (v := J 0) hx hb dX5_time_0 (by decide) ?_
  refine lv_istore_n (lv' := [(3, .int (J 0)), (0, .ref (rA o a0)), (1, .ref (rA o a1)), (2, .ref (rA o a2))]) hx hb dX5_time_1 rfl hl (by decide) rfl (fun ls hl => ?_)
  obtain ⟨I3, ⟨n4s, iI3⟩, qI3⟩ := h
  have lI3 : ∀ (n4 : Nat) (x1 : Int) (M2 : jT), I3 n4 x1 M2 → ∀ (H : Heap) (locs : List Loc), GM D cy o M2 s.heap H locs → ∀ ls : Array Slot, lv_has ls 5 [(0, .ref (rA o a0)), (1, .ref (rA o a1)), (2, .ref (rA o a2)), (3, .int (J x1))] → W p l e rm_X5_time s m args below meth c H locs 0 0 Qf (F0 m 2 ls []) := by
    intro n4
    induction n4 using Nat.strongRecOn with
    | ind n4 rI3 =>
      intro x1 M2 iI3 H locs hG ls hl
      have h := qI3 n4 x1 M2 iI3
      refine lv_iload_n hx hb dX5_time_2 rfl (lv_at hl 3 rfl) ?_
      refine lv_aload_n hx hb dX5_time_3 rfl (lv_at hl 0 rfl) ?_
      refine j_geti hx hb hts hown hK hG (k := a0) (fun w h => List.mem_cons_of_mem _ (u_X5 w h)) (ci := 4) rfl ka0 2 (by decide) (jz := 2) rfl w_fl_RX5_25 dX5_time_4 ?_
      obtain ⟨g6, h⟩ := h
      obtain ⟨g7, h⟩ := h
      refine j_icmp_ge (tgt := 53) hx hb dX5_time_7 (by decide) g6 g7 (fun c5 => ?_) (fun c5 => ?_)
      · have h := h.1 c5
        refine lv_aload_n hx hb dX5_time_53 rfl (lv_at hl 0 rfl) ?_
        refine lv_iconst (v := J 1) hx hb dX5_time_54 (by decide) ?_
        refine j_puti hx hb hts hown hK hG (k := a0) (fun w h => List.mem_cons_of_mem _ (u_X5 w h)) tyX5 tyX5_ok nmX5 (ci := 4) rfl ka0 1 (by decide) (jz := 1) rfl w_fl_RX5_22 (hd := rfl) (hn := nar_b (by decide)) (hfit := fit_b (by decide)) (hdg := dX5_time_55) (fun M8 eM8 H locs hG => ?_)
        have h := h M8 eM8
        rw [hQf]
        exact j_vret hx hb hr hlocks hG h (by decide) dX5_time_58
      · have h := h.2 c5
        refine lv_aload_n hx hb dX5_time_10 rfl (lv_at hl 0 rfl) ?_
        refine lv_aload_n hx hb dX5_time_11 rfl (lv_at hl 1 rfl) ?_
        refine lv_iload_n hx hb dX5_time_12 rfl (lv_at hl 3 rfl) ?_
        obtain ⟨g9, h⟩ := h
        refine j_conti (va_runV (As := [.ref (rA o a1), .int (J x1)]) (rest := []) ⟨hx, hb, hml, hown, hts⟩ (A_X5_localOf l ka0 ka1 g9) (cwV 2 hts (gj_V ml_RX5_85 i_X5_localOf s_X5_localOf n_RX5 k_X5_localOf) rfl rfl rfl (by decide +kernel) ⟨by exact Nat.le_of_ble_eq_true rfl, by exact Nat.le_of_ble_eq_true rfl⟩) (j_preV hK hSX hG (ci := 4) rfl ka0 (by decide)) rfl rfl hl.1 rfl (lv_room (Nat.le_of_ble_eq_true rfl)) dX5_time_13 ⟨by exact Nat.le_of_ble_eq_true rfl, by exact Nat.le_of_ble_eq_true rfl⟩) hG (c2 := 0) (s2 := 0) ⟨by exact Nat.le_of_ble_eq_true rfl, by exact Nat.le_of_ble_eq_true rfl⟩ (fun z10 M11 ez10 H locs hG => ?_)
        obtain ⟨ez10, eM11⟩ := ez10
        subst ez10
        rw [eM11] at hG
        refine j_topi (fun x12 ex12 => ?_)
        have h := h x12 ex12
        refine lv_istore (lv' := [(4, .int (J x12)), (0, .ref (rA o a0)), (1, .ref (rA o a1)), (2, .ref (rA o a2)), (3, .int (J x1))]) hx hb dX5_time_16 hl (by decide) rfl (fun ls hl => ?_)
        refine lv_aload_n hx hb dX5_time_18 rfl (lv_at hl 1 rfl) ?_
        refine j_getr hx hb hts hown hK hG (k := a0) (fun w h => List.mem_cons_of_mem _ (u_X5 w h)) (ci := 4) rfl ka0 4 (k2 := a0 + 2) (by decide) (by show a0 + (2 : Int) = a0 + 2; omega) w_fl_RX5_15 dX5_time_19 ?_
        refine lv_iload_n hx hb dX5_time_22 rfl (lv_at hl 4 rfl) ?_
        refine lv_iload hx hb dX5_time_23 (lv_at hl 0 rfl) ?_
        obtain ⟨g13, h⟩ := h
        refine j_conti (va_runSN (As := [.int (J x12)]) (rest := [.int (J x1), .ref (rA o (a0 + 2))]) ⟨hx, hb, hml, hown, hts⟩ (A_X10_isLocal l g13) ⟨va_cnB 1 hts (gj_self k_X10_isLocal) rfl rfl rfl (hSX.nest 7 rfl) (hts _ (List.mem_cons_of_mem _ n_RX10)) (by decide +kernel) ⟨by exact Nat.le_of_ble_eq_true rfl, by exact Nat.le_of_ble_eq_true rfl⟩, hts _ (List.mem_cons_of_mem _ i_X10_isLocal), trivial⟩ (j_preS hK hSX hG) rfl rfl hl.1 rfl (lv_room (Nat.le_of_ble_eq_true rfl)) dX5_time_25 ⟨by exact Nat.le_of_ble_eq_true rfl, by exact Nat.le_of_ble_eq_true rfl⟩) hG (c2 := 0) (s2 := 0) ⟨by exact Nat.le_of_ble_eq_true rfl, by exact Nat.le_of_ble_eq_true rfl⟩ (fun z14 M15 ez14 H locs hG => ?_)
        obtain ⟨ez14, eM15⟩ := ez14
        subst ez14
        rw [eM15] at hG
        obtain ⟨K21, hK21, h⟩ := h
        have jK21 : ∀ (x19 : Int) (M20 : jT), K21 x19 M20 → ∀ (H : Heap) (locs : List Loc), GM D cy o M20 s.heap H locs → ∀ ls : Array Slot, lv_has ls 5 [(0, .ref (rA o a0)), (1, .ref (rA o a1)), (2, .ref (rA o a2)), (3, .int (J x1))] → W p l e rm_X5_time s m args below meth c H locs 0 0 Qf (F0 m 46 ls [.int (J x19), .int (J x1), .ref (rA o (a0 + 2))]) := by
          intro x19 M20 hcK21 H locs hG ls hl
          have h := hK21 x19 M20 hcK21
          obtain ⟨g22, h⟩ := h
          refine j_iast hx hb hK hG (n := 40) (kf_5_4 ka0) (by decide) g22 dX5_time_46 (fun M23 eM23 H locs hG => ?_)
          have h := h M23 eM23
          refine j_iinc hx hb dX5_time_47 hl (k := 3) rfl (by decide) (fun x24 ex24 ls hl => ?_)
          have h := h x24 ex24
          have hl : lv_has ls 5 [(3, .int (J x24)), (0, .ref (rA o a0)), (1, .ref (rA o a1)), (2, .ref (rA o a2))] := hl
          refine lv_goto (tgt := 2) hx hb dX5_time_50 (by decide) ?_
          obtain ⟨n25, ln25, iI3⟩ := h
          exact rI3 n25 ln25 x24 M23 iI3 H locs hG ls (lv_sub hl [1, 2, 3, 0] rfl)
        refine j_if_eq_b (tgt := 44) hx hb dX5_time_28 (by decide) (fun c26 => ?_) (fun c26 => ?_)
        · have h := h.1 c26
          refine lv_ldc (v := J (-1000000000)) hx hb hown (show (Cond.constant RX5 101 (J (-1000000000))).before args s = true from w_ck_RX5_101) dX5_time_44 ?_
          exact jK21 ((-1000000000)) M2 h H locs hG ls (lv_sub hl [1, 2, 3, 4] rfl)
        · have h := h.2 c26
          refine lv_aload_n hx hb dX5_time_31 rfl (lv_at hl 3 rfl) ?_
          refine lv_iload hx hb dX5_time_32 (lv_at hl 0 rfl) ?_
          refine lv_aload_n hx hb dX5_time_34 rfl (lv_at hl 2 rfl) ?_
          refine j_geti hx hb hts hown hK hG (k := a1) (fun w h => List.mem_cons_of_mem _ (u_X4 w h)) (ci := 3) rfl ka1 4 (by decide) (jz := 4) rfl w_fl_RX5_93 dX5_time_35 ?_
          refine j_conti (va_runV (As := [.int (J x12), .int (J (M2 a1 4))]) (rest := [.int (J x1), .ref (rA o (a0 + 2))]) ⟨hx, hb, hml, hown, hts⟩ (A_X7_instantOf l ka2 h) (cwV 2 hts (gj_V ml_RX5_96 i_X7_instantOf s_X7_instantOf n_RX7 k_X7_instantOf) rfl rfl rfl (by decide +kernel) ⟨by exact Nat.le_of_ble_eq_true rfl, by exact Nat.le_of_ble_eq_true rfl⟩) (j_preV hK hSX hG (ci := 6) rfl ka2 (by decide)) rfl rfl hl.1 rfl (lv_room (Nat.le_of_ble_eq_true rfl)) dX5_time_38 ⟨by exact Nat.le_of_ble_eq_true rfl, by exact Nat.le_of_ble_eq_true rfl⟩) hG (c2 := 0) (s2 := 0) ⟨by exact Nat.le_of_ble_eq_true rfl, by exact Nat.le_of_ble_eq_true rfl⟩ (fun z27 M28 h H locs hG => ?_)
          refine lv_goto (tgt := 46) hx hb dX5_time_41 (by decide) ?_
          exact jK21 z27 M28 h H locs hG ls (lv_sub hl [1, 2, 3, 4] rfl)
  exact lI3 n4s 0 M iI3 H locs hG ls (lv_sub hl [1, 2, 3, 0] rfl)

abbrev rm_X10_timed : Room := { frames := 4, cells := 0, slots := 0, locals := 99 }
set_option maxRecDepth 100000 in
set_option maxHeartbeats 4000000 in
theorem A_X10_timed (l : Launch) {D : va_G} {cy : Nat → ClassId} {o : Nat} {sK sV : Nat → Nat} {M : jT} {a0 : Int} {a1 : Int} (ka0 : kd a0 = 10) {Q : Int → jT → Prop} (h : wp_X10_timed M a0 a1 Q) : CoR l yX10_timed (wj yX10_timed cX10_timed 3 (some (.object "ZoneCompiler$Plan"))) rm_X10_timed D cy o sK sV M [.ref (rA o a0), .int (J a1)] 5 Q := by
  refine j_ofW (cc := cX10_timed) (maxL := 3) (ret := (some (.object "ZoneCompiler$Plan"))) (by decide) rfl (Nat.le_of_ble_eq_true rfl) ?_
  intro p e s m args below meth c hx hb hr hlocks hml hown hts hK hSX H locs hG ls hl Qf hQf
  have hown : s.vm.findClass RX10 = some m.cls := hown
  have hl : lv_has ls 3 [(0, .ref (rA o a0)), (1, .int (J a1))] := hl
  have w_fl_RX10_307 := hts _ (List.mem_cons_of_mem _ fl_RX10_307)
  have w_fl_RX10_12 := hts _ (List.mem_cons_of_mem _ fl_RX10_12)
  have w_fl_RX10_269 := hts _ (List.mem_cons_of_mem _ fl_RX10_269)
  have w_fl_RX10_311 := hts _ (List.mem_cons_of_mem _ fl_RX10_311)
  unfold wp_X10_timed at h
  refine lv_aload_n hx hb dX10_timed_0 rfl (lv_at hl 0 rfl) ?_
  refine lv_iload_n hx hb dX10_timed_1 rfl (lv_at hl 1 rfl) ?_
  refine j_contr (va_runV (As := [.int (J a1)]) (rest := []) ⟨hx, hb, hml, hown, hts⟩ (A_X10_laidOut l ka0 h) (cwV 1 hts (gj_V ml_RX10_291 i_X10_laidOut s_X10_laidOut n_RX10 k_X10_laidOut) rfl rfl rfl (by decide +kernel) ⟨by exact Nat.le_of_ble_eq_true rfl, by exact Nat.le_of_ble_eq_true rfl⟩) (j_preV hK hSX hG (ci := 9) rfl ka0 (by decide)) rfl rfl hl.1 rfl (lv_room (Nat.le_of_ble_eq_true rfl)) dX10_timed_2 ⟨by exact Nat.le_of_ble_eq_true rfl, by exact Nat.le_of_ble_eq_true rfl⟩) hG (c2 := 0) (s2 := 0) ⟨by exact Nat.le_of_ble_eq_true rfl, by exact Nat.le_of_ble_eq_true rfl⟩ (fun k1 M2 h hk1 H locs hG => ?_)
  refine lv_astore_n (lv' := [(2, .ref (rA o k1)), (0, .ref (rA o a0)), (1, .int (J a1))]) hx hb dX10_timed_5 rfl hl (by decide) rfl (fun ls hl => ?_)
  refine lv_aload_n hx hb dX10_timed_6 rfl (lv_at hl 0 rfl) ?_
  refine j_geti hx hb hts hown hK hG (k := k1) (fun w h => List.mem_cons_of_mem _ (u_X5 w h)) (ci := 4) rfl hk1 1 (by decide) (jz := 1) rfl w_fl_RX10_307 dX10_timed_7 ?_
  obtain ⟨K13, hK13, h⟩ := h
  have jK13 : ∀ (M12 : jT), K13 M12 → ∀ (H : Heap) (locs : List Loc), GM D cy o M12 s.heap H locs → ∀ ls : Array Slot, lv_has ls 3 [(2, .ref (rA o k1))] → W p l e rm_X10_timed s m args below meth c H locs 0 0 Qf (F0 m 42 ls []) := by
    intro M12 hcK13 H locs hG ls hl
    have h := hK13 M12 hcK13
    refine lv_aload_n hx hb dX10_timed_42 rfl (lv_at hl 0 rfl) ?_
    rw [hQf]
    exact j_aretr hx hb hr (Or.inl ⟨_, rfl⟩) hlocks hG hk1 h (by decide) dX10_timed_43
  obtain ⟨g15, h⟩ := h
  refine j_if_ne (tgt := 42) hx hb dX10_timed_10 (by decide) g15 (fun c14 => ?_) (fun c14 => ?_)
  · have h := h.1 c14
    exact jK13 M2 h H locs hG ls (lv_sub hl [0] rfl)
  · have h := h.2 c14
    refine lv_aload_n hx hb dX10_timed_13 rfl (lv_at hl 0 rfl) ?_
    refine lv_aload_n hx hb dX10_timed_14 rfl (lv_at hl 1 rfl) ?_
    refine j_getr hx hb hts hown hK hG (k := a0) (fun w h => List.mem_cons_of_mem _ (u_X10 w h)) (ci := 9) rfl ka0 0 (k2 := a0 + 1) (by decide) (by show a0 + (1 : Int) = a0 + 1; omega) w_fl_RX10_12 dX10_timed_15 ?_
    refine j_getr hx hb hts hown hK hG (k := a0 + 1) (fun w h => List.mem_cons_of_mem _ (u_X0 w h)) (ci := 0) rfl (kf_10_0 ka0) 3 (k2 := a0 + 3) (by decide) (by show (a0 + 1) + (2 : Int) = a0 + 3; omega) w_fl_RX10_269 dX10_timed_18 ?_
    refine lv_iload_n hx hb dX10_timed_21 rfl (lv_at hl 2 rfl) ?_
    obtain ⟨g16, h⟩ := h
    refine j_aald hx hb hK hG (t := 21) (t0 := 4) (k2 := a0 + 2 * a1 + 28) (show kd (a0 + 3) = 21 from (show (a0 + 1) + 2 = a0 + 3 from by omega) ▸ (kf_1_3 (kf_10_0 ka0))) (by decide) rfl g16 (by simp only [ra_21]; omega) dX10_timed_22 ?_
    have k17 : kd (a0 + 2 * a1 + 28) = 4 := by have q9 := (ka_21 (show kd (a0 + 3) = 21 from (show (a0 + 1) + 2 = a0 + 3 from by omega) ▸ (kf_1_3 (kf_10_0 ka0))) g16); rwa [show (a0 + 3) + 25 + 2 * a1 = a0 + 2 * a1 + 28 from by omega] at q9
    refine lv_aload_n hx hb dX10_timed_23 rfl (lv_at hl 1 rfl) ?_
    refine lv_aload_n hx hb dX10_timed_24 rfl (lv_at hl 1 rfl) ?_
    refine j_getr hx hb hts hown hK hG (k := a0) (fun w h => List.mem_cons_of_mem _ (u_X10 w h)) (ci := 9) rfl ka0 0 (k2 := a0 + 1) (by decide) (by show a0 + (1 : Int) = a0 + 1; omega) w_fl_RX10_12 dX10_timed_25 ?_
    refine j_getr hx hb hts hown hK hG (k := a0 + 1) (fun w h => List.mem_cons_of_mem _ (u_X0 w h)) (ci := 0) rfl (kf_10_0 ka0) 3 (k2 := a0 + 3) (by decide) (by show (a0 + 1) + (2 : Int) = a0 + 3; omega) w_fl_RX10_269 dX10_timed_28 ?_
    refine lv_iload_n hx hb dX10_timed_31 rfl (lv_at hl 2 rfl) ?_
    refine j_aald hx hb hK hG (t := 21) (t0 := 4) (k2 := a0 + 2 * a1 + 28) (show kd (a0 + 3) = 21 from (show (a0 + 1) + 2 = a0 + 3 from by omega) ▸ (kf_1_3 (kf_10_0 ka0))) (by decide) rfl g16 (by simp only [ra_21]; omega) dX10_timed_32 ?_
    have k18 : kd (a0 + 2 * a1 + 28) = 4 := by have q9 := (ka_21 (show kd (a0 + 3) = 21 from (show (a0 + 1) + 2 = a0 + 3 from by omega) ▸ (kf_1_3 (kf_10_0 ka0))) g16); rwa [show (a0 + 3) + 25 + 2 * a1 = a0 + 2 * a1 + 28 from by omega] at q9
    refine j_geti hx hb hts hown hK hG (k := a0 + 2 * a1 + 28) (fun w h => List.mem_cons_of_mem _ (u_X4 w h)) (ci := 3) rfl k18 0 (by decide) (jz := 0) rfl w_fl_RX10_311 dX10_timed_33 ?_
    refine j_contr (va_runV (As := [.int (J (M2 (a0 + 2 * a1 + 28) 0))]) (rest := [.ref (rA o (a0 + 2 * a1 + 28)), .ref (rA o k1)]) ⟨hx, hb, hml, hown, hts⟩ (A_X10_compiled l ka0 h) (cwV 1 hts (gj_V ml_RX10_144 i_X10_compiled s_X10_compiled n_RX10 k_X10_compiled) rfl rfl rfl (by decide +kernel) ⟨by exact Nat.le_of_ble_eq_true rfl, by exact Nat.le_of_ble_eq_true rfl⟩) (j_preV hK hSX hG (ci := 9) rfl ka0 (by decide)) rfl rfl hl.1 rfl (lv_room (Nat.le_of_ble_eq_true rfl)) dX10_timed_36 ⟨by exact Nat.le_of_ble_eq_true rfl, by exact Nat.le_of_ble_eq_true rfl⟩) hG (c2 := 0) (s2 := 0) ⟨by exact Nat.le_of_ble_eq_true rfl, by exact Nat.le_of_ble_eq_true rfl⟩ (fun k19 M20 h hk19 H locs hG => ?_)
    refine j_contv (va_runV (As := [.ref (rA o (a0 + 2 * a1 + 28)), .ref (rA o k19)]) (rest := []) ⟨hx, hb, hml, hown, hts⟩ (A_X5_time l hk1 k17 hk19 h) (cwV 2 hts (gj_V ml_RX10_534 i_X5_time s_X5_time n_RX5 k_X5_time) rfl rfl rfl (by decide +kernel) ⟨by exact Nat.le_of_ble_eq_true rfl, by exact Nat.le_of_ble_eq_true rfl⟩) (j_preV hK hSX hG (ci := 4) rfl hk1 (by decide)) rfl rfl hl.1 rfl (lv_room (Nat.le_of_ble_eq_true rfl)) dX10_timed_39 ⟨by exact Nat.le_of_ble_eq_true rfl, by exact Nat.le_of_ble_eq_true rfl⟩) hG (c2 := 0) (s2 := 0) ⟨by exact Nat.le_of_ble_eq_true rfl, by exact Nat.le_of_ble_eq_true rfl⟩ (fun M22 h H locs hG => ?_)
    exact jK13 M22 h H locs hG ls (lv_sub hl [0] rfl)

abbrev rm_X5_takesPlace : Room := { frames := 1, cells := 0, slots := 0, locals := 21 }
set_option maxRecDepth 100000 in
set_option maxHeartbeats 4000000 in
theorem A_X5_takesPlace (l : Launch) {D : va_G} {cy : Nat → ClassId} {o : Nat} {sK sV : Nat → Nat} {M : jT} {a0 : Int} {a1 : Int} {a2 : Int} (ka0 : kd a0 = 5) (ka1 : kd a1 = 4) (h : pg_X5_takesPlace M a0 a1 a2) : CoI l yX5_takesPlace (wj yX5_takesPlace cX5_takesPlace 3 (some .boolean)) rm_X5_takesPlace D cy o sK sV M [.ref (rA o a0), .ref (rA o a1), .int (J a2)] (fun z M9 => z = b2i (pb_X5_takesPlace M a0 a1 a2) ∧ M9 = M) := by
  refine j_ofW (cc := cX5_takesPlace) (maxL := 3) (ret := (some .boolean)) (by decide) rfl (Nat.le_of_ble_eq_true rfl) ?_
  intro p e s m args below meth c hx hb hr hlocks hml hown hts hK hSX H locs hG ls hl Qf hQf
  have hown : s.vm.findClass RX5 = some m.cls := hown
  have hl : lv_has ls 3 [(0, .ref (rA o a0)), (1, .ref (rA o a1)), (2, .int (J a2))] := hl
  have w_fl_RX5_15 := hts _ (List.mem_cons_of_mem _ fl_RX5_15)
  have w_ck_RX5_101 := hts _ (List.mem_cons_of_mem _ ck_RX5_101)
  unfold pg_X5_takesPlace at h
  refine lv_aload_n hx hb dX5_takesPlace_0 rfl (lv_at hl 0 rfl) ?_
  refine j_getr hx hb hts hown hK hG (k := a0) (fun w h => List.mem_cons_of_mem _ (u_X5 w h)) (ci := 4) rfl ka0 4 (k2 := a0 + 2) (by decide) (by show a0 + (2 : Int) = a0 + 2; omega) w_fl_RX5_15 dX5_takesPlace_1 ?_
  refine lv_iload_n hx hb dX5_takesPlace_4 rfl (lv_at hl 2 rfl) ?_
  obtain ⟨g1, h⟩ := h
  refine j_iald hx hb hK hG (n := 40) (kf_5_4 ka0) (by decide) g1 dX5_takesPlace_5 ?_
  refine lv_ldc (v := J (-1000000000)) hx hb hown (show (Cond.constant RX5 101 (J (-1000000000))).before args s = true from w_ck_RX5_101) dX5_takesPlace_6 ?_
  obtain ⟨g3, h⟩ := h
  refine j_icmp_eq (tgt := 23) hx hb dX5_takesPlace_8 (by decide) g3 (by decide) (fun c2 => ?_) (fun c2 => ?_)
  · have h := h.1 c2
    refine lv_iconst (v := J 0) hx hb dX5_takesPlace_23 (by decide) ?_
    rw [hQf]
    exact j_iretn hx hb hr hlocks (nar_b (by decide)) hG ⟨(b2i_iff0 (iff_of_false (fun q8 => (show ¬ (M (a0 + 2) a2 ≠ (-1000000000)) from by omega) q8.1) id)), rfl⟩ (by decide) dX5_takesPlace_24
  · have h := h.2 c2
    refine lv_aload_n hx hb dX5_takesPlace_11 rfl (lv_at hl 1 rfl) ?_
    refine lv_iload_n hx hb dX5_takesPlace_12 rfl (lv_at hl 2 rfl) ?_
    obtain ⟨g4, h⟩ := h
    refine j_conti (va_runV (As := [.int (J a2)]) (rest := []) ⟨hx, hb, hml, hown, hts⟩ (A_X4_isCancelled l ka1 g4) (cwV 1 hts (gj_V ml_RX5_108 i_X4_isCancelled s_X4_isCancelled n_RX4 k_X4_isCancelled) rfl rfl rfl (by decide +kernel) ⟨by exact Nat.le_of_ble_eq_true rfl, by exact Nat.le_of_ble_eq_true rfl⟩) (j_preV hK hSX hG (ci := 3) rfl ka1 (by decide)) rfl rfl hl.1 rfl (lv_room (Nat.le_of_ble_eq_true rfl)) dX5_takesPlace_13 ⟨by exact Nat.le_of_ble_eq_true rfl, by exact Nat.le_of_ble_eq_true rfl⟩) hG (c2 := 0) (s2 := 0) ⟨by exact Nat.le_of_ble_eq_true rfl, by exact Nat.le_of_ble_eq_true rfl⟩ (fun z5 M6 ez5 H locs hG => ?_)
    obtain ⟨ez5, eM6⟩ := ez5
    subst ez5
    rw [eM6] at hG
    refine j_if_ne_b (tgt := 23) hx hb dX5_takesPlace_16 (by decide) (fun c7 => ?_) (fun c7 => ?_)
    · have h := h.1 c7
      refine lv_iconst (v := J 0) hx hb dX5_takesPlace_23 (by decide) ?_
      rw [hQf]
      exact j_iretn hx hb hr hlocks (nar_b (by decide)) hG ⟨(b2i_iff0 ((and_iff_right c2).trans (iff_of_false (fun q9 => q9 c7) id))), rfl⟩ (by decide) dX5_takesPlace_24
    · have h := h.2 c7
      refine lv_iconst (v := J 1) hx hb dX5_takesPlace_19 (by decide) ?_
      refine lv_goto (tgt := 24) hx hb dX5_takesPlace_20 (by decide) ?_
      rw [hQf]
      exact j_iretn hx hb hr hlocks (nar_b (by decide)) hG ⟨(b2i_iff1 ((and_iff_right c2).trans (iff_of_true c7 trivial))), rfl⟩ (by decide) dX5_takesPlace_24

abbrev rm_X5_countTaking : Room := { frames := 2, cells := 0, slots := 0, locals := 43 }
set_option maxRecDepth 100000 in
set_option maxHeartbeats 4000000 in
theorem A_X5_countTaking (l : Launch) {D : va_G} {cy : Nat → ClassId} {o : Nat} {sK sV : Nat → Nat} {M : jT} {a0 : Int} {a1 : Int} (ka0 : kd a0 = 5) (ka1 : kd a1 = 4) {Q : Int → Prop} (h : wp_X5_countTaking M a0 a1 Q) : CoI l yX5_countTaking (wj yX5_countTaking cX5_countTaking 4 (some .int)) rm_X5_countTaking D cy o sK sV M [.ref (rA o a0), .ref (rA o a1)] (fun z M9 => Q z ∧ M9 = M) := by
  refine j_ofW (cc := cX5_countTaking) (maxL := 4) (ret := (some .int)) (by decide) rfl (Nat.le_of_ble_eq_true rfl) ?_
  intro p e s m args below meth c hx hb hr hlocks hml hown hts hK hSX H locs hG ls hl Qf hQf
  have hown : s.vm.findClass RX5 = some m.cls := hown
  have hl : lv_has ls 4 [(0, .ref (rA o a0)), (1, .ref (rA o a1))] := hl
  have w_fl_RX5_25 := hts _ (List.mem_cons_of_mem _ fl_RX5_25)
  unfold wp_X5_countTaking at h
  refine lv_iconst (v := J 0) hx hb dX5_countTaking_0 (by decide) ?_
  refine lv_istore_n (lv' := [(2, .int (J 0)), (0, .ref (rA o a0)), (1, .ref (rA o a1))]) hx hb dX5_countTaking_1 rfl hl (by decide) rfl (fun ls hl => ?_)
  refine lv_iconst (v := J 0) hx hb dX5_countTaking_2 (by decide) ?_
  refine lv_istore_n (lv' := [(3, .int (J 0)), (2, .int (J 0)), (0, .ref (rA o a0)), (1, .ref (rA o a1))]) hx hb dX5_countTaking_3 rfl hl (by decide) rfl (fun ls hl => ?_)
  obtain ⟨I3, ⟨n4s, iI3⟩, qI3⟩ := h
  have lI3 : ∀ (n4 : Nat) (x1 : Int) (x2 : Int), I3 n4 x1 x2 → ∀ (H : Heap) (locs : List Loc), GM D cy o M s.heap H locs → ∀ ls : Array Slot, lv_has ls 4 [(0, .ref (rA o a0)), (1, .ref (rA o a1)), (2, .int (J x1)), (3, .int (J x2))] → W p l e rm_X5_countTaking s m args below meth c H locs 0 0 Qf (F0 m 4 ls []) := by
    intro n4
    induction n4 using Nat.strongRecOn with
    | ind n4 rI3 =>
      intro x1 x2 iI3 H locs hG ls hl
      have h := qI3 n4 x1 x2 iI3
      refine lv_iload_n hx hb dX5_countTaking_4 rfl (lv_at hl 3 rfl) ?_
      refine lv_aload_n hx hb dX5_countTaking_5 rfl (lv_at hl 0 rfl) ?_
      refine j_geti hx hb hts hown hK hG (k := a0) (fun w h => List.mem_cons_of_mem _ (u_X5 w h)) (ci := 4) rfl ka0 2 (by decide) (jz := 2) rfl w_fl_RX5_25 dX5_countTaking_6 ?_
      obtain ⟨g6, h⟩ := h
      obtain ⟨g7, h⟩ := h
      refine j_icmp_ge (tgt := 35) hx hb dX5_countTaking_9 (by decide) g6 g7 (fun c5 => ?_) (fun c5 => ?_)
      · have h := h.1 c5
        refine lv_iload_n hx hb dX5_countTaking_35 rfl (lv_at hl 2 rfl) ?_
        rw [hQf]
        exact j_ireti hx hb hr hlocks hG ⟨h, rfl⟩ (by decide) dX5_countTaking_36
      · have h := h.2 c5
        refine lv_iload_n hx hb dX5_countTaking_12 rfl (lv_at hl 2 rfl) ?_
        refine lv_aload_n hx hb dX5_countTaking_13 rfl (lv_at hl 0 rfl) ?_
        refine lv_aload_n hx hb dX5_countTaking_14 rfl (lv_at hl 1 rfl) ?_
        refine lv_iload_n hx hb dX5_countTaking_15 rfl (lv_at hl 3 rfl) ?_
        obtain ⟨g8, h⟩ := h
        refine j_conti (va_runV (As := [.ref (rA o a1), .int (J x2)]) (rest := [.int (J x1)]) ⟨hx, hb, hml, hown, hts⟩ (A_X5_takesPlace l ka0 ka1 g8) (cwV 2 hts (gj_V ml_RX5_111 i_X5_takesPlace s_X5_takesPlace n_RX5 k_X5_takesPlace) rfl rfl rfl (by decide +kernel) ⟨by exact Nat.le_of_ble_eq_true rfl, by exact Nat.le_of_ble_eq_true rfl⟩) (j_preV hK hSX hG (ci := 4) rfl ka0 (by decide)) rfl rfl hl.1 rfl (lv_room (Nat.le_of_ble_eq_true rfl)) dX5_countTaking_16 ⟨by exact Nat.le_of_ble_eq_true rfl, by exact Nat.le_of_ble_eq_true rfl⟩) hG (c2 := 0) (s2 := 0) ⟨by exact Nat.le_of_ble_eq_true rfl, by exact Nat.le_of_ble_eq_true rfl⟩ (fun z9 M10 ez9 H locs hG => ?_)
        obtain ⟨ez9, eM10⟩ := ez9
        subst ez9
        rw [eM10] at hG
        obtain ⟨hg, h⟩ := h
        have jK13 : ∀ x12 : Int, x12 = b2i (pb_X5_takesPlace M a0 a1 x2) → ∀ (H : Heap) (locs : List Loc), GM D cy o M s.heap H locs → ∀ ls : Array Slot, lv_has ls 4 [(0, .ref (rA o a0)), (1, .ref (rA o a1)), (3, .int (J x2))] → W p l e rm_X5_countTaking s m args below meth c H locs 0 0 Qf (F0 m 27 ls [.int (J x12), .int (J x1)]) := by
          intro x12 ex12 H locs hG ls hl
          subst ex12
          refine j_iadd hx hb dX5_countTaking_27 ?_
          refine j_topi (fun x15 ex15 => ?_)
          have h := h x15 ex15
          refine lv_istore_n (lv' := [(2, .int (J x15)), (0, .ref (rA o a0)), (1, .ref (rA o a1)), (3, .int (J x2))]) hx hb dX5_countTaking_28 rfl hl (by decide) rfl (fun ls hl => ?_)
          refine j_iinc hx hb dX5_countTaking_29 hl (k := 3) rfl (by decide) (fun x16 ex16 ls hl => ?_)
          have h := h x16 ex16
          have hl : lv_has ls 4 [(3, .int (J x16)), (2, .int (J x15)), (0, .ref (rA o a0)), (1, .ref (rA o a1))] := hl
          refine lv_goto (tgt := 4) hx hb dX5_countTaking_32 (by decide) ?_
          obtain ⟨n17, ln17, iI3⟩ := h
          exact rI3 n17 ln17 x15 x16 iI3 H locs hG ls (lv_sub hl [2, 3, 1, 0] rfl)
        have h := hg
        refine j_if_eq_b (tgt := 26) hx hb dX5_countTaking_19 (by decide) (fun c14 => ?_) (fun c14 => ?_)
        · have h := h.1 c14
          refine lv_iconst (v := J 0) hx hb dX5_countTaking_26 (by decide) ?_
          exact jK13 0 (b2i_iff0 (iff_of_false c14 id)) H locs hG ls (lv_sub hl [0, 1, 3] rfl)
        · have h := h.2 c14
          refine lv_iconst (v := J 1) hx hb dX5_countTaking_22 (by decide) ?_
          refine lv_goto (tgt := 27) hx hb dX5_countTaking_23 (by decide) ?_
          exact jK13 1 (b2i_iff1 (iff_of_true c14 trivial)) H locs hG ls (lv_sub hl [0, 1, 3] rfl)
  exact lI3 n4s 0 0 iI3 H locs hG ls (lv_sub hl [2, 3, 1, 0] rfl)

abbrev rom_X10_meeting : Room := { frames := 5, cells := 0, slots := 0, locals := 121 }
set_option maxRecDepth 100000 in
set_option maxHeartbeats 4000000 in
theorem Ao_X10_meeting (l : Launch) {D : va_G} {cy : Nat → ClassId} {o : Nat} {sK sV : Nat → Nat} {M : jT} {a0 : Int} {a1 : Int} {a2 : Int} (ka0 : kd a0 = 10) {Q : Int → jT → Prop} (h : wo_X10_meeting M a0 a1 a2 Q) : CoI l yX10_meeting (wj yX10_meeting cX10_meeting 4 (some .int)) rom_X10_meeting D cy o sK sV M [.ref (rA o a0), .int (J a1), .int (J a2)] Q := by
  refine j_ofW (cc := cX10_meeting) (maxL := 4) (ret := (some .int)) (by decide) rfl (Nat.le_of_ble_eq_true rfl) ?_
  intro p e s m args below meth c hx hb hr hlocks hml hown hts hK hSX H locs hG ls hl Qf hQf
  have hown : s.vm.findClass RX10 = some m.cls := hown
  have hl : lv_has ls 4 [(0, .ref (rA o a0)), (1, .int (J a1)), (2, .int (J a2))] := hl
  have w_fl_RX10_12 := hts _ (List.mem_cons_of_mem _ fl_RX10_12)
  have w_fl_RX10_269 := hts _ (List.mem_cons_of_mem _ fl_RX10_269)
  have w_fl_RX10_311 := hts _ (List.mem_cons_of_mem _ fl_RX10_311)
  have w_fl_RX10_314 := hts _ (List.mem_cons_of_mem _ fl_RX10_314)
  have w_fl_RX10_317 := hts _ (List.mem_cons_of_mem _ fl_RX10_317)
  have w_fl_RX10_320 := hts _ (List.mem_cons_of_mem _ fl_RX10_320)
  have w_fl_RX10_323 := hts _ (List.mem_cons_of_mem _ fl_RX10_323)
  have w_fl_RX10_326 := hts _ (List.mem_cons_of_mem _ fl_RX10_326)
  have w_fl_RX10_329 := hts _ (List.mem_cons_of_mem _ fl_RX10_329)
  have w_fl_RX10_332 := hts _ (List.mem_cons_of_mem _ fl_RX10_332)
  have w_fl_RX10_295 := hts _ (List.mem_cons_of_mem _ fl_RX10_295)
  unfold wo_X10_meeting at h
  refine lv_aload_n hx hb dX10_meeting_0 rfl (lv_at hl 0 rfl) ?_
  refine lv_iload_n hx hb dX10_meeting_1 rfl (lv_at hl 1 rfl) ?_
  refine j_contv (va_runV (As := [.int (J a1)]) (rest := []) ⟨hx, hb, hml, hown, hts⟩ (Ao_X10_needMeeting l ka0 h) (cwV 1 hts (gj_V ml_RX10_281 i_X10_needMeeting s_X10_needMeeting n_RX10 k_X10_needMeeting) rfl rfl rfl (by decide +kernel) ⟨by exact Nat.le_of_ble_eq_true rfl, by exact Nat.le_of_ble_eq_true rfl⟩) (j_preV hK hSX hG (ci := 9) rfl ka0 (by decide)) rfl rfl hl.1 rfl (lv_room (Nat.le_of_ble_eq_true rfl)) dX10_meeting_2 ⟨by exact Nat.le_of_ble_eq_true rfl, by exact Nat.le_of_ble_eq_true rfl⟩) hG (c2 := 0) (s2 := 0) ⟨by exact Nat.le_of_ble_eq_true rfl, by exact Nat.le_of_ble_eq_true rfl⟩ (fun M2 h H locs hG => ?_)
  obtain ⟨h, eM2⟩ := h
  rw [eM2] at hG
  refine lv_iload_n hx hb dX10_meeting_5 rfl (lv_at hl 2 rfl) ?_
  obtain ⟨K11, hK11, h⟩ := h
  have jK11 : ∀ (x10 : Int), K11 x10 → ∀ (H : Heap) (locs : List Loc), GM D cy o M s.heap H locs → ∀ ls : Array Slot, lv_has ls 4 [(0, .ref (rA o a0)), (1, .int (J a1)), (2, .int (J a2))] → W p l e rom_X10_meeting s m args below meth c H locs 0 0 Qf (F0 m 20 ls [.int (J x10)]) := by
    intro x10 hcK11 H locs hG ls hl
    have h := hK11 x10 hcK11
    refine j_contv (va_runS (As := [.int (J x10)]) (rest := []) ⟨hx, hb, hml, hown, hts⟩ (Ao_X10_needArgument l h) (va_cwS 1 hts (gj_S ml_RX10_72 i_X10_needArgument n_RX10 k_X10_needArgument) rfl rfl rfl (by decide +kernel) ⟨by exact Nat.le_of_ble_eq_true rfl, by exact Nat.le_of_ble_eq_true rfl⟩) (j_preS hK hSX hG) rfl rfl hl.1 rfl (lv_room (Nat.le_of_ble_eq_true rfl)) dX10_meeting_20 ⟨by exact Nat.le_of_ble_eq_true rfl, by exact Nat.le_of_ble_eq_true rfl⟩) hG (c2 := 0) (s2 := 0) ⟨by exact Nat.le_of_ble_eq_true rfl, by exact Nat.le_of_ble_eq_true rfl⟩ (fun M13 h H locs hG => ?_)
    obtain ⟨h, eM13⟩ := h
    rw [eM13] at hG
    refine lv_aload_n hx hb dX10_meeting_23 rfl (lv_at hl 0 rfl) ?_
    refine j_getr hx hb hts hown hK hG (k := a0) (fun w h => List.mem_cons_of_mem _ (u_X10 w h)) (ci := 9) rfl ka0 0 (k2 := a0 + 1) (by decide) (by show a0 + (1 : Int) = a0 + 1; omega) w_fl_RX10_12 dX10_meeting_24 ?_
    refine j_getr hx hb hts hown hK hG (k := a0 + 1) (fun w h => List.mem_cons_of_mem _ (u_X0 w h)) (ci := 0) rfl (kf_10_0 ka0) 3 (k2 := a0 + 3) (by decide) (by show (a0 + 1) + (2 : Int) = a0 + 3; omega) w_fl_RX10_269 dX10_meeting_27 ?_
    refine lv_iload_n hx hb dX10_meeting_30 rfl (lv_at hl 1 rfl) ?_
    obtain ⟨g14, h⟩ := h
    refine j_aald hx hb hK hG (t := 21) (t0 := 4) (k2 := a0 + 2 * a1 + 28) (show kd (a0 + 3) = 21 from (show (a0 + 1) + 2 = a0 + 3 from by omega) ▸ (kf_1_3 (kf_10_0 ka0))) (by decide) rfl g14 (by simp only [ra_21]; omega) dX10_meeting_31 ?_
    have k15 : kd (a0 + 2 * a1 + 28) = 4 := by have q9 := (ka_21 (show kd (a0 + 3) = 21 from (show (a0 + 1) + 2 = a0 + 3 from by omega) ▸ (kf_1_3 (kf_10_0 ka0))) g14); rwa [show (a0 + 3) + 25 + 2 * a1 = a0 + 2 * a1 + 28 from by omega] at q9
    refine lv_astore_n (lv' := [(3, .ref (rA o (a0 + 2 * a1 + 28))), (0, .ref (rA o a0)), (1, .int (J a1)), (2, .int (J a2))]) hx hb dX10_meeting_32 rfl hl (by decide) rfl (fun ls hl => ?_)
    refine lv_iload_n hx hb dX10_meeting_33 rfl (lv_at hl 3 rfl) ?_
    obtain ⟨g16, h⟩ := h
    rcases em_eqI (a2) 0 with c17 | c17_0
    · refine j_tsw hx hb dX10_meeting_34 g16 (k := 0) (tgt := 84) c17 ⟨by decide, by decide, rfl⟩ (by decide) ?_
      have h := h.1 c17
      refine lv_aload_n hx hb dX10_meeting_84 rfl (lv_at hl 0 rfl) ?_
      refine j_geti hx hb hts hown hK hG (k := a0 + 2 * a1 + 28) (fun w h => List.mem_cons_of_mem _ (u_X4 w h)) (ci := 3) rfl k15 0 (by decide) (jz := 0) rfl w_fl_RX10_311 dX10_meeting_85 ?_
      rw [hQf]
      exact j_ireti hx hb hr hlocks hG h (by decide) dX10_meeting_88
    · rcases em_eqI (a2) 1 with c17 | c17_1
      · refine j_tsw hx hb dX10_meeting_34 g16 (k := 1) (tgt := 89) c17 ⟨by decide, by decide, rfl⟩ (by decide) ?_
        have h := h.2.1 c17
        refine lv_aload_n hx hb dX10_meeting_89 rfl (lv_at hl 0 rfl) ?_
        refine j_geti hx hb hts hown hK hG (k := a0 + 2 * a1 + 28) (fun w h => List.mem_cons_of_mem _ (u_X4 w h)) (ci := 3) rfl k15 1 (by decide) (jz := 1) rfl w_fl_RX10_314 dX10_meeting_90 ?_
        rw [hQf]
        exact j_ireti hx hb hr hlocks hG h (by decide) dX10_meeting_93
      · rcases em_eqI (a2) 2 with c17 | c17_2
        · refine j_tsw hx hb dX10_meeting_34 g16 (k := 2) (tgt := 94) c17 ⟨by decide, by decide, rfl⟩ (by decide) ?_
          have h := h.2.2.1 c17
          refine lv_aload_n hx hb dX10_meeting_94 rfl (lv_at hl 0 rfl) ?_
          refine j_geti hx hb hts hown hK hG (k := a0 + 2 * a1 + 28) (fun w h => List.mem_cons_of_mem _ (u_X4 w h)) (ci := 3) rfl k15 2 (by decide) (jz := 2) rfl w_fl_RX10_317 dX10_meeting_95 ?_
          rw [hQf]
          exact j_ireti hx hb hr hlocks hG h (by decide) dX10_meeting_98
        · rcases em_eqI (a2) 3 with c17 | c17_3
          · refine j_tsw hx hb dX10_meeting_34 g16 (k := 3) (tgt := 99) c17 ⟨by decide, by decide, rfl⟩ (by decide) ?_
            have h := h.2.2.2.1 c17
            refine lv_aload_n hx hb dX10_meeting_99 rfl (lv_at hl 0 rfl) ?_
            refine j_geti hx hb hts hown hK hG (k := a0 + 2 * a1 + 28) (fun w h => List.mem_cons_of_mem _ (u_X4 w h)) (ci := 3) rfl k15 3 (by decide) (jz := 3) rfl w_fl_RX10_320 dX10_meeting_100 ?_
            rw [hQf]
            exact j_ireti hx hb hr hlocks hG h (by decide) dX10_meeting_103
          · rcases em_eqI (a2) 4 with c17 | c17_4
            · refine j_tsw hx hb dX10_meeting_34 g16 (k := 4) (tgt := 104) c17 ⟨by decide, by decide, rfl⟩ (by decide) ?_
              have h := h.2.2.2.2.1 c17
              refine lv_aload_n hx hb dX10_meeting_104 rfl (lv_at hl 0 rfl) ?_
              refine j_geti hx hb hts hown hK hG (k := a0 + 2 * a1 + 28) (fun w h => List.mem_cons_of_mem _ (u_X4 w h)) (ci := 3) rfl k15 4 (by decide) (jz := 4) rfl w_fl_RX10_323 dX10_meeting_105 ?_
              rw [hQf]
              exact j_ireti hx hb hr hlocks hG h (by decide) dX10_meeting_108
            · rcases em_eqI (a2) 5 with c17 | c17_5
              · refine j_tsw hx hb dX10_meeting_34 g16 (k := 5) (tgt := 109) c17 ⟨by decide, by decide, rfl⟩ (by decide) ?_
                have h := h.2.2.2.2.2.1 c17
                refine lv_aload_n hx hb dX10_meeting_109 rfl (lv_at hl 0 rfl) ?_
                refine j_geti hx hb hts hown hK hG (k := a0 + 2 * a1 + 28) (fun w h => List.mem_cons_of_mem _ (u_X4 w h)) (ci := 3) rfl k15 6 (by decide) (jz := 6) rfl w_fl_RX10_326 dX10_meeting_110 ?_
                rw [hQf]
                exact j_ireti hx hb hr hlocks hG h (by decide) dX10_meeting_113
              · rcases em_eqI (a2) 6 with c17 | c17_6
                · refine j_tsw hx hb dX10_meeting_34 g16 (k := 6) (tgt := 114) c17 ⟨by decide, by decide, rfl⟩ (by decide) ?_
                  have h := h.2.2.2.2.2.2.1 c17
                  refine lv_aload_n hx hb dX10_meeting_114 rfl (lv_at hl 0 rfl) ?_
                  refine j_geti hx hb hts hown hK hG (k := a0 + 2 * a1 + 28) (fun w h => List.mem_cons_of_mem _ (u_X4 w h)) (ci := 3) rfl k15 7 (by decide) (jz := 7) rfl w_fl_RX10_329 dX10_meeting_115 ?_
                  rw [hQf]
                  exact j_ireti hx hb hr hlocks hG h (by decide) dX10_meeting_118
                · rcases em_eqI (a2) 7 with c17 | c17_7
                  · refine j_tsw hx hb dX10_meeting_34 g16 (k := 7) (tgt := 119) c17 ⟨by decide, by decide, rfl⟩ (by decide) ?_
                    have h := h.2.2.2.2.2.2.2.1 c17
                    refine lv_aload_n hx hb dX10_meeting_119 rfl (lv_at hl 0 rfl) ?_
                    refine j_geti hx hb hts hown hK hG (k := a0 + 2 * a1 + 28) (fun w h => List.mem_cons_of_mem _ (u_X4 w h)) (ci := 3) rfl k15 8 (by decide) (jz := 8) rfl w_fl_RX10_332 dX10_meeting_120 ?_
                    rw [hQf]
                    exact j_ireti hx hb hr hlocks hG h (by decide) dX10_meeting_123
                  · rcases em_eqI (a2) 8 with c17 | c17_8
                    · refine j_tsw hx hb dX10_meeting_34 g16 (k := 8) (tgt := 124) c17 ⟨by decide, by decide, rfl⟩ (by decide) ?_
                      have h := h.2.2.2.2.2.2.2.2.1 c17
                      refine lv_aload_n hx hb dX10_meeting_124 rfl (lv_at hl 1 rfl) ?_
                      refine lv_iload_n hx hb dX10_meeting_125 rfl (lv_at hl 2 rfl) ?_
                      refine j_contr (va_runV (As := [.int (J a1)]) (rest := []) ⟨hx, hb, hml, hown, hts⟩ (A_X10_laidOut l ka0 h) (cwV 1 hts (gj_V ml_RX10_291 i_X10_laidOut s_X10_laidOut n_RX10 k_X10_laidOut) rfl rfl rfl (by decide +kernel) ⟨by exact Nat.le_of_ble_eq_true rfl, by exact Nat.le_of_ble_eq_true rfl⟩) (j_preV hK hSX hG (ci := 9) rfl ka0 (by decide)) rfl rfl hl.1 rfl (lv_room (Nat.le_of_ble_eq_true rfl)) dX10_meeting_126 ⟨by exact Nat.le_of_ble_eq_true rfl, by exact Nat.le_of_ble_eq_true rfl⟩) hG (c2 := 0) (s2 := 0) ⟨by exact Nat.le_of_ble_eq_true rfl, by exact Nat.le_of_ble_eq_true rfl⟩ (fun k18 M19 h hk18 H locs hG => ?_)
                      refine j_geti hx hb hts hown hK hG (k := k18) (fun w h => List.mem_cons_of_mem _ (u_X5 w h)) (ci := 4) rfl hk18 2 (by decide) (jz := 2) rfl w_fl_RX10_295 dX10_meeting_129 ?_
                      rw [hQf]
                      exact j_ireti hx hb hr hlocks hG h (by decide) dX10_meeting_132
                    · have c17 : a2 ≠ 0 ∧ a2 ≠ 1 ∧ a2 ≠ 2 ∧ a2 ≠ 3 ∧ a2 ≠ 4 ∧ a2 ≠ 5 ∧ a2 ≠ 6 ∧ a2 ≠ 7 ∧ a2 ≠ 8 := ⟨c17_0, c17_1, c17_2, c17_3, c17_4, c17_5, c17_6, c17_7, c17_8⟩
                      have h := h.2.2.2.2.2.2.2.2.2 c17
                      refine j_tswd hx hb dX10_meeting_34 g16 (tgt := 133) (by omega) (by decide) ?_
                      refine lv_aload_n hx hb dX10_meeting_133 rfl (lv_at hl 1 rfl) ?_
                      refine lv_iload_n hx hb dX10_meeting_134 rfl (lv_at hl 2 rfl) ?_
                      refine j_contr (va_runV (As := [.int (J a1)]) (rest := []) ⟨hx, hb, hml, hown, hts⟩ (A_X10_timed l ka0 h) (cwV 1 hts (gj_V ml_RX10_335 i_X10_timed s_X10_timed n_RX10 k_X10_timed) rfl rfl rfl (by decide +kernel) ⟨by exact Nat.le_of_ble_eq_true rfl, by exact Nat.le_of_ble_eq_true rfl⟩) (j_preV hK hSX hG (ci := 9) rfl ka0 (by decide)) rfl rfl hl.1 rfl (lv_room (Nat.le_of_ble_eq_true rfl)) dX10_meeting_135 ⟨by exact Nat.le_of_ble_eq_true rfl, by exact Nat.le_of_ble_eq_true rfl⟩) hG (c2 := 0) (s2 := 0) ⟨by exact Nat.le_of_ble_eq_true rfl, by exact Nat.le_of_ble_eq_true rfl⟩ (fun k20 M21 h hk20 H locs hG => ?_)
                      refine lv_aload_n hx hb dX10_meeting_138 rfl (lv_at hl 0 rfl) ?_
                      refine j_conti (va_runV (As := [.ref (rA o (a0 + 2 * a1 + 28))]) (rest := []) ⟨hx, hb, hml, hown, hts⟩ (A_X5_countTaking l hk20 k15 h) (cwV 1 hts (gj_V ml_RX10_337 i_X5_countTaking s_X5_countTaking n_RX5 k_X5_countTaking) rfl rfl rfl (by decide +kernel) ⟨by exact Nat.le_of_ble_eq_true rfl, by exact Nat.le_of_ble_eq_true rfl⟩) (j_preV hK hSX hG (ci := 4) rfl hk20 (by decide)) rfl rfl hl.1 rfl (lv_room (Nat.le_of_ble_eq_true rfl)) dX10_meeting_139 ⟨by exact Nat.le_of_ble_eq_true rfl, by exact Nat.le_of_ble_eq_true rfl⟩) hG (c2 := 0) (s2 := 0) ⟨by exact Nat.le_of_ble_eq_true rfl, by exact Nat.le_of_ble_eq_true rfl⟩ (fun z22 M23 h H locs hG => ?_)
                      obtain ⟨h, eM23⟩ := h
                      rw [eM23] at hG
                      rw [hQf]
                      exact j_ireti hx hb hr hlocks hG h (by decide) dX10_meeting_142
  obtain ⟨K27, hK27, h⟩ := h
  have jK27 : K27 → ∀ (H : Heap) (locs : List Loc), GM D cy o M s.heap H locs → ∀ ls : Array Slot, lv_has ls 4 [(0, .ref (rA o a0)), (1, .int (J a1)), (2, .int (J a2))] → W p l e rom_X10_meeting s m args below meth c H locs 0 0 Qf (F0 m 19 ls []) := by
    intro hcK27 H locs hG ls hl
    have h := hK27 hcK27
    refine lv_iconst (v := J 0) hx hb dX10_meeting_19 (by decide) ?_
    exact jK11 0 h H locs hG ls (lv_sub hl [0, 1, 2] rfl)
  obtain ⟨g29, h⟩ := h
  refine j_if_lt (tgt := 19) hx hb dX10_meeting_6 (by decide) g29 (fun c28 => ?_) (fun c28 => ?_)
  · have h := h.1 c28
    exact jK27 h H locs hG ls (lv_sub hl [0, 1, 2] rfl)
  · have h := h.2 c28
    refine lv_iload_n hx hb dX10_meeting_9 rfl (lv_at hl 2 rfl) ?_
    refine lv_bipush (v := J 9) hx hb dX10_meeting_10 (by decide) ?_
    refine j_icmp_gt (tgt := 19) hx hb dX10_meeting_12 (by decide) g29 (by decide) (fun c30 => ?_) (fun c30 => ?_)
    · have h := h.1 c30
      exact jK27 h H locs hG ls (lv_sub hl [0, 1, 2] rfl)
    · have h := h.2 c30
      refine lv_iconst (v := J 1) hx hb dX10_meeting_15 (by decide) ?_
      refine lv_goto (tgt := 20) hx hb dX10_meeting_16 (by decide) ?_
      exact jK11 1 h H locs hG ls (lv_sub hl [0, 1, 2] rfl)
abbrev rm_X10_meeting : Room := { frames := 8, cells := 1, slots := 6, locals := 131 }
set_option maxRecDepth 100000 in
set_option maxHeartbeats 4000000 in
theorem A_X10_meeting (l : Launch) (hst : l.stackTraces = false) {D : va_G} {cy : Nat → ClassId} {o : Nat} {sK sV : Nat → Nat} {M : jT} {a0 : Int} {a1 : Int} {a2 : Int} (ka0 : kd a0 = 10) {Q : Int → jT → Prop} {X : Nat → jT → Prop} (h : wp_X10_meeting M a0 a1 a2 Q X) : CxI l yX10_meeting (wj yX10_meeting cX10_meeting 4 (some .int)) rm_X10_meeting D cy o sK sV M [.ref (rA o a0), .int (J a1), .int (J a2)] Q X := by
  refine j_ofWx (cc := cX10_meeting) (maxL := 4) (ret := (some .int)) (by decide) rfl (Nat.le_of_ble_eq_true rfl) ?_
  intro p e s m args below meth c hx hb hr hlocks hout hml hown hts hK hSX H locs hsz hG ls hl Qf hQf
  have hown : s.vm.findClass RX10 = some m.cls := hown
  have hl : lv_has ls 4 [(0, .ref (rA o a0)), (1, .int (J a1)), (2, .int (J a2))] := hl
  have w_fl_RX10_12 := hts _ (List.mem_cons_of_mem _ fl_RX10_12)
  have w_fl_RX10_269 := hts _ (List.mem_cons_of_mem _ fl_RX10_269)
  have w_fl_RX10_311 := hts _ (List.mem_cons_of_mem _ fl_RX10_311)
  have w_fl_RX10_314 := hts _ (List.mem_cons_of_mem _ fl_RX10_314)
  have w_fl_RX10_317 := hts _ (List.mem_cons_of_mem _ fl_RX10_317)
  have w_fl_RX10_320 := hts _ (List.mem_cons_of_mem _ fl_RX10_320)
  have w_fl_RX10_323 := hts _ (List.mem_cons_of_mem _ fl_RX10_323)
  have w_fl_RX10_326 := hts _ (List.mem_cons_of_mem _ fl_RX10_326)
  have w_fl_RX10_329 := hts _ (List.mem_cons_of_mem _ fl_RX10_329)
  have w_fl_RX10_332 := hts _ (List.mem_cons_of_mem _ fl_RX10_332)
  have w_fl_RX10_295 := hts _ (List.mem_cons_of_mem _ fl_RX10_295)
  unfold wp_X10_meeting at h
  refine lv_aload_n hx hb dX10_meeting_0 rfl (lv_at hl 0 rfl) ?_
  refine lv_iload_n hx hb dX10_meeting_1 rfl (lv_at hl 1 rfl) ?_
  rcases h with h | h
  · refine j_contv (va_runV (As := [.int (J a1)]) (rest := []) ⟨hx, hb, hml, hown, hts⟩ (Ao_X10_needMeeting l ka0 h) (cwV 1 hts (gj_V ml_RX10_281 i_X10_needMeeting s_X10_needMeeting n_RX10 k_X10_needMeeting) rfl rfl rfl (by decide +kernel) ⟨by exact Nat.le_of_ble_eq_true rfl, by exact Nat.le_of_ble_eq_true rfl⟩) (j_preV hK hSX hG (ci := 9) rfl ka0 (by decide)) rfl rfl hl.1 rfl (lv_room (Nat.le_of_ble_eq_true rfl)) dX10_meeting_2 ⟨by exact Nat.le_of_ble_eq_true rfl, by exact Nat.le_of_ble_eq_true rfl⟩) hG (c2 := 0) (s2 := 0) ⟨by exact Nat.le_of_ble_eq_true rfl, by exact Nat.le_of_ble_eq_true rfl⟩ (fun M2 h H locs hG => ?_)
    obtain ⟨h, eM2⟩ := h
    rw [eM2] at hG
    refine lv_iload_n hx hb dX10_meeting_5 rfl (lv_at hl 2 rfl) ?_
    obtain ⟨K11, hK11, h⟩ := h
    have jK11 : ∀ (x10 : Int), K11 x10 → ∀ (H : Heap) (locs : List Loc), GM D cy o M s.heap H locs → ∀ ls : Array Slot, lv_has ls 4 [(0, .ref (rA o a0)), (1, .int (J a1)), (2, .int (J a2))] → W p l e rm_X10_meeting s m args below meth c H locs 0 0 Qf (F0 m 20 ls [.int (J x10)]) := by
      intro x10 hcK11 H locs hG ls hl
      have h := hK11 x10 hcK11
      rcases h with h | h
      · refine j_contv (va_runS (As := [.int (J x10)]) (rest := []) ⟨hx, hb, hml, hown, hts⟩ (Ao_X10_needArgument l h) (va_cwS 1 hts (gj_S ml_RX10_72 i_X10_needArgument n_RX10 k_X10_needArgument) rfl rfl rfl (by decide +kernel) ⟨by exact Nat.le_of_ble_eq_true rfl, by exact Nat.le_of_ble_eq_true rfl⟩) (j_preS hK hSX hG) rfl rfl hl.1 rfl (lv_room (Nat.le_of_ble_eq_true rfl)) dX10_meeting_20 ⟨by exact Nat.le_of_ble_eq_true rfl, by exact Nat.le_of_ble_eq_true rfl⟩) hG (c2 := 0) (s2 := 0) ⟨by exact Nat.le_of_ble_eq_true rfl, by exact Nat.le_of_ble_eq_true rfl⟩ (fun M13 h H locs hG => ?_)
        obtain ⟨h, eM13⟩ := h
        rw [eM13] at hG
        refine lv_aload_n hx hb dX10_meeting_23 rfl (lv_at hl 0 rfl) ?_
        refine j_getr hx hb hts hown hK hG (k := a0) (fun w h => List.mem_cons_of_mem _ (u_X10 w h)) (ci := 9) rfl ka0 0 (k2 := a0 + 1) (by decide) (by show a0 + (1 : Int) = a0 + 1; omega) w_fl_RX10_12 dX10_meeting_24 ?_
        refine j_getr hx hb hts hown hK hG (k := a0 + 1) (fun w h => List.mem_cons_of_mem _ (u_X0 w h)) (ci := 0) rfl (kf_10_0 ka0) 3 (k2 := a0 + 3) (by decide) (by show (a0 + 1) + (2 : Int) = a0 + 3; omega) w_fl_RX10_269 dX10_meeting_27 ?_
        refine lv_iload_n hx hb dX10_meeting_30 rfl (lv_at hl 1 rfl) ?_
        obtain ⟨g14, h⟩ := h
        refine j_aald hx hb hK hG (t := 21) (t0 := 4) (k2 := a0 + 2 * a1 + 28) (show kd (a0 + 3) = 21 from (show (a0 + 1) + 2 = a0 + 3 from by omega) ▸ (kf_1_3 (kf_10_0 ka0))) (by decide) rfl g14 (by simp only [ra_21]; omega) dX10_meeting_31 ?_
        have k15 : kd (a0 + 2 * a1 + 28) = 4 := by have q9 := (ka_21 (show kd (a0 + 3) = 21 from (show (a0 + 1) + 2 = a0 + 3 from by omega) ▸ (kf_1_3 (kf_10_0 ka0))) g14); rwa [show (a0 + 3) + 25 + 2 * a1 = a0 + 2 * a1 + 28 from by omega] at q9
        refine lv_astore_n (lv' := [(3, .ref (rA o (a0 + 2 * a1 + 28))), (0, .ref (rA o a0)), (1, .int (J a1)), (2, .int (J a2))]) hx hb dX10_meeting_32 rfl hl (by decide) rfl (fun ls hl => ?_)
        refine lv_iload_n hx hb dX10_meeting_33 rfl (lv_at hl 3 rfl) ?_
        obtain ⟨g16, h⟩ := h
        rcases em_eqI (a2) 0 with c17 | c17_0
        · refine j_tsw hx hb dX10_meeting_34 g16 (k := 0) (tgt := 84) c17 ⟨by decide, by decide, rfl⟩ (by decide) ?_
          have h := h.1 c17
          refine lv_aload_n hx hb dX10_meeting_84 rfl (lv_at hl 0 rfl) ?_
          refine j_geti hx hb hts hown hK hG (k := a0 + 2 * a1 + 28) (fun w h => List.mem_cons_of_mem _ (u_X4 w h)) (ci := 3) rfl k15 0 (by decide) (jz := 0) rfl w_fl_RX10_311 dX10_meeting_85 ?_
          rw [hQf]
          exact vx_ret (j_ireti hx hb hr hlocks hG h (by decide) dX10_meeting_88)
        · rcases em_eqI (a2) 1 with c17 | c17_1
          · refine j_tsw hx hb dX10_meeting_34 g16 (k := 1) (tgt := 89) c17 ⟨by decide, by decide, rfl⟩ (by decide) ?_
            have h := h.2.1 c17
            refine lv_aload_n hx hb dX10_meeting_89 rfl (lv_at hl 0 rfl) ?_
            refine j_geti hx hb hts hown hK hG (k := a0 + 2 * a1 + 28) (fun w h => List.mem_cons_of_mem _ (u_X4 w h)) (ci := 3) rfl k15 1 (by decide) (jz := 1) rfl w_fl_RX10_314 dX10_meeting_90 ?_
            rw [hQf]
            exact vx_ret (j_ireti hx hb hr hlocks hG h (by decide) dX10_meeting_93)
          · rcases em_eqI (a2) 2 with c17 | c17_2
            · refine j_tsw hx hb dX10_meeting_34 g16 (k := 2) (tgt := 94) c17 ⟨by decide, by decide, rfl⟩ (by decide) ?_
              have h := h.2.2.1 c17
              refine lv_aload_n hx hb dX10_meeting_94 rfl (lv_at hl 0 rfl) ?_
              refine j_geti hx hb hts hown hK hG (k := a0 + 2 * a1 + 28) (fun w h => List.mem_cons_of_mem _ (u_X4 w h)) (ci := 3) rfl k15 2 (by decide) (jz := 2) rfl w_fl_RX10_317 dX10_meeting_95 ?_
              rw [hQf]
              exact vx_ret (j_ireti hx hb hr hlocks hG h (by decide) dX10_meeting_98)
            · rcases em_eqI (a2) 3 with c17 | c17_3
              · refine j_tsw hx hb dX10_meeting_34 g16 (k := 3) (tgt := 99) c17 ⟨by decide, by decide, rfl⟩ (by decide) ?_
                have h := h.2.2.2.1 c17
                refine lv_aload_n hx hb dX10_meeting_99 rfl (lv_at hl 0 rfl) ?_
                refine j_geti hx hb hts hown hK hG (k := a0 + 2 * a1 + 28) (fun w h => List.mem_cons_of_mem _ (u_X4 w h)) (ci := 3) rfl k15 3 (by decide) (jz := 3) rfl w_fl_RX10_320 dX10_meeting_100 ?_
                rw [hQf]
                exact vx_ret (j_ireti hx hb hr hlocks hG h (by decide) dX10_meeting_103)
              · rcases em_eqI (a2) 4 with c17 | c17_4
                · refine j_tsw hx hb dX10_meeting_34 g16 (k := 4) (tgt := 104) c17 ⟨by decide, by decide, rfl⟩ (by decide) ?_
                  have h := h.2.2.2.2.1 c17
                  refine lv_aload_n hx hb dX10_meeting_104 rfl (lv_at hl 0 rfl) ?_
                  refine j_geti hx hb hts hown hK hG (k := a0 + 2 * a1 + 28) (fun w h => List.mem_cons_of_mem _ (u_X4 w h)) (ci := 3) rfl k15 4 (by decide) (jz := 4) rfl w_fl_RX10_323 dX10_meeting_105 ?_
                  rw [hQf]
                  exact vx_ret (j_ireti hx hb hr hlocks hG h (by decide) dX10_meeting_108)
                · rcases em_eqI (a2) 5 with c17 | c17_5
                  · refine j_tsw hx hb dX10_meeting_34 g16 (k := 5) (tgt := 109) c17 ⟨by decide, by decide, rfl⟩ (by decide) ?_
                    have h := h.2.2.2.2.2.1 c17
                    refine lv_aload_n hx hb dX10_meeting_109 rfl (lv_at hl 0 rfl) ?_
                    refine j_geti hx hb hts hown hK hG (k := a0 + 2 * a1 + 28) (fun w h => List.mem_cons_of_mem _ (u_X4 w h)) (ci := 3) rfl k15 6 (by decide) (jz := 6) rfl w_fl_RX10_326 dX10_meeting_110 ?_
                    rw [hQf]
                    exact vx_ret (j_ireti hx hb hr hlocks hG h (by decide) dX10_meeting_113)
                  · rcases em_eqI (a2) 6 with c17 | c17_6
                    · refine j_tsw hx hb dX10_meeting_34 g16 (k := 6) (tgt := 114) c17 ⟨by decide, by decide, rfl⟩ (by decide) ?_
                      have h := h.2.2.2.2.2.2.1 c17
                      refine lv_aload_n hx hb dX10_meeting_114 rfl (lv_at hl 0 rfl) ?_
                      refine j_geti hx hb hts hown hK hG (k := a0 + 2 * a1 + 28) (fun w h => List.mem_cons_of_mem _ (u_X4 w h)) (ci := 3) rfl k15 7 (by decide) (jz := 7) rfl w_fl_RX10_329 dX10_meeting_115 ?_
                      rw [hQf]
                      exact vx_ret (j_ireti hx hb hr hlocks hG h (by decide) dX10_meeting_118)
                    · rcases em_eqI (a2) 7 with c17 | c17_7
                      · refine j_tsw hx hb dX10_meeting_34 g16 (k := 7) (tgt := 119) c17 ⟨by decide, by decide, rfl⟩ (by decide) ?_
                        have h := h.2.2.2.2.2.2.2.1 c17
                        refine lv_aload_n hx hb dX10_meeting_119 rfl (lv_at hl 0 rfl) ?_
                        refine j_geti hx hb hts hown hK hG (k := a0 + 2 * a1 + 28) (fun w h => List.mem_cons_of_mem _ (u_X4 w h)) (ci := 3) rfl k15 8 (by decide) (jz := 8) rfl w_fl_RX10_332 dX10_meeting_120 ?_
                        rw [hQf]
                        exact vx_ret (j_ireti hx hb hr hlocks hG h (by decide) dX10_meeting_123)
                      · rcases em_eqI (a2) 8 with c17 | c17_8
                        · refine j_tsw hx hb dX10_meeting_34 g16 (k := 8) (tgt := 124) c17 ⟨by decide, by decide, rfl⟩ (by decide) ?_
                          have h := h.2.2.2.2.2.2.2.2.1 c17
                          refine lv_aload_n hx hb dX10_meeting_124 rfl (lv_at hl 1 rfl) ?_
                          refine lv_iload_n hx hb dX10_meeting_125 rfl (lv_at hl 2 rfl) ?_
                          refine j_contr (va_runV (As := [.int (J a1)]) (rest := []) ⟨hx, hb, hml, hown, hts⟩ (A_X10_laidOut l ka0 h) (cwV 1 hts (gj_V ml_RX10_291 i_X10_laidOut s_X10_laidOut n_RX10 k_X10_laidOut) rfl rfl rfl (by decide +kernel) ⟨by exact Nat.le_of_ble_eq_true rfl, by exact Nat.le_of_ble_eq_true rfl⟩) (j_preV hK hSX hG (ci := 9) rfl ka0 (by decide)) rfl rfl hl.1 rfl (lv_room (Nat.le_of_ble_eq_true rfl)) dX10_meeting_126 ⟨by exact Nat.le_of_ble_eq_true rfl, by exact Nat.le_of_ble_eq_true rfl⟩) hG (c2 := 0) (s2 := 0) ⟨by exact Nat.le_of_ble_eq_true rfl, by exact Nat.le_of_ble_eq_true rfl⟩ (fun k18 M19 h hk18 H locs hG => ?_)
                          refine j_geti hx hb hts hown hK hG (k := k18) (fun w h => List.mem_cons_of_mem _ (u_X5 w h)) (ci := 4) rfl hk18 2 (by decide) (jz := 2) rfl w_fl_RX10_295 dX10_meeting_129 ?_
                          rw [hQf]
                          exact vx_ret (j_ireti hx hb hr hlocks hG h (by decide) dX10_meeting_132)
                        · have c17 : a2 ≠ 0 ∧ a2 ≠ 1 ∧ a2 ≠ 2 ∧ a2 ≠ 3 ∧ a2 ≠ 4 ∧ a2 ≠ 5 ∧ a2 ≠ 6 ∧ a2 ≠ 7 ∧ a2 ≠ 8 := ⟨c17_0, c17_1, c17_2, c17_3, c17_4, c17_5, c17_6, c17_7, c17_8⟩
                          have h := h.2.2.2.2.2.2.2.2.2 c17
                          refine j_tswd hx hb dX10_meeting_34 g16 (tgt := 133) (by omega) (by decide) ?_
                          refine lv_aload_n hx hb dX10_meeting_133 rfl (lv_at hl 1 rfl) ?_
                          refine lv_iload_n hx hb dX10_meeting_134 rfl (lv_at hl 2 rfl) ?_
                          refine j_contr (va_runV (As := [.int (J a1)]) (rest := []) ⟨hx, hb, hml, hown, hts⟩ (A_X10_timed l ka0 h) (cwV 1 hts (gj_V ml_RX10_335 i_X10_timed s_X10_timed n_RX10 k_X10_timed) rfl rfl rfl (by decide +kernel) ⟨by exact Nat.le_of_ble_eq_true rfl, by exact Nat.le_of_ble_eq_true rfl⟩) (j_preV hK hSX hG (ci := 9) rfl ka0 (by decide)) rfl rfl hl.1 rfl (lv_room (Nat.le_of_ble_eq_true rfl)) dX10_meeting_135 ⟨by exact Nat.le_of_ble_eq_true rfl, by exact Nat.le_of_ble_eq_true rfl⟩) hG (c2 := 0) (s2 := 0) ⟨by exact Nat.le_of_ble_eq_true rfl, by exact Nat.le_of_ble_eq_true rfl⟩ (fun k20 M21 h hk20 H locs hG => ?_)
                          refine lv_aload_n hx hb dX10_meeting_138 rfl (lv_at hl 0 rfl) ?_
                          refine j_conti (va_runV (As := [.ref (rA o (a0 + 2 * a1 + 28))]) (rest := []) ⟨hx, hb, hml, hown, hts⟩ (A_X5_countTaking l hk20 k15 h) (cwV 1 hts (gj_V ml_RX10_337 i_X5_countTaking s_X5_countTaking n_RX5 k_X5_countTaking) rfl rfl rfl (by decide +kernel) ⟨by exact Nat.le_of_ble_eq_true rfl, by exact Nat.le_of_ble_eq_true rfl⟩) (j_preV hK hSX hG (ci := 4) rfl hk20 (by decide)) rfl rfl hl.1 rfl (lv_room (Nat.le_of_ble_eq_true rfl)) dX10_meeting_139 ⟨by exact Nat.le_of_ble_eq_true rfl, by exact Nat.le_of_ble_eq_true rfl⟩) hG (c2 := 0) (s2 := 0) ⟨by exact Nat.le_of_ble_eq_true rfl, by exact Nat.le_of_ble_eq_true rfl⟩ (fun z22 M23 h H locs hG => ?_)
                          obtain ⟨h, eM23⟩ := h
                          rw [eM23] at hG
                          rw [hQf]
                          exact vx_ret (j_ireti hx hb hr hlocks hG h (by decide) dX10_meeting_142)
      · refine j_contxv (vx_runS (As := [.int (J x10)]) (rest := []) ⟨hx, hb, hml, hown, hts⟩ (A_X10_needArgument l hst h) (va_cwS 1 hts (gj_S ml_RX10_72 i_X10_needArgument n_RX10 k_X10_needArgument) rfl rfl rfl (by decide +kernel) ⟨by exact Nat.le_of_ble_eq_true rfl, by exact Nat.le_of_ble_eq_true rfl⟩) (j_preS hK hSX hG) rfl rfl hl.1 rfl (lv_room (Nat.le_of_ble_eq_true rfl)) dX10_meeting_20 ⟨by exact Nat.le_of_ble_eq_true rfl, by exact Nat.le_of_ble_eq_true rfl⟩) hG (c2 := 1) (s2 := 6) ⟨by exact Nat.le_of_ble_eq_true rfl, by exact Nat.le_of_ble_eq_true rfl⟩ (fun x M h ce q H locs hG h1 h2 h3 => ?_) (fun M h H locs hG => h.elim)
        rw [hQf]
        exact j_xout hlocks hout hG h h1 h2 h3 (by decide)
    obtain ⟨K27, hK27, h⟩ := h
    have jK27 : K27 → ∀ (H : Heap) (locs : List Loc), GM D cy o M s.heap H locs → ∀ ls : Array Slot, lv_has ls 4 [(0, .ref (rA o a0)), (1, .int (J a1)), (2, .int (J a2))] → W p l e rm_X10_meeting s m args below meth c H locs 0 0 Qf (F0 m 19 ls []) := by
      intro hcK27 H locs hG ls hl
      have h := hK27 hcK27
      refine lv_iconst (v := J 0) hx hb dX10_meeting_19 (by decide) ?_
      exact jK11 0 h H locs hG ls (lv_sub hl [0, 1, 2] rfl)
    obtain ⟨g29, h⟩ := h
    refine j_if_lt (tgt := 19) hx hb dX10_meeting_6 (by decide) g29 (fun c28 => ?_) (fun c28 => ?_)
    · have h := h.1 c28
      exact jK27 h H locs hG ls (lv_sub hl [0, 1, 2] rfl)
    · have h := h.2 c28
      refine lv_iload_n hx hb dX10_meeting_9 rfl (lv_at hl 2 rfl) ?_
      refine lv_bipush (v := J 9) hx hb dX10_meeting_10 (by decide) ?_
      refine j_icmp_gt (tgt := 19) hx hb dX10_meeting_12 (by decide) g29 (by decide) (fun c30 => ?_) (fun c30 => ?_)
      · have h := h.1 c30
        exact jK27 h H locs hG ls (lv_sub hl [0, 1, 2] rfl)
      · have h := h.2 c30
        refine lv_iconst (v := J 1) hx hb dX10_meeting_15 (by decide) ?_
        refine lv_goto (tgt := 20) hx hb dX10_meeting_16 (by decide) ?_
        exact jK11 1 h H locs hG ls (lv_sub hl [0, 1, 2] rfl)
  · refine j_contxv (vx_runV (As := [.int (J a1)]) (rest := []) ⟨hx, hb, hml, hown, hts⟩ (A_X10_needMeeting l hst ka0 h) (cwV 1 hts (gj_V ml_RX10_281 i_X10_needMeeting s_X10_needMeeting n_RX10 k_X10_needMeeting) rfl rfl rfl (by decide +kernel) ⟨by exact Nat.le_of_ble_eq_true rfl, by exact Nat.le_of_ble_eq_true rfl⟩) (j_preV hK hSX hG (ci := 9) rfl ka0 (by decide)) rfl rfl hl.1 rfl (lv_room (Nat.le_of_ble_eq_true rfl)) dX10_meeting_2 ⟨by exact Nat.le_of_ble_eq_true rfl, by exact Nat.le_of_ble_eq_true rfl⟩) hG (c2 := 1) (s2 := 6) ⟨by exact Nat.le_of_ble_eq_true rfl, by exact Nat.le_of_ble_eq_true rfl⟩ (fun x M h ce q H locs hG h1 h2 h3 => ?_) (fun M h H locs hG => h.elim)
    rw [hQf]
    exact j_xout hlocks hout hG h h1 h2 h3 (by decide)

abbrev rm_X10_stateOf : Room := { frames := 2, cells := 0, slots := 0, locals := 43 }
set_option maxRecDepth 100000 in
set_option maxHeartbeats 4000000 in
theorem A_X10_stateOf (l : Launch) {D : va_G} {cy : Nat → ClassId} {o : Nat} {sK sV : Nat → Nat} {M : jT} {a0 : Int} {a1 : Int} {a2 : Int} (ka0 : kd a0 = 4) (ka1 : kd a1 = 5) (h : pg_X10_stateOf M a0 a1 a2) : CoI l yX10_stateOf (wj yX10_stateOf cX10_stateOf 3 (some .int)) rm_X10_stateOf D cy o sK sV M [.ref (rA o a0), .ref (rA o a1), .int (J a2)] (fun z M9 => z = pf_X10_stateOf M a0 a1 a2 ∧ M9 = M) := by
  refine j_ofW (cc := cX10_stateOf) (maxL := 3) (ret := (some .int)) (by decide) rfl (Nat.le_of_ble_eq_true rfl) ?_
  intro p e s m args below meth c hx hb hr hlocks hml hown hts hK hSX H locs hG ls hl Qf hQf
  have hown : s.vm.findClass RX10 = some m.cls := hown
  have hl : lv_has ls 3 [(0, .ref (rA o a0)), (1, .ref (rA o a1)), (2, .int (J a2))] := hl
  unfold pg_X10_stateOf at h
  refine lv_aload_n hx hb dX10_stateOf_0 rfl (lv_at hl 0 rfl) ?_
  refine lv_iload_n hx hb dX10_stateOf_1 rfl (lv_at hl 2 rfl) ?_
  obtain ⟨g1, h⟩ := h
  refine j_conti (va_runV (As := [.int (J a2)]) (rest := []) ⟨hx, hb, hml, hown, hts⟩ (A_X4_isCancelled l ka0 g1) (cwV 1 hts (gj_V ml_RX10_500 i_X4_isCancelled s_X4_isCancelled n_RX4 k_X4_isCancelled) rfl rfl rfl (by decide +kernel) ⟨by exact Nat.le_of_ble_eq_true rfl, by exact Nat.le_of_ble_eq_true rfl⟩) (j_preV hK hSX hG (ci := 3) rfl ka0 (by decide)) rfl rfl hl.1 rfl (lv_room (Nat.le_of_ble_eq_true rfl)) dX10_stateOf_2 ⟨by exact Nat.le_of_ble_eq_true rfl, by exact Nat.le_of_ble_eq_true rfl⟩) hG (c2 := 0) (s2 := 0) ⟨by exact Nat.le_of_ble_eq_true rfl, by exact Nat.le_of_ble_eq_true rfl⟩ (fun z2 M3 ez2 H locs hG => ?_)
  obtain ⟨ez2, eM3⟩ := ez2
  subst ez2
  rw [eM3] at hG
  refine j_if_eq_b (tgt := 10) hx hb dX10_stateOf_5 (by decide) (fun c4 => ?_) (fun c4 => ?_)
  · have h := h.1 c4
    refine lv_aload_n hx hb dX10_stateOf_10 rfl (lv_at hl 1 rfl) ?_
    refine lv_aload_n hx hb dX10_stateOf_11 rfl (lv_at hl 0 rfl) ?_
    refine lv_iload_n hx hb dX10_stateOf_12 rfl (lv_at hl 2 rfl) ?_
    obtain ⟨g5, h⟩ := h
    refine j_conti (va_runV (As := [.ref (rA o a0), .int (J a2)]) (rest := []) ⟨hx, hb, hml, hown, hts⟩ (A_X5_takesPlace l ka1 ka0 g5) (cwV 2 hts (gj_V ml_RX10_355 i_X5_takesPlace s_X5_takesPlace n_RX5 k_X5_takesPlace) rfl rfl rfl (by decide +kernel) ⟨by exact Nat.le_of_ble_eq_true rfl, by exact Nat.le_of_ble_eq_true rfl⟩) (j_preV hK hSX hG (ci := 4) rfl ka1 (by decide)) rfl rfl hl.1 rfl (lv_room (Nat.le_of_ble_eq_true rfl)) dX10_stateOf_13 ⟨by exact Nat.le_of_ble_eq_true rfl, by exact Nat.le_of_ble_eq_true rfl⟩) hG (c2 := 0) (s2 := 0) ⟨by exact Nat.le_of_ble_eq_true rfl, by exact Nat.le_of_ble_eq_true rfl⟩ (fun z6 M7 ez6 H locs hG => ?_)
    obtain ⟨ez6, eM7⟩ := ez6
    subst ez6
    rw [eM7] at hG
    refine j_if_eq_b (tgt := 23) hx hb dX10_stateOf_16 (by decide) (fun c8 => ?_) (fun c8 => ?_)
    · have h := h.1 c8
      refine lv_iconst (v := J 2) hx hb dX10_stateOf_23 (by decide) ?_
      rw [hQf]
      exact j_ireti hx hb hr hlocks hG ⟨(by unfold pf_X10_stateOf; rw [if_pos c4, if_pos c8]), rfl⟩ (by decide) dX10_stateOf_24
    · have h := h.2 c8
      refine lv_iconst (v := J 0) hx hb dX10_stateOf_19 (by decide) ?_
      refine lv_goto (tgt := 24) hx hb dX10_stateOf_20 (by decide) ?_
      rw [hQf]
      exact j_ireti hx hb hr hlocks hG ⟨(by unfold pf_X10_stateOf; rw [if_pos c4, if_neg (fun q9 => q9 c8)]), rfl⟩ (by decide) dX10_stateOf_24
  · have h := h.2 c4
    refine lv_iconst (v := J 1) hx hb dX10_stateOf_8 (by decide) ?_
    rw [hQf]
    exact j_ireti hx hb hr hlocks hG ⟨(by unfold pf_X10_stateOf; rw [if_neg (fun q9 => q9 c4)]), rfl⟩ (by decide) dX10_stateOf_9

abbrev rom_X10_occurrence : Room := { frames := 5, cells := 0, slots := 0, locals := 122 }
set_option maxRecDepth 100000 in
set_option maxHeartbeats 4000000 in
theorem Ao_X10_occurrence (l : Launch) {D : va_G} {cy : Nat → ClassId} {o : Nat} {sK sV : Nat → Nat} {M : jT} {a0 : Int} {a1 : Int} {a2 : Int} {a3 : Int} (ka0 : kd a0 = 10) {Q : Int → jT → Prop} (h : wo_X10_occurrence M a0 a1 a2 a3 Q) : CoI l yX10_occurrence (wj yX10_occurrence cX10_occurrence 7 (some .int)) rom_X10_occurrence D cy o sK sV M [.ref (rA o a0), .int (J a1), .int (J a2), .int (J a3)] Q := by
  refine j_ofW (cc := cX10_occurrence) (maxL := 7) (ret := (some .int)) (by decide) rfl (Nat.le_of_ble_eq_true rfl) ?_
  intro p e s m args below meth c hx hb hr hlocks hml hown hts hK hSX H locs hG ls hl Qf hQf
  have hown : s.vm.findClass RX10 = some m.cls := hown
  have hl : lv_has ls 7 [(0, .ref (rA o a0)), (1, .int (J a1)), (2, .int (J a2)), (3, .int (J a3))] := hl
  have w_fl_RX10_12 := hts _ (List.mem_cons_of_mem _ fl_RX10_12)
  have w_fl_RX10_269 := hts _ (List.mem_cons_of_mem _ fl_RX10_269)
  have w_fl_RX10_345 := hts _ (List.mem_cons_of_mem _ fl_RX10_345)
  have w_fl_RX10_304 := hts _ (List.mem_cons_of_mem _ fl_RX10_304)
  have w_fl_RX10_311 := hts _ (List.mem_cons_of_mem _ fl_RX10_311)
  have w_fl_RX10_359 := hts _ (List.mem_cons_of_mem _ fl_RX10_359)
  unfold wo_X10_occurrence at h
  refine lv_aload_n hx hb dX10_occurrence_0 rfl (lv_at hl 0 rfl) ?_
  refine lv_iload_n hx hb dX10_occurrence_1 rfl (lv_at hl 1 rfl) ?_
  refine lv_iload_n hx hb dX10_occurrence_2 rfl (lv_at hl 2 rfl) ?_
  refine j_conti (va_runV (As := [.int (J a1), .int (J a2)]) (rest := []) ⟨hx, hb, hml, hown, hts⟩ (A_X10_occurrenceFault l ka0 h) (cwV 2 hts (gj_V ml_RX10_298 i_X10_occurrenceFault s_X10_occurrenceFault n_RX10 k_X10_occurrenceFault) rfl rfl rfl (by decide +kernel) ⟨by exact Nat.le_of_ble_eq_true rfl, by exact Nat.le_of_ble_eq_true rfl⟩) (j_preV hK hSX hG (ci := 9) rfl ka0 (by decide)) rfl rfl hl.1 rfl (lv_room (Nat.le_of_ble_eq_true rfl)) dX10_occurrence_3 ⟨by exact Nat.le_of_ble_eq_true rfl, by exact Nat.le_of_ble_eq_true rfl⟩) hG (c2 := 0) (s2 := 0) ⟨by exact Nat.le_of_ble_eq_true rfl, by exact Nat.le_of_ble_eq_true rfl⟩ (fun z1 M2 h H locs hG => ?_)
  refine j_contv (va_runS (As := [.int (J z1)]) (rest := []) ⟨hx, hb, hml, hown, hts⟩ (Ao_X10_refuse l h) (va_cwS 1 hts (gj_S ml_RX10_107 i_X10_refuse n_RX10 k_X10_refuse) rfl rfl rfl (by decide +kernel) ⟨by exact Nat.le_of_ble_eq_true rfl, by exact Nat.le_of_ble_eq_true rfl⟩) (j_preS hK hSX hG) rfl rfl hl.1 rfl (lv_room (Nat.le_of_ble_eq_true rfl)) dX10_occurrence_6 ⟨by exact Nat.le_of_ble_eq_true rfl, by exact Nat.le_of_ble_eq_true rfl⟩) hG (c2 := 0) (s2 := 0) ⟨by exact Nat.le_of_ble_eq_true rfl, by exact Nat.le_of_ble_eq_true rfl⟩ (fun M4 h H locs hG => ?_)
  obtain ⟨h, eM4⟩ := h
  rw [eM4] at hG
  refine lv_iload_n hx hb dX10_occurrence_9 rfl (lv_at hl 3 rfl) ?_
  obtain ⟨K13, hK13, h⟩ := h
  have jK13 : ∀ (x12 : Int), K13 x12 → ∀ (H : Heap) (locs : List Loc), GM D cy o M2 s.heap H locs → ∀ ls : Array Slot, lv_has ls 7 [(0, .ref (rA o a0)), (1, .int (J a1)), (2, .int (J a2)), (3, .int (J a3))] → W p l e rom_X10_occurrence s m args below meth c H locs 0 0 Qf (F0 m 23 ls [.int (J x12)]) := by
    intro x12 hcK13 H locs hG ls hl
    have h := hK13 x12 hcK13
    refine j_contv (va_runS (As := [.int (J x12)]) (rest := []) ⟨hx, hb, hml, hown, hts⟩ (Ao_X10_needArgument l h) (va_cwS 1 hts (gj_S ml_RX10_72 i_X10_needArgument n_RX10 k_X10_needArgument) rfl rfl rfl (by decide +kernel) ⟨by exact Nat.le_of_ble_eq_true rfl, by exact Nat.le_of_ble_eq_true rfl⟩) (j_preS hK hSX hG) rfl rfl hl.1 rfl (lv_room (Nat.le_of_ble_eq_true rfl)) dX10_occurrence_23 ⟨by exact Nat.le_of_ble_eq_true rfl, by exact Nat.le_of_ble_eq_true rfl⟩) hG (c2 := 0) (s2 := 0) ⟨by exact Nat.le_of_ble_eq_true rfl, by exact Nat.le_of_ble_eq_true rfl⟩ (fun M15 h H locs hG => ?_)
    obtain ⟨h, eM15⟩ := h
    rw [eM15] at hG
    refine lv_aload_n hx hb dX10_occurrence_26 rfl (lv_at hl 0 rfl) ?_
    refine j_getr hx hb hts hown hK hG (k := a0) (fun w h => List.mem_cons_of_mem _ (u_X10 w h)) (ci := 9) rfl ka0 0 (k2 := a0 + 1) (by decide) (by show a0 + (1 : Int) = a0 + 1; omega) w_fl_RX10_12 dX10_occurrence_27 ?_
    refine j_getr hx hb hts hown hK hG (k := a0 + 1) (fun w h => List.mem_cons_of_mem _ (u_X0 w h)) (ci := 0) rfl (kf_10_0 ka0) 3 (k2 := a0 + 3) (by decide) (by show (a0 + 1) + (2 : Int) = a0 + 3; omega) w_fl_RX10_269 dX10_occurrence_30 ?_
    refine lv_iload_n hx hb dX10_occurrence_33 rfl (lv_at hl 1 rfl) ?_
    obtain ⟨g16, h⟩ := h
    refine j_aald hx hb hK hG (t := 21) (t0 := 4) (k2 := a0 + 2 * a1 + 28) (show kd (a0 + 3) = 21 from (show (a0 + 1) + 2 = a0 + 3 from by omega) ▸ (kf_1_3 (kf_10_0 ka0))) (by decide) rfl g16 (by simp only [ra_21]; omega) dX10_occurrence_34 ?_
    have k17 : kd (a0 + 2 * a1 + 28) = 4 := by have q9 := (ka_21 (show kd (a0 + 3) = 21 from (show (a0 + 1) + 2 = a0 + 3 from by omega) ▸ (kf_1_3 (kf_10_0 ka0))) g16); rwa [show (a0 + 3) + 25 + 2 * a1 = a0 + 2 * a1 + 28 from by omega] at q9
    refine lv_astore (lv' := [(4, .ref (rA o (a0 + 2 * a1 + 28))), (0, .ref (rA o a0)), (1, .int (J a1)), (2, .int (J a2)), (3, .int (J a3))]) hx hb dX10_occurrence_35 hl (by decide) rfl (fun ls hl => ?_)
    refine lv_aload_n hx hb dX10_occurrence_37 rfl (lv_at hl 1 rfl) ?_
    refine lv_iload_n hx hb dX10_occurrence_38 rfl (lv_at hl 2 rfl) ?_
    refine j_contr (va_runV (As := [.int (J a1)]) (rest := []) ⟨hx, hb, hml, hown, hts⟩ (A_X10_timed l ka0 h) (cwV 1 hts (gj_V ml_RX10_335 i_X10_timed s_X10_timed n_RX10 k_X10_timed) rfl rfl rfl (by decide +kernel) ⟨by exact Nat.le_of_ble_eq_true rfl, by exact Nat.le_of_ble_eq_true rfl⟩) (j_preV hK hSX hG (ci := 9) rfl ka0 (by decide)) rfl rfl hl.1 rfl (lv_room (Nat.le_of_ble_eq_true rfl)) dX10_occurrence_39 ⟨by exact Nat.le_of_ble_eq_true rfl, by exact Nat.le_of_ble_eq_true rfl⟩) hG (c2 := 0) (s2 := 0) ⟨by exact Nat.le_of_ble_eq_true rfl, by exact Nat.le_of_ble_eq_true rfl⟩ (fun k18 M19 h hk18 H locs hG => ?_)
    refine lv_astore (lv' := [(5, .ref (rA o k18)), (4, .ref (rA o (a0 + 2 * a1 + 28))), (0, .ref (rA o a0)), (1, .int (J a1)), (2, .int (J a2)), (3, .int (J a3))]) hx hb dX10_occurrence_42 hl (by decide) rfl (fun ls hl => ?_)
    refine lv_aload hx hb dX10_occurrence_44 (lv_at hl 0 rfl) ?_
    refine lv_aload hx hb dX10_occurrence_46 (lv_at hl 1 rfl) ?_
    refine lv_iload_n hx hb dX10_occurrence_48 rfl (lv_at hl 4 rfl) ?_
    obtain ⟨g20, h⟩ := h
    refine j_conti (va_runV (As := [.ref (rA o (a0 + 2 * a1 + 28)), .int (J a2)]) (rest := []) ⟨hx, hb, hml, hown, hts⟩ (A_X5_localOf l hk18 k17 g20) (cwV 2 hts (gj_V ml_RX10_341 i_X5_localOf s_X5_localOf n_RX5 k_X5_localOf) rfl rfl rfl (by decide +kernel) ⟨by exact Nat.le_of_ble_eq_true rfl, by exact Nat.le_of_ble_eq_true rfl⟩) (j_preV hK hSX hG (ci := 4) rfl hk18 (by decide)) rfl rfl hl.1 rfl (lv_room (Nat.le_of_ble_eq_true rfl)) dX10_occurrence_49 ⟨by exact Nat.le_of_ble_eq_true rfl, by exact Nat.le_of_ble_eq_true rfl⟩) hG (c2 := 0) (s2 := 0) ⟨by exact Nat.le_of_ble_eq_true rfl, by exact Nat.le_of_ble_eq_true rfl⟩ (fun z21 M22 ez21 H locs hG => ?_)
    obtain ⟨ez21, eM22⟩ := ez21
    subst ez21
    rw [eM22] at hG
    refine j_topi (fun x23 ex23 => ?_)
    have h := h x23 ex23
    refine lv_istore (lv' := [(6, .int (J x23)), (5, .ref (rA o k18)), (4, .ref (rA o (a0 + 2 * a1 + 28))), (0, .ref (rA o a0)), (1, .int (J a1)), (2, .int (J a2)), (3, .int (J a3))]) hx hb dX10_occurrence_52 hl (by decide) rfl (fun ls hl => ?_)
    refine lv_iload_n hx hb dX10_occurrence_54 rfl (lv_at hl 6 rfl) ?_
    obtain ⟨g24, h⟩ := h
    rcases em_eqI (a3) 0 with c25 | c25_0
    · refine j_tsw hx hb dX10_occurrence_55 g24 (k := 0) (tgt := 88) c25 ⟨by decide, by decide, rfl⟩ (by decide) ?_
      have h := h.1 c25
      refine lv_aload hx hb dX10_occurrence_88 (lv_at hl 1 rfl) ?_
      refine j_getr hx hb hts hown hK hG (k := k18) (fun w h => List.mem_cons_of_mem _ (u_X5 w h)) (ci := 4) rfl hk18 3 (k2 := k18 + 1) (by decide) (by show k18 + (1 : Int) = k18 + 1; omega) w_fl_RX10_345 dX10_occurrence_90 ?_
      refine lv_iload_n hx hb dX10_occurrence_93 rfl (lv_at hl 5 rfl) ?_
      obtain ⟨g26, h⟩ := h
      refine j_iald hx hb hK hG (n := 40) (kf_5_3 hk18) (by decide) g26 dX10_occurrence_94 ?_
      rw [hQf]
      exact j_ireti hx hb hr hlocks hG h (by decide) dX10_occurrence_95
    · rcases em_eqI (a3) 1 with c25 | c25_1
      · refine j_tsw hx hb dX10_occurrence_55 g24 (k := 1) (tgt := 96) c25 ⟨by decide, by decide, rfl⟩ (by decide) ?_
        have h := h.2.1 c25
        refine lv_iload hx hb dX10_occurrence_96 (lv_at hl 0 rfl) ?_
        rw [hQf]
        exact j_ireti hx hb hr hlocks hG h (by decide) dX10_occurrence_98
      · rcases em_eqI (a3) 2 with c25 | c25_2
        · refine j_tsw hx hb dX10_occurrence_55 g24 (k := 2) (tgt := 99) c25 ⟨by decide, by decide, rfl⟩ (by decide) ?_
          have h := h.2.2.1 c25
          refine lv_aload hx hb dX10_occurrence_99 (lv_at hl 2 rfl) ?_
          refine j_getr hx hb hts hown hK hG (k := a0 + 2 * a1 + 28) (fun w h => List.mem_cons_of_mem _ (u_X4 w h)) (ci := 3) rfl k17 10 (k2 := a0 + 2 * a1 + 29) (by decide) (by show (a0 + 2 * a1 + 28) + (1 : Int) = a0 + 2 * a1 + 29; omega) w_fl_RX10_304 dX10_occurrence_101 ?_
          refine lv_iload_n hx hb dX10_occurrence_104 rfl (lv_at hl 5 rfl) ?_
          obtain ⟨g27, h⟩ := h
          refine j_iald hx hb hK hG (n := 40) (show kd (a0 + 2 * a1 + 29) = 1040 from (show (a0 + 2 * a1 + 28) + 1 = a0 + 2 * a1 + 29 from by omega) ▸ (kf_4_10 k17)) (by decide) g27 dX10_occurrence_105 ?_
          rw [hQf]
          exact j_ireti hx hb hr hlocks hG h (by decide) dX10_occurrence_106
        · rcases em_eqI (a3) 3 with c25 | c25_3
          · refine j_tsw hx hb dX10_occurrence_55 g24 (k := 3) (tgt := 107) c25 ⟨by decide, by decide, rfl⟩ (by decide) ?_
            have h := h.2.2.2.1 c25
            refine lv_aload hx hb dX10_occurrence_107 (lv_at hl 2 rfl) ?_
            refine lv_aload hx hb dX10_occurrence_109 (lv_at hl 1 rfl) ?_
            refine lv_iload_n hx hb dX10_occurrence_111 rfl (lv_at hl 5 rfl) ?_
            obtain ⟨g28, h⟩ := h
            refine j_conti (va_runS (As := [.ref (rA o (a0 + 2 * a1 + 28)), .ref (rA o k18), .int (J a2)]) (rest := []) ⟨hx, hb, hml, hown, hts⟩ (A_X10_stateOf l k17 hk18 g28) (va_cwS 3 hts (gj_S ml_RX10_348 i_X10_stateOf n_RX10 k_X10_stateOf) rfl rfl rfl (by decide +kernel) ⟨by exact Nat.le_of_ble_eq_true rfl, by exact Nat.le_of_ble_eq_true rfl⟩) (j_preS hK hSX hG) rfl rfl hl.1 rfl (lv_room (Nat.le_of_ble_eq_true rfl)) dX10_occurrence_112 ⟨by exact Nat.le_of_ble_eq_true rfl, by exact Nat.le_of_ble_eq_true rfl⟩) hG (c2 := 0) (s2 := 0) ⟨by exact Nat.le_of_ble_eq_true rfl, by exact Nat.le_of_ble_eq_true rfl⟩ (fun z29 M30 ez29 H locs hG => ?_)
            obtain ⟨ez29, eM30⟩ := ez29
            subst ez29
            rw [eM30] at hG
            rw [hQf]
            exact j_ireti hx hb hr hlocks hG h (by decide) dX10_occurrence_115
          · rcases em_eqI (a3) 4 with c25 | c25_4
            · refine j_tsw hx hb dX10_occurrence_55 g24 (k := 4) (tgt := 116) c25 ⟨by decide, by decide, rfl⟩ (by decide) ?_
              have h := h.2.2.2.2.1 c25
              refine lv_iload hx hb dX10_occurrence_116 (lv_at hl 0 rfl) ?_
              obtain ⟨g31, h⟩ := h
              refine j_conti (va_runS (As := [.int (J x23)]) (rest := []) ⟨hx, hb, hml, hown, hts⟩ (A_X10_isLocal l g31) (va_cwS 1 hts (gj_S ml_RX10_234 i_X10_isLocal n_RX10 k_X10_isLocal) rfl rfl rfl (by decide +kernel) ⟨by exact Nat.le_of_ble_eq_true rfl, by exact Nat.le_of_ble_eq_true rfl⟩) (j_preS hK hSX hG) rfl rfl hl.1 rfl (lv_room (Nat.le_of_ble_eq_true rfl)) dX10_occurrence_118 ⟨by exact Nat.le_of_ble_eq_true rfl, by exact Nat.le_of_ble_eq_true rfl⟩) hG (c2 := 0) (s2 := 0) ⟨by exact Nat.le_of_ble_eq_true rfl, by exact Nat.le_of_ble_eq_true rfl⟩ (fun z32 M33 ez32 H locs hG => ?_)
              obtain ⟨ez32, eM33⟩ := ez32
              subst ez32
              rw [eM33] at hG
              obtain ⟨K39, hK39, h⟩ := h
              have jK39 : ∀ (x37 : Int) (M38 : jT), K39 x37 M38 → ∀ (H : Heap) (locs : List Loc), GM D cy o M38 s.heap H locs → ∀ ls : Array Slot, lv_has ls 7 [] → W p l e rom_X10_occurrence s m args below meth c H locs 0 0 Qf (F0 m 139 ls [.int (J x37)]) := by
                intro x37 M38 hcK39 H locs hG ls hl
                have h := hK39 x37 M38 hcK39
                rw [hQf]
                exact j_ireti hx hb hr hlocks hG h (by decide) dX10_occurrence_139
              refine j_if_eq_b (tgt := 138) hx hb dX10_occurrence_121 (by decide) (fun c40 => ?_) (fun c40 => ?_)
              · have h := h.1 c40
                refine lv_iconst (v := J (-1)) hx hb dX10_occurrence_138 (by decide) ?_
                exact jK39 ((-1)) M19 h H locs hG ls (lv_sub hl [] rfl)
              · have h := h.2 c40
                refine lv_aload_n hx hb dX10_occurrence_124 rfl (lv_at hl 3 rfl) ?_
                refine lv_aload hx hb dX10_occurrence_125 (lv_at hl 2 rfl) ?_
                refine j_geti hx hb hts hown hK hG (k := a0 + 2 * a1 + 28) (fun w h => List.mem_cons_of_mem _ (u_X4 w h)) (ci := 3) rfl k17 0 (by decide) (jz := 0) rfl w_fl_RX10_311 dX10_occurrence_127 ?_
                refine lv_iload hx hb dX10_occurrence_130 (lv_at hl 0 rfl) ?_
                refine j_conti (va_runV (As := [.int (J (M19 (a0 + 2 * a1 + 28) 0)), .int (J x23)]) (rest := []) ⟨hx, hb, hml, hown, hts⟩ (Ao_X10_instants l ka0 h) (cwV 2 hts (gj_V ml_RX10_352 i_X10_instants s_X10_instants n_RX10 k_X10_instants) rfl rfl rfl (by decide +kernel) ⟨by exact Nat.le_of_ble_eq_true rfl, by exact Nat.le_of_ble_eq_true rfl⟩) (j_preV hK hSX hG (ci := 9) rfl ka0 (by decide)) rfl rfl hl.1 rfl (lv_room (Nat.le_of_ble_eq_true rfl)) dX10_occurrence_132 ⟨by exact Nat.le_of_ble_eq_true rfl, by exact Nat.le_of_ble_eq_true rfl⟩) hG (c2 := 0) (s2 := 0) ⟨by exact Nat.le_of_ble_eq_true rfl, by exact Nat.le_of_ble_eq_true rfl⟩ (fun z41 M42 h H locs hG => ?_)
                refine lv_goto (tgt := 139) hx hb dX10_occurrence_135 (by decide) ?_
                exact jK39 z41 M42 h H locs hG ls (lv_sub hl [] rfl)
            · have c25 : a3 ≠ 0 ∧ a3 ≠ 1 ∧ a3 ≠ 2 ∧ a3 ≠ 3 ∧ a3 ≠ 4 := ⟨c25_0, c25_1, c25_2, c25_3, c25_4⟩
              have h := h.2.2.2.2.2 c25
              refine j_tswd hx hb dX10_occurrence_55 g24 (tgt := 140) (by omega) (by decide) ?_
              refine lv_aload hx hb dX10_occurrence_140 (lv_at hl 1 rfl) ?_
              refine lv_aload hx hb dX10_occurrence_142 (lv_at hl 2 rfl) ?_
              refine lv_iload_n hx hb dX10_occurrence_144 rfl (lv_at hl 5 rfl) ?_
              obtain ⟨g43, h⟩ := h
              refine j_conti (va_runV (As := [.ref (rA o (a0 + 2 * a1 + 28)), .int (J a2)]) (rest := []) ⟨hx, hb, hml, hown, hts⟩ (A_X5_takesPlace l hk18 k17 g43) (cwV 2 hts (gj_V ml_RX10_355 i_X5_takesPlace s_X5_takesPlace n_RX5 k_X5_takesPlace) rfl rfl rfl (by decide +kernel) ⟨by exact Nat.le_of_ble_eq_true rfl, by exact Nat.le_of_ble_eq_true rfl⟩) (j_preV hK hSX hG (ci := 4) rfl hk18 (by decide)) rfl rfl hl.1 rfl (lv_room (Nat.le_of_ble_eq_true rfl)) dX10_occurrence_145 ⟨by exact Nat.le_of_ble_eq_true rfl, by exact Nat.le_of_ble_eq_true rfl⟩) hG (c2 := 0) (s2 := 0) ⟨by exact Nat.le_of_ble_eq_true rfl, by exact Nat.le_of_ble_eq_true rfl⟩ (fun z44 M45 ez44 H locs hG => ?_)
              obtain ⟨ez44, eM45⟩ := ez44
              subst ez44
              rw [eM45] at hG
              refine j_contv (va_runS (As := [.int (J (b2i (pb_X5_takesPlace M19 k18 (a0 + 2 * a1 + 28) a2)))]) (rest := []) ⟨hx, hb, hml, hown, hts⟩ (Ao_X10_needElement l h) (va_cwS 1 hts (gj_S ml_RX10_184 i_X10_needElement n_RX10 k_X10_needElement) rfl rfl rfl (by decide +kernel) ⟨by exact Nat.le_of_ble_eq_true rfl, by exact Nat.le_of_ble_eq_true rfl⟩) (j_preS hK hSX hG) rfl rfl hl.1 rfl (lv_room (Nat.le_of_ble_eq_true rfl)) dX10_occurrence_148 ⟨by exact Nat.le_of_ble_eq_true rfl, by exact Nat.le_of_ble_eq_true rfl⟩) hG (c2 := 0) (s2 := 0) ⟨by exact Nat.le_of_ble_eq_true rfl, by exact Nat.le_of_ble_eq_true rfl⟩ (fun M47 h H locs hG => ?_)
              obtain ⟨h, eM47⟩ := h
              rw [eM47] at hG
              refine lv_aload hx hb dX10_occurrence_151 (lv_at hl 1 rfl) ?_
              refine j_getr hx hb hts hown hK hG (k := k18) (fun w h => List.mem_cons_of_mem _ (u_X5 w h)) (ci := 4) rfl hk18 4 (k2 := k18 + 2) (by decide) (by show k18 + (2 : Int) = k18 + 2; omega) w_fl_RX10_359 dX10_occurrence_153 ?_
              refine lv_iload_n hx hb dX10_occurrence_156 rfl (lv_at hl 5 rfl) ?_
              obtain ⟨g48, h⟩ := h
              refine j_iald hx hb hK hG (n := 40) (kf_5_4 hk18) (by decide) g48 dX10_occurrence_157 ?_
              rw [hQf]
              exact j_ireti hx hb hr hlocks hG h (by decide) dX10_occurrence_158
  obtain ⟨K52, hK52, h⟩ := h
  have jK52 : K52 → ∀ (H : Heap) (locs : List Loc), GM D cy o M2 s.heap H locs → ∀ ls : Array Slot, lv_has ls 7 [(0, .ref (rA o a0)), (1, .int (J a1)), (2, .int (J a2)), (3, .int (J a3))] → W p l e rom_X10_occurrence s m args below meth c H locs 0 0 Qf (F0 m 22 ls []) := by
    intro hcK52 H locs hG ls hl
    have h := hK52 hcK52
    refine lv_iconst (v := J 0) hx hb dX10_occurrence_22 (by decide) ?_
    exact jK13 0 h H locs hG ls (lv_sub hl [0, 1, 2, 3] rfl)
  obtain ⟨g54, h⟩ := h
  refine j_if_lt (tgt := 22) hx hb dX10_occurrence_10 (by decide) g54 (fun c53 => ?_) (fun c53 => ?_)
  · have h := h.1 c53
    exact jK52 h H locs hG ls (lv_sub hl [0, 1, 2, 3] rfl)
  · have h := h.2 c53
    refine lv_iload_n hx hb dX10_occurrence_13 rfl (lv_at hl 3 rfl) ?_
    refine lv_iconst (v := J 5) hx hb dX10_occurrence_14 (by decide) ?_
    refine j_icmp_gt (tgt := 22) hx hb dX10_occurrence_15 (by decide) g54 (by decide) (fun c55 => ?_) (fun c55 => ?_)
    · have h := h.1 c55
      exact jK52 h H locs hG ls (lv_sub hl [0, 1, 2, 3] rfl)
    · have h := h.2 c55
      refine lv_iconst (v := J 1) hx hb dX10_occurrence_18 (by decide) ?_
      refine lv_goto (tgt := 23) hx hb dX10_occurrence_19 (by decide) ?_
      exact jK13 1 h H locs hG ls (lv_sub hl [0, 1, 2, 3] rfl)
abbrev rm_X10_occurrence : Room := { frames := 9, cells := 1, slots := 6, locals := 154 }
set_option maxRecDepth 100000 in
set_option maxHeartbeats 4000000 in
theorem A_X10_occurrence (l : Launch) (hst : l.stackTraces = false) {D : va_G} {cy : Nat → ClassId} {o : Nat} {sK sV : Nat → Nat} {M : jT} {a0 : Int} {a1 : Int} {a2 : Int} {a3 : Int} (ka0 : kd a0 = 10) {Q : Int → jT → Prop} {X : Nat → jT → Prop} (h : wp_X10_occurrence M a0 a1 a2 a3 Q X) : CxI l yX10_occurrence (wj yX10_occurrence cX10_occurrence 7 (some .int)) rm_X10_occurrence D cy o sK sV M [.ref (rA o a0), .int (J a1), .int (J a2), .int (J a3)] Q X := by
  refine j_ofWx (cc := cX10_occurrence) (maxL := 7) (ret := (some .int)) (by decide) rfl (Nat.le_of_ble_eq_true rfl) ?_
  intro p e s m args below meth c hx hb hr hlocks hout hml hown hts hK hSX H locs hsz hG ls hl Qf hQf
  have hown : s.vm.findClass RX10 = some m.cls := hown
  have hl : lv_has ls 7 [(0, .ref (rA o a0)), (1, .int (J a1)), (2, .int (J a2)), (3, .int (J a3))] := hl
  have w_fl_RX10_12 := hts _ (List.mem_cons_of_mem _ fl_RX10_12)
  have w_fl_RX10_269 := hts _ (List.mem_cons_of_mem _ fl_RX10_269)
  have w_fl_RX10_345 := hts _ (List.mem_cons_of_mem _ fl_RX10_345)
  have w_fl_RX10_304 := hts _ (List.mem_cons_of_mem _ fl_RX10_304)
  have w_fl_RX10_311 := hts _ (List.mem_cons_of_mem _ fl_RX10_311)
  have w_fl_RX10_359 := hts _ (List.mem_cons_of_mem _ fl_RX10_359)
  unfold wp_X10_occurrence at h
  refine lv_aload_n hx hb dX10_occurrence_0 rfl (lv_at hl 0 rfl) ?_
  refine lv_iload_n hx hb dX10_occurrence_1 rfl (lv_at hl 1 rfl) ?_
  refine lv_iload_n hx hb dX10_occurrence_2 rfl (lv_at hl 2 rfl) ?_
  refine j_conti (va_runV (As := [.int (J a1), .int (J a2)]) (rest := []) ⟨hx, hb, hml, hown, hts⟩ (A_X10_occurrenceFault l ka0 h) (cwV 2 hts (gj_V ml_RX10_298 i_X10_occurrenceFault s_X10_occurrenceFault n_RX10 k_X10_occurrenceFault) rfl rfl rfl (by decide +kernel) ⟨by exact Nat.le_of_ble_eq_true rfl, by exact Nat.le_of_ble_eq_true rfl⟩) (j_preV hK hSX hG (ci := 9) rfl ka0 (by decide)) rfl rfl hl.1 rfl (lv_room (Nat.le_of_ble_eq_true rfl)) dX10_occurrence_3 ⟨by exact Nat.le_of_ble_eq_true rfl, by exact Nat.le_of_ble_eq_true rfl⟩) hG (c2 := 0) (s2 := 0) ⟨by exact Nat.le_of_ble_eq_true rfl, by exact Nat.le_of_ble_eq_true rfl⟩ (fun z1 M2 h H locs hG => ?_)
  rcases h with h | h
  · refine j_contv (va_runS (As := [.int (J z1)]) (rest := []) ⟨hx, hb, hml, hown, hts⟩ (Ao_X10_refuse l h) (va_cwS 1 hts (gj_S ml_RX10_107 i_X10_refuse n_RX10 k_X10_refuse) rfl rfl rfl (by decide +kernel) ⟨by exact Nat.le_of_ble_eq_true rfl, by exact Nat.le_of_ble_eq_true rfl⟩) (j_preS hK hSX hG) rfl rfl hl.1 rfl (lv_room (Nat.le_of_ble_eq_true rfl)) dX10_occurrence_6 ⟨by exact Nat.le_of_ble_eq_true rfl, by exact Nat.le_of_ble_eq_true rfl⟩) hG (c2 := 0) (s2 := 0) ⟨by exact Nat.le_of_ble_eq_true rfl, by exact Nat.le_of_ble_eq_true rfl⟩ (fun M4 h H locs hG => ?_)
    obtain ⟨h, eM4⟩ := h
    rw [eM4] at hG
    refine lv_iload_n hx hb dX10_occurrence_9 rfl (lv_at hl 3 rfl) ?_
    obtain ⟨K13, hK13, h⟩ := h
    have jK13 : ∀ (x12 : Int), K13 x12 → ∀ (H : Heap) (locs : List Loc), GM D cy o M2 s.heap H locs → ∀ ls : Array Slot, lv_has ls 7 [(0, .ref (rA o a0)), (1, .int (J a1)), (2, .int (J a2)), (3, .int (J a3))] → W p l e rm_X10_occurrence s m args below meth c H locs 0 0 Qf (F0 m 23 ls [.int (J x12)]) := by
      intro x12 hcK13 H locs hG ls hl
      have h := hK13 x12 hcK13
      rcases h with h | h
      · refine j_contv (va_runS (As := [.int (J x12)]) (rest := []) ⟨hx, hb, hml, hown, hts⟩ (Ao_X10_needArgument l h) (va_cwS 1 hts (gj_S ml_RX10_72 i_X10_needArgument n_RX10 k_X10_needArgument) rfl rfl rfl (by decide +kernel) ⟨by exact Nat.le_of_ble_eq_true rfl, by exact Nat.le_of_ble_eq_true rfl⟩) (j_preS hK hSX hG) rfl rfl hl.1 rfl (lv_room (Nat.le_of_ble_eq_true rfl)) dX10_occurrence_23 ⟨by exact Nat.le_of_ble_eq_true rfl, by exact Nat.le_of_ble_eq_true rfl⟩) hG (c2 := 0) (s2 := 0) ⟨by exact Nat.le_of_ble_eq_true rfl, by exact Nat.le_of_ble_eq_true rfl⟩ (fun M15 h H locs hG => ?_)
        obtain ⟨h, eM15⟩ := h
        rw [eM15] at hG
        refine lv_aload_n hx hb dX10_occurrence_26 rfl (lv_at hl 0 rfl) ?_
        refine j_getr hx hb hts hown hK hG (k := a0) (fun w h => List.mem_cons_of_mem _ (u_X10 w h)) (ci := 9) rfl ka0 0 (k2 := a0 + 1) (by decide) (by show a0 + (1 : Int) = a0 + 1; omega) w_fl_RX10_12 dX10_occurrence_27 ?_
        refine j_getr hx hb hts hown hK hG (k := a0 + 1) (fun w h => List.mem_cons_of_mem _ (u_X0 w h)) (ci := 0) rfl (kf_10_0 ka0) 3 (k2 := a0 + 3) (by decide) (by show (a0 + 1) + (2 : Int) = a0 + 3; omega) w_fl_RX10_269 dX10_occurrence_30 ?_
        refine lv_iload_n hx hb dX10_occurrence_33 rfl (lv_at hl 1 rfl) ?_
        obtain ⟨g16, h⟩ := h
        refine j_aald hx hb hK hG (t := 21) (t0 := 4) (k2 := a0 + 2 * a1 + 28) (show kd (a0 + 3) = 21 from (show (a0 + 1) + 2 = a0 + 3 from by omega) ▸ (kf_1_3 (kf_10_0 ka0))) (by decide) rfl g16 (by simp only [ra_21]; omega) dX10_occurrence_34 ?_
        have k17 : kd (a0 + 2 * a1 + 28) = 4 := by have q9 := (ka_21 (show kd (a0 + 3) = 21 from (show (a0 + 1) + 2 = a0 + 3 from by omega) ▸ (kf_1_3 (kf_10_0 ka0))) g16); rwa [show (a0 + 3) + 25 + 2 * a1 = a0 + 2 * a1 + 28 from by omega] at q9
        refine lv_astore (lv' := [(4, .ref (rA o (a0 + 2 * a1 + 28))), (0, .ref (rA o a0)), (1, .int (J a1)), (2, .int (J a2)), (3, .int (J a3))]) hx hb dX10_occurrence_35 hl (by decide) rfl (fun ls hl => ?_)
        refine lv_aload_n hx hb dX10_occurrence_37 rfl (lv_at hl 1 rfl) ?_
        refine lv_iload_n hx hb dX10_occurrence_38 rfl (lv_at hl 2 rfl) ?_
        refine j_contr (va_runV (As := [.int (J a1)]) (rest := []) ⟨hx, hb, hml, hown, hts⟩ (A_X10_timed l ka0 h) (cwV 1 hts (gj_V ml_RX10_335 i_X10_timed s_X10_timed n_RX10 k_X10_timed) rfl rfl rfl (by decide +kernel) ⟨by exact Nat.le_of_ble_eq_true rfl, by exact Nat.le_of_ble_eq_true rfl⟩) (j_preV hK hSX hG (ci := 9) rfl ka0 (by decide)) rfl rfl hl.1 rfl (lv_room (Nat.le_of_ble_eq_true rfl)) dX10_occurrence_39 ⟨by exact Nat.le_of_ble_eq_true rfl, by exact Nat.le_of_ble_eq_true rfl⟩) hG (c2 := 0) (s2 := 0) ⟨by exact Nat.le_of_ble_eq_true rfl, by exact Nat.le_of_ble_eq_true rfl⟩ (fun k18 M19 h hk18 H locs hG => ?_)
        refine lv_astore (lv' := [(5, .ref (rA o k18)), (4, .ref (rA o (a0 + 2 * a1 + 28))), (0, .ref (rA o a0)), (1, .int (J a1)), (2, .int (J a2)), (3, .int (J a3))]) hx hb dX10_occurrence_42 hl (by decide) rfl (fun ls hl => ?_)
        refine lv_aload hx hb dX10_occurrence_44 (lv_at hl 0 rfl) ?_
        refine lv_aload hx hb dX10_occurrence_46 (lv_at hl 1 rfl) ?_
        refine lv_iload_n hx hb dX10_occurrence_48 rfl (lv_at hl 4 rfl) ?_
        obtain ⟨g20, h⟩ := h
        refine j_conti (va_runV (As := [.ref (rA o (a0 + 2 * a1 + 28)), .int (J a2)]) (rest := []) ⟨hx, hb, hml, hown, hts⟩ (A_X5_localOf l hk18 k17 g20) (cwV 2 hts (gj_V ml_RX10_341 i_X5_localOf s_X5_localOf n_RX5 k_X5_localOf) rfl rfl rfl (by decide +kernel) ⟨by exact Nat.le_of_ble_eq_true rfl, by exact Nat.le_of_ble_eq_true rfl⟩) (j_preV hK hSX hG (ci := 4) rfl hk18 (by decide)) rfl rfl hl.1 rfl (lv_room (Nat.le_of_ble_eq_true rfl)) dX10_occurrence_49 ⟨by exact Nat.le_of_ble_eq_true rfl, by exact Nat.le_of_ble_eq_true rfl⟩) hG (c2 := 0) (s2 := 0) ⟨by exact Nat.le_of_ble_eq_true rfl, by exact Nat.le_of_ble_eq_true rfl⟩ (fun z21 M22 ez21 H locs hG => ?_)
        obtain ⟨ez21, eM22⟩ := ez21
        subst ez21
        rw [eM22] at hG
        refine j_topi (fun x23 ex23 => ?_)
        have h := h x23 ex23
        refine lv_istore (lv' := [(6, .int (J x23)), (5, .ref (rA o k18)), (4, .ref (rA o (a0 + 2 * a1 + 28))), (0, .ref (rA o a0)), (1, .int (J a1)), (2, .int (J a2)), (3, .int (J a3))]) hx hb dX10_occurrence_52 hl (by decide) rfl (fun ls hl => ?_)
        refine lv_iload_n hx hb dX10_occurrence_54 rfl (lv_at hl 6 rfl) ?_
        obtain ⟨g24, h⟩ := h
        rcases em_eqI (a3) 0 with c25 | c25_0
        · refine j_tsw hx hb dX10_occurrence_55 g24 (k := 0) (tgt := 88) c25 ⟨by decide, by decide, rfl⟩ (by decide) ?_
          have h := h.1 c25
          refine lv_aload hx hb dX10_occurrence_88 (lv_at hl 1 rfl) ?_
          refine j_getr hx hb hts hown hK hG (k := k18) (fun w h => List.mem_cons_of_mem _ (u_X5 w h)) (ci := 4) rfl hk18 3 (k2 := k18 + 1) (by decide) (by show k18 + (1 : Int) = k18 + 1; omega) w_fl_RX10_345 dX10_occurrence_90 ?_
          refine lv_iload_n hx hb dX10_occurrence_93 rfl (lv_at hl 5 rfl) ?_
          obtain ⟨g26, h⟩ := h
          refine j_iald hx hb hK hG (n := 40) (kf_5_3 hk18) (by decide) g26 dX10_occurrence_94 ?_
          rw [hQf]
          exact vx_ret (j_ireti hx hb hr hlocks hG h (by decide) dX10_occurrence_95)
        · rcases em_eqI (a3) 1 with c25 | c25_1
          · refine j_tsw hx hb dX10_occurrence_55 g24 (k := 1) (tgt := 96) c25 ⟨by decide, by decide, rfl⟩ (by decide) ?_
            have h := h.2.1 c25
            refine lv_iload hx hb dX10_occurrence_96 (lv_at hl 0 rfl) ?_
            rw [hQf]
            exact vx_ret (j_ireti hx hb hr hlocks hG h (by decide) dX10_occurrence_98)
          · rcases em_eqI (a3) 2 with c25 | c25_2
            · refine j_tsw hx hb dX10_occurrence_55 g24 (k := 2) (tgt := 99) c25 ⟨by decide, by decide, rfl⟩ (by decide) ?_
              have h := h.2.2.1 c25
              refine lv_aload hx hb dX10_occurrence_99 (lv_at hl 2 rfl) ?_
              refine j_getr hx hb hts hown hK hG (k := a0 + 2 * a1 + 28) (fun w h => List.mem_cons_of_mem _ (u_X4 w h)) (ci := 3) rfl k17 10 (k2 := a0 + 2 * a1 + 29) (by decide) (by show (a0 + 2 * a1 + 28) + (1 : Int) = a0 + 2 * a1 + 29; omega) w_fl_RX10_304 dX10_occurrence_101 ?_
              refine lv_iload_n hx hb dX10_occurrence_104 rfl (lv_at hl 5 rfl) ?_
              obtain ⟨g27, h⟩ := h
              refine j_iald hx hb hK hG (n := 40) (show kd (a0 + 2 * a1 + 29) = 1040 from (show (a0 + 2 * a1 + 28) + 1 = a0 + 2 * a1 + 29 from by omega) ▸ (kf_4_10 k17)) (by decide) g27 dX10_occurrence_105 ?_
              rw [hQf]
              exact vx_ret (j_ireti hx hb hr hlocks hG h (by decide) dX10_occurrence_106)
            · rcases em_eqI (a3) 3 with c25 | c25_3
              · refine j_tsw hx hb dX10_occurrence_55 g24 (k := 3) (tgt := 107) c25 ⟨by decide, by decide, rfl⟩ (by decide) ?_
                have h := h.2.2.2.1 c25
                refine lv_aload hx hb dX10_occurrence_107 (lv_at hl 2 rfl) ?_
                refine lv_aload hx hb dX10_occurrence_109 (lv_at hl 1 rfl) ?_
                refine lv_iload_n hx hb dX10_occurrence_111 rfl (lv_at hl 5 rfl) ?_
                obtain ⟨g28, h⟩ := h
                refine j_conti (va_runS (As := [.ref (rA o (a0 + 2 * a1 + 28)), .ref (rA o k18), .int (J a2)]) (rest := []) ⟨hx, hb, hml, hown, hts⟩ (A_X10_stateOf l k17 hk18 g28) (va_cwS 3 hts (gj_S ml_RX10_348 i_X10_stateOf n_RX10 k_X10_stateOf) rfl rfl rfl (by decide +kernel) ⟨by exact Nat.le_of_ble_eq_true rfl, by exact Nat.le_of_ble_eq_true rfl⟩) (j_preS hK hSX hG) rfl rfl hl.1 rfl (lv_room (Nat.le_of_ble_eq_true rfl)) dX10_occurrence_112 ⟨by exact Nat.le_of_ble_eq_true rfl, by exact Nat.le_of_ble_eq_true rfl⟩) hG (c2 := 0) (s2 := 0) ⟨by exact Nat.le_of_ble_eq_true rfl, by exact Nat.le_of_ble_eq_true rfl⟩ (fun z29 M30 ez29 H locs hG => ?_)
                obtain ⟨ez29, eM30⟩ := ez29
                subst ez29
                rw [eM30] at hG
                rw [hQf]
                exact vx_ret (j_ireti hx hb hr hlocks hG h (by decide) dX10_occurrence_115)
              · rcases em_eqI (a3) 4 with c25 | c25_4
                · refine j_tsw hx hb dX10_occurrence_55 g24 (k := 4) (tgt := 116) c25 ⟨by decide, by decide, rfl⟩ (by decide) ?_
                  have h := h.2.2.2.2.1 c25
                  refine lv_iload hx hb dX10_occurrence_116 (lv_at hl 0 rfl) ?_
                  obtain ⟨g31, h⟩ := h
                  refine j_conti (va_runS (As := [.int (J x23)]) (rest := []) ⟨hx, hb, hml, hown, hts⟩ (A_X10_isLocal l g31) (va_cwS 1 hts (gj_S ml_RX10_234 i_X10_isLocal n_RX10 k_X10_isLocal) rfl rfl rfl (by decide +kernel) ⟨by exact Nat.le_of_ble_eq_true rfl, by exact Nat.le_of_ble_eq_true rfl⟩) (j_preS hK hSX hG) rfl rfl hl.1 rfl (lv_room (Nat.le_of_ble_eq_true rfl)) dX10_occurrence_118 ⟨by exact Nat.le_of_ble_eq_true rfl, by exact Nat.le_of_ble_eq_true rfl⟩) hG (c2 := 0) (s2 := 0) ⟨by exact Nat.le_of_ble_eq_true rfl, by exact Nat.le_of_ble_eq_true rfl⟩ (fun z32 M33 ez32 H locs hG => ?_)
                  obtain ⟨ez32, eM33⟩ := ez32
                  subst ez32
                  rw [eM33] at hG
                  obtain ⟨K39, hK39, h⟩ := h
                  have jK39 : ∀ (x37 : Int) (M38 : jT), K39 x37 M38 → ∀ (H : Heap) (locs : List Loc), GM D cy o M38 s.heap H locs → ∀ ls : Array Slot, lv_has ls 7 [] → W p l e rm_X10_occurrence s m args below meth c H locs 0 0 Qf (F0 m 139 ls [.int (J x37)]) := by
                    intro x37 M38 hcK39 H locs hG ls hl
                    have h := hK39 x37 M38 hcK39
                    rw [hQf]
                    exact vx_ret (j_ireti hx hb hr hlocks hG h (by decide) dX10_occurrence_139)
                  refine j_if_eq_b (tgt := 138) hx hb dX10_occurrence_121 (by decide) (fun c40 => ?_) (fun c40 => ?_)
                  · have h := h.1 c40
                    refine lv_iconst (v := J (-1)) hx hb dX10_occurrence_138 (by decide) ?_
                    exact jK39 ((-1)) M19 h H locs hG ls (lv_sub hl [] rfl)
                  · have h := h.2 c40
                    refine lv_aload_n hx hb dX10_occurrence_124 rfl (lv_at hl 3 rfl) ?_
                    refine lv_aload hx hb dX10_occurrence_125 (lv_at hl 2 rfl) ?_
                    refine j_geti hx hb hts hown hK hG (k := a0 + 2 * a1 + 28) (fun w h => List.mem_cons_of_mem _ (u_X4 w h)) (ci := 3) rfl k17 0 (by decide) (jz := 0) rfl w_fl_RX10_311 dX10_occurrence_127 ?_
                    refine lv_iload hx hb dX10_occurrence_130 (lv_at hl 0 rfl) ?_
                    rcases h with h | h
                    · refine j_conti (va_runV (As := [.int (J (M19 (a0 + 2 * a1 + 28) 0)), .int (J x23)]) (rest := []) ⟨hx, hb, hml, hown, hts⟩ (Ao_X10_instants l ka0 h) (cwV 2 hts (gj_V ml_RX10_352 i_X10_instants s_X10_instants n_RX10 k_X10_instants) rfl rfl rfl (by decide +kernel) ⟨by exact Nat.le_of_ble_eq_true rfl, by exact Nat.le_of_ble_eq_true rfl⟩) (j_preV hK hSX hG (ci := 9) rfl ka0 (by decide)) rfl rfl hl.1 rfl (lv_room (Nat.le_of_ble_eq_true rfl)) dX10_occurrence_132 ⟨by exact Nat.le_of_ble_eq_true rfl, by exact Nat.le_of_ble_eq_true rfl⟩) hG (c2 := 0) (s2 := 0) ⟨by exact Nat.le_of_ble_eq_true rfl, by exact Nat.le_of_ble_eq_true rfl⟩ (fun z41 M42 h H locs hG => ?_)
                      refine lv_goto (tgt := 139) hx hb dX10_occurrence_135 (by decide) ?_
                      exact jK39 z41 M42 h H locs hG ls (lv_sub hl [] rfl)
                    · refine j_contxi (vx_runV (As := [.int (J (M19 (a0 + 2 * a1 + 28) 0)), .int (J x23)]) (rest := []) ⟨hx, hb, hml, hown, hts⟩ (A_X10_instants l hst ka0 h) (cwV 2 hts (gj_V ml_RX10_352 i_X10_instants s_X10_instants n_RX10 k_X10_instants) rfl rfl rfl (by decide +kernel) ⟨by exact Nat.le_of_ble_eq_true rfl, by exact Nat.le_of_ble_eq_true rfl⟩) (j_preV hK hSX hG (ci := 9) rfl ka0 (by decide)) rfl rfl hl.1 rfl (lv_room (Nat.le_of_ble_eq_true rfl)) dX10_occurrence_132 ⟨by exact Nat.le_of_ble_eq_true rfl, by exact Nat.le_of_ble_eq_true rfl⟩) hG (c2 := 1) (s2 := 6) ⟨by exact Nat.le_of_ble_eq_true rfl, by exact Nat.le_of_ble_eq_true rfl⟩ (fun x M h ce q H locs hG h1 h2 h3 => ?_) (fun z M h H locs hG => h.elim)
                      rw [hQf]
                      exact j_xout hlocks hout hG h h1 h2 h3 (by decide)
                · have c25 : a3 ≠ 0 ∧ a3 ≠ 1 ∧ a3 ≠ 2 ∧ a3 ≠ 3 ∧ a3 ≠ 4 := ⟨c25_0, c25_1, c25_2, c25_3, c25_4⟩
                  have h := h.2.2.2.2.2 c25
                  refine j_tswd hx hb dX10_occurrence_55 g24 (tgt := 140) (by omega) (by decide) ?_
                  refine lv_aload hx hb dX10_occurrence_140 (lv_at hl 1 rfl) ?_
                  refine lv_aload hx hb dX10_occurrence_142 (lv_at hl 2 rfl) ?_
                  refine lv_iload_n hx hb dX10_occurrence_144 rfl (lv_at hl 5 rfl) ?_
                  obtain ⟨g43, h⟩ := h
                  refine j_conti (va_runV (As := [.ref (rA o (a0 + 2 * a1 + 28)), .int (J a2)]) (rest := []) ⟨hx, hb, hml, hown, hts⟩ (A_X5_takesPlace l hk18 k17 g43) (cwV 2 hts (gj_V ml_RX10_355 i_X5_takesPlace s_X5_takesPlace n_RX5 k_X5_takesPlace) rfl rfl rfl (by decide +kernel) ⟨by exact Nat.le_of_ble_eq_true rfl, by exact Nat.le_of_ble_eq_true rfl⟩) (j_preV hK hSX hG (ci := 4) rfl hk18 (by decide)) rfl rfl hl.1 rfl (lv_room (Nat.le_of_ble_eq_true rfl)) dX10_occurrence_145 ⟨by exact Nat.le_of_ble_eq_true rfl, by exact Nat.le_of_ble_eq_true rfl⟩) hG (c2 := 0) (s2 := 0) ⟨by exact Nat.le_of_ble_eq_true rfl, by exact Nat.le_of_ble_eq_true rfl⟩ (fun z44 M45 ez44 H locs hG => ?_)
                  obtain ⟨ez44, eM45⟩ := ez44
                  subst ez44
                  rw [eM45] at hG
                  rcases h with h | h
                  · refine j_contv (va_runS (As := [.int (J (b2i (pb_X5_takesPlace M19 k18 (a0 + 2 * a1 + 28) a2)))]) (rest := []) ⟨hx, hb, hml, hown, hts⟩ (Ao_X10_needElement l h) (va_cwS 1 hts (gj_S ml_RX10_184 i_X10_needElement n_RX10 k_X10_needElement) rfl rfl rfl (by decide +kernel) ⟨by exact Nat.le_of_ble_eq_true rfl, by exact Nat.le_of_ble_eq_true rfl⟩) (j_preS hK hSX hG) rfl rfl hl.1 rfl (lv_room (Nat.le_of_ble_eq_true rfl)) dX10_occurrence_148 ⟨by exact Nat.le_of_ble_eq_true rfl, by exact Nat.le_of_ble_eq_true rfl⟩) hG (c2 := 0) (s2 := 0) ⟨by exact Nat.le_of_ble_eq_true rfl, by exact Nat.le_of_ble_eq_true rfl⟩ (fun M47 h H locs hG => ?_)
                    obtain ⟨h, eM47⟩ := h
                    rw [eM47] at hG
                    refine lv_aload hx hb dX10_occurrence_151 (lv_at hl 1 rfl) ?_
                    refine j_getr hx hb hts hown hK hG (k := k18) (fun w h => List.mem_cons_of_mem _ (u_X5 w h)) (ci := 4) rfl hk18 4 (k2 := k18 + 2) (by decide) (by show k18 + (2 : Int) = k18 + 2; omega) w_fl_RX10_359 dX10_occurrence_153 ?_
                    refine lv_iload_n hx hb dX10_occurrence_156 rfl (lv_at hl 5 rfl) ?_
                    obtain ⟨g48, h⟩ := h
                    refine j_iald hx hb hK hG (n := 40) (kf_5_4 hk18) (by decide) g48 dX10_occurrence_157 ?_
                    rw [hQf]
                    exact vx_ret (j_ireti hx hb hr hlocks hG h (by decide) dX10_occurrence_158)
                  · refine j_contxv (vx_runS (As := [.int (J (b2i (pb_X5_takesPlace M19 k18 (a0 + 2 * a1 + 28) a2)))]) (rest := []) ⟨hx, hb, hml, hown, hts⟩ (A_X10_needElement l hst h) (va_cwS 1 hts (gj_S ml_RX10_184 i_X10_needElement n_RX10 k_X10_needElement) rfl rfl rfl (by decide +kernel) ⟨by exact Nat.le_of_ble_eq_true rfl, by exact Nat.le_of_ble_eq_true rfl⟩) (j_preS hK hSX hG) rfl rfl hl.1 rfl (lv_room (Nat.le_of_ble_eq_true rfl)) dX10_occurrence_148 ⟨by exact Nat.le_of_ble_eq_true rfl, by exact Nat.le_of_ble_eq_true rfl⟩) hG (c2 := 1) (s2 := 6) ⟨by exact Nat.le_of_ble_eq_true rfl, by exact Nat.le_of_ble_eq_true rfl⟩ (fun x M h ce q H locs hG h1 h2 h3 => ?_) (fun M h H locs hG => h.elim)
                    rw [hQf]
                    exact j_xout hlocks hout hG h h1 h2 h3 (by decide)
      · refine j_contxv (vx_runS (As := [.int (J x12)]) (rest := []) ⟨hx, hb, hml, hown, hts⟩ (A_X10_needArgument l hst h) (va_cwS 1 hts (gj_S ml_RX10_72 i_X10_needArgument n_RX10 k_X10_needArgument) rfl rfl rfl (by decide +kernel) ⟨by exact Nat.le_of_ble_eq_true rfl, by exact Nat.le_of_ble_eq_true rfl⟩) (j_preS hK hSX hG) rfl rfl hl.1 rfl (lv_room (Nat.le_of_ble_eq_true rfl)) dX10_occurrence_23 ⟨by exact Nat.le_of_ble_eq_true rfl, by exact Nat.le_of_ble_eq_true rfl⟩) hG (c2 := 1) (s2 := 6) ⟨by exact Nat.le_of_ble_eq_true rfl, by exact Nat.le_of_ble_eq_true rfl⟩ (fun x M h ce q H locs hG h1 h2 h3 => ?_) (fun M h H locs hG => h.elim)
        rw [hQf]
        exact j_xout hlocks hout hG h h1 h2 h3 (by decide)
    obtain ⟨K52, hK52, h⟩ := h
    have jK52 : K52 → ∀ (H : Heap) (locs : List Loc), GM D cy o M2 s.heap H locs → ∀ ls : Array Slot, lv_has ls 7 [(0, .ref (rA o a0)), (1, .int (J a1)), (2, .int (J a2)), (3, .int (J a3))] → W p l e rm_X10_occurrence s m args below meth c H locs 0 0 Qf (F0 m 22 ls []) := by
      intro hcK52 H locs hG ls hl
      have h := hK52 hcK52
      refine lv_iconst (v := J 0) hx hb dX10_occurrence_22 (by decide) ?_
      exact jK13 0 h H locs hG ls (lv_sub hl [0, 1, 2, 3] rfl)
    obtain ⟨g54, h⟩ := h
    refine j_if_lt (tgt := 22) hx hb dX10_occurrence_10 (by decide) g54 (fun c53 => ?_) (fun c53 => ?_)
    · have h := h.1 c53
      exact jK52 h H locs hG ls (lv_sub hl [0, 1, 2, 3] rfl)
    · have h := h.2 c53
      refine lv_iload_n hx hb dX10_occurrence_13 rfl (lv_at hl 3 rfl) ?_
      refine lv_iconst (v := J 5) hx hb dX10_occurrence_14 (by decide) ?_
      refine j_icmp_gt (tgt := 22) hx hb dX10_occurrence_15 (by decide) g54 (by decide) (fun c55 => ?_) (fun c55 => ?_)
      · have h := h.1 c55
        exact jK52 h H locs hG ls (lv_sub hl [0, 1, 2, 3] rfl)
      · have h := h.2 c55
        refine lv_iconst (v := J 1) hx hb dX10_occurrence_18 (by decide) ?_
        refine lv_goto (tgt := 23) hx hb dX10_occurrence_19 (by decide) ?_
        exact jK13 1 h H locs hG ls (lv_sub hl [0, 1, 2, 3] rfl)
  · refine j_contxv (vx_runS (As := [.int (J z1)]) (rest := []) ⟨hx, hb, hml, hown, hts⟩ (A_X10_refuse l hst h) (va_cwS 1 hts (gj_S ml_RX10_107 i_X10_refuse n_RX10 k_X10_refuse) rfl rfl rfl (by decide +kernel) ⟨by exact Nat.le_of_ble_eq_true rfl, by exact Nat.le_of_ble_eq_true rfl⟩) (j_preS hK hSX hG) rfl rfl hl.1 rfl (lv_room (Nat.le_of_ble_eq_true rfl)) dX10_occurrence_6 ⟨by exact Nat.le_of_ble_eq_true rfl, by exact Nat.le_of_ble_eq_true rfl⟩) hG (c2 := 1) (s2 := 6) ⟨by exact Nat.le_of_ble_eq_true rfl, by exact Nat.le_of_ble_eq_true rfl⟩ (fun x M h ce q H locs hG h1 h2 h3 => ?_) (fun M h H locs hG => h.elim)
    rw [hQf]
    exact j_xout hlocks hout hG h h1 h2 h3 (by decide)

abbrev rom_X10_next : Room := { frames := 5, cells := 0, slots := 0, locals := 121 }
set_option maxRecDepth 100000 in
set_option maxHeartbeats 4000000 in
theorem Ao_X10_next (l : Launch) {D : va_G} {cy : Nat → ClassId} {o : Nat} {sK sV : Nat → Nat} {M : jT} {a0 : Int} {a1 : Int} {a2 : Int} (ka0 : kd a0 = 10) {Q : Int → jT → Prop} (h : wo_X10_next M a0 a1 a2 Q) : CoI l yX10_next (wj yX10_next cX10_next 7 (some .int)) rom_X10_next D cy o sK sV M [.ref (rA o a0), .int (J a1), .int (J a2)] Q := by
  refine j_ofW (cc := cX10_next) (maxL := 7) (ret := (some .int)) (by decide) rfl (Nat.le_of_ble_eq_true rfl) ?_
  intro p e s m args below meth c hx hb hr hlocks hml hown hts hK hSX H locs hG ls hl Qf hQf
  have hown : s.vm.findClass RX10 = some m.cls := hown
  have hl : lv_has ls 7 [(0, .ref (rA o a0)), (1, .int (J a1)), (2, .int (J a2))] := hl
  have w_fl_RX10_12 := hts _ (List.mem_cons_of_mem _ fl_RX10_12)
  have w_fl_RX10_269 := hts _ (List.mem_cons_of_mem _ fl_RX10_269)
  have w_fl_RX10_295 := hts _ (List.mem_cons_of_mem _ fl_RX10_295)
  have w_fl_RX10_359 := hts _ (List.mem_cons_of_mem _ fl_RX10_359)
  unfold wo_X10_next at h
  refine lv_aload_n hx hb dX10_next_0 rfl (lv_at hl 0 rfl) ?_
  refine lv_iload_n hx hb dX10_next_1 rfl (lv_at hl 1 rfl) ?_
  refine j_contv (va_runV (As := [.int (J a1)]) (rest := []) ⟨hx, hb, hml, hown, hts⟩ (Ao_X10_needMeeting l ka0 h) (cwV 1 hts (gj_V ml_RX10_281 i_X10_needMeeting s_X10_needMeeting n_RX10 k_X10_needMeeting) rfl rfl rfl (by decide +kernel) ⟨by exact Nat.le_of_ble_eq_true rfl, by exact Nat.le_of_ble_eq_true rfl⟩) (j_preV hK hSX hG (ci := 9) rfl ka0 (by decide)) rfl rfl hl.1 rfl (lv_room (Nat.le_of_ble_eq_true rfl)) dX10_next_2 ⟨by exact Nat.le_of_ble_eq_true rfl, by exact Nat.le_of_ble_eq_true rfl⟩) hG (c2 := 0) (s2 := 0) ⟨by exact Nat.le_of_ble_eq_true rfl, by exact Nat.le_of_ble_eq_true rfl⟩ (fun M2 h H locs hG => ?_)
  obtain ⟨h, eM2⟩ := h
  rw [eM2] at hG
  refine lv_iload_n hx hb dX10_next_5 rfl (lv_at hl 2 rfl) ?_
  obtain ⟨g3, h⟩ := h
  refine j_conti (va_runS (As := [.int (J a2)]) (rest := []) ⟨hx, hb, hml, hown, hts⟩ (A_X10_isInstant l g3) (va_cwS 1 hts (gj_S ml_RX10_206 i_X10_isInstant n_RX10 k_X10_isInstant) rfl rfl rfl (by decide +kernel) ⟨by exact Nat.le_of_ble_eq_true rfl, by exact Nat.le_of_ble_eq_true rfl⟩) (j_preS hK hSX hG) rfl rfl hl.1 rfl (lv_room (Nat.le_of_ble_eq_true rfl)) dX10_next_6 ⟨by exact Nat.le_of_ble_eq_true rfl, by exact Nat.le_of_ble_eq_true rfl⟩) hG (c2 := 0) (s2 := 0) ⟨by exact Nat.le_of_ble_eq_true rfl, by exact Nat.le_of_ble_eq_true rfl⟩ (fun z4 M5 ez4 H locs hG => ?_)
  obtain ⟨ez4, eM5⟩ := ez4
  subst ez4
  rw [eM5] at hG
  refine j_contv (va_runS (As := [.int (J (b2i (pb_X10_isInstant a2)))]) (rest := []) ⟨hx, hb, hml, hown, hts⟩ (Ao_X10_needArgument l h) (va_cwS 1 hts (gj_S ml_RX10_72 i_X10_needArgument n_RX10 k_X10_needArgument) rfl rfl rfl (by decide +kernel) ⟨by exact Nat.le_of_ble_eq_true rfl, by exact Nat.le_of_ble_eq_true rfl⟩) (j_preS hK hSX hG) rfl rfl hl.1 rfl (lv_room (Nat.le_of_ble_eq_true rfl)) dX10_next_9 ⟨by exact Nat.le_of_ble_eq_true rfl, by exact Nat.le_of_ble_eq_true rfl⟩) hG (c2 := 0) (s2 := 0) ⟨by exact Nat.le_of_ble_eq_true rfl, by exact Nat.le_of_ble_eq_true rfl⟩ (fun M7 h H locs hG => ?_)
  obtain ⟨h, eM7⟩ := h
  rw [eM7] at hG
  refine lv_aload_n hx hb dX10_next_12 rfl (lv_at hl 0 rfl) ?_
  refine j_getr hx hb hts hown hK hG (k := a0) (fun w h => List.mem_cons_of_mem _ (u_X10 w h)) (ci := 9) rfl ka0 0 (k2 := a0 + 1) (by decide) (by show a0 + (1 : Int) = a0 + 1; omega) w_fl_RX10_12 dX10_next_13 ?_
  refine j_getr hx hb hts hown hK hG (k := a0 + 1) (fun w h => List.mem_cons_of_mem _ (u_X0 w h)) (ci := 0) rfl (kf_10_0 ka0) 3 (k2 := a0 + 3) (by decide) (by show (a0 + 1) + (2 : Int) = a0 + 3; omega) w_fl_RX10_269 dX10_next_16 ?_
  refine lv_iload_n hx hb dX10_next_19 rfl (lv_at hl 1 rfl) ?_
  obtain ⟨g8, h⟩ := h
  refine j_aald hx hb hK hG (t := 21) (t0 := 4) (k2 := a0 + 2 * a1 + 28) (show kd (a0 + 3) = 21 from (show (a0 + 1) + 2 = a0 + 3 from by omega) ▸ (kf_1_3 (kf_10_0 ka0))) (by decide) rfl g8 (by simp only [ra_21]; omega) dX10_next_20 ?_
  have k9 : kd (a0 + 2 * a1 + 28) = 4 := by have q9 := (ka_21 (show kd (a0 + 3) = 21 from (show (a0 + 1) + 2 = a0 + 3 from by omega) ▸ (kf_1_3 (kf_10_0 ka0))) g8); rwa [show (a0 + 3) + 25 + 2 * a1 = a0 + 2 * a1 + 28 from by omega] at q9
  refine lv_astore_n (lv' := [(3, .ref (rA o (a0 + 2 * a1 + 28))), (0, .ref (rA o a0)), (1, .int (J a1)), (2, .int (J a2))]) hx hb dX10_next_21 rfl hl (by decide) rfl (fun ls hl => ?_)
  refine lv_aload_n hx hb dX10_next_22 rfl (lv_at hl 1 rfl) ?_
  refine lv_iload_n hx hb dX10_next_23 rfl (lv_at hl 2 rfl) ?_
  refine j_contr (va_runV (As := [.int (J a1)]) (rest := []) ⟨hx, hb, hml, hown, hts⟩ (A_X10_timed l ka0 h) (cwV 1 hts (gj_V ml_RX10_335 i_X10_timed s_X10_timed n_RX10 k_X10_timed) rfl rfl rfl (by decide +kernel) ⟨by exact Nat.le_of_ble_eq_true rfl, by exact Nat.le_of_ble_eq_true rfl⟩) (j_preV hK hSX hG (ci := 9) rfl ka0 (by decide)) rfl rfl hl.1 rfl (lv_room (Nat.le_of_ble_eq_true rfl)) dX10_next_24 ⟨by exact Nat.le_of_ble_eq_true rfl, by exact Nat.le_of_ble_eq_true rfl⟩) hG (c2 := 0) (s2 := 0) ⟨by exact Nat.le_of_ble_eq_true rfl, by exact Nat.le_of_ble_eq_true rfl⟩ (fun k10 M11 h hk10 H locs hG => ?_)
  refine lv_astore (lv' := [(4, .ref (rA o k10)), (3, .ref (rA o (a0 + 2 * a1 + 28))), (0, .ref (rA o a0)), (1, .int (J a1)), (2, .int (J a2))]) hx hb dX10_next_27 hl (by decide) rfl (fun ls hl => ?_)
  refine lv_iconst (v := J (-1)) hx hb dX10_next_29 (by decide) ?_
  refine lv_istore (lv' := [(5, .int (J ((-1)))), (4, .ref (rA o k10)), (3, .ref (rA o (a0 + 2 * a1 + 28))), (0, .ref (rA o a0)), (1, .int (J a1)), (2, .int (J a2))]) hx hb dX10_next_30 hl (by decide) rfl (fun ls hl => ?_)
  refine lv_iconst (v := J 0) hx hb dX10_next_32 (by decide) ?_
  refine lv_istore (lv' := [(6, .int (J 0)), (5, .int (J ((-1)))), (4, .ref (rA o k10)), (3, .ref (rA o (a0 + 2 * a1 + 28))), (0, .ref (rA o a0)), (1, .int (J a1)), (2, .int (J a2))]) hx hb dX10_next_33 hl (by decide) rfl (fun ls hl => ?_)
  obtain ⟨I14, ⟨n15s, iI14⟩, qI14⟩ := h
  have lI14 : ∀ (n15 : Nat) (x12 : Int) (x13 : Int), I14 n15 x12 x13 → ∀ (H : Heap) (locs : List Loc), GM D cy o M11 s.heap H locs → ∀ ls : Array Slot, lv_has ls 7 [(2, .int (J a2)), (3, .ref (rA o (a0 + 2 * a1 + 28))), (4, .ref (rA o k10)), (5, .int (J x12)), (6, .int (J x13))] → W p l e rom_X10_next s m args below meth c H locs 0 0 Qf (F0 m 35 ls []) := by
    intro n15
    induction n15 using Nat.strongRecOn with
    | ind n15 rI14 =>
      intro x12 x13 iI14 H locs hG ls hl
      have h := qI14 n15 x12 x13 iI14
      refine lv_iload hx hb dX10_next_35 (lv_at hl 4 rfl) ?_
      refine lv_aload hx hb dX10_next_37 (lv_at hl 2 rfl) ?_
      refine j_geti hx hb hts hown hK hG (k := k10) (fun w h => List.mem_cons_of_mem _ (u_X5 w h)) (ci := 4) rfl hk10 2 (by decide) (jz := 2) rfl w_fl_RX10_295 dX10_next_39 ?_
      obtain ⟨g17, h⟩ := h
      obtain ⟨g18, h⟩ := h
      refine j_icmp_ge (tgt := 102) hx hb dX10_next_42 (by decide) g17 g18 (fun c16 => ?_) (fun c16 => ?_)
      · have h := h.1 c16
        refine lv_iload hx hb dX10_next_102 (lv_at hl 3 rfl) ?_
        obtain ⟨hg, h⟩ := h
        have jK22 : ∀ x21 : Int, x21 = b2i (0 ≤ x12) → ∀ (H : Heap) (locs : List Loc), GM D cy o M11 s.heap H locs → ∀ ls : Array Slot, lv_has ls 7 [(5, .int (J x12))] → W p l e rom_X10_next s m args below meth c H locs 0 0 Qf (F0 m 112 ls [.int (J x21)]) := by
          intro x21 ex21 H locs hG ls hl
          subst ex21
          refine j_contv (va_runS (As := [.int (J (b2i (0 ≤ x12)))]) (rest := []) ⟨hx, hb, hml, hown, hts⟩ (Ao_X10_needElement l h) (va_cwS 1 hts (gj_S ml_RX10_184 i_X10_needElement n_RX10 k_X10_needElement) rfl rfl rfl (by decide +kernel) ⟨by exact Nat.le_of_ble_eq_true rfl, by exact Nat.le_of_ble_eq_true rfl⟩) (j_preS hK hSX hG) rfl rfl hl.1 rfl (lv_room (Nat.le_of_ble_eq_true rfl)) dX10_next_112 ⟨by exact Nat.le_of_ble_eq_true rfl, by exact Nat.le_of_ble_eq_true rfl⟩) hG (c2 := 0) (s2 := 0) ⟨by exact Nat.le_of_ble_eq_true rfl, by exact Nat.le_of_ble_eq_true rfl⟩ (fun M26 h H locs hG => ?_)
          obtain ⟨h, eM26⟩ := h
          rw [eM26] at hG
          refine lv_iload hx hb dX10_next_115 (lv_at hl 0 rfl) ?_
          rw [hQf]
          exact j_ireti hx hb hr hlocks hG h (by decide) dX10_next_117
        have h := hg
        obtain ⟨g24, h⟩ := h
        refine j_if_lt (tgt := 111) hx hb dX10_next_104 (by decide) g24 (fun c23 => ?_) (fun c23 => ?_)
        · have h := h.1 c23
          refine lv_iconst (v := J 0) hx hb dX10_next_111 (by decide) ?_
          exact jK22 0 (b2i_iff0 (iff_of_false (show ¬ (0 ≤ x12) from by omega) id)) H locs hG ls (lv_sub hl [3] rfl)
        · have h := h.2 c23
          refine lv_iconst (v := J 1) hx hb dX10_next_107 (by decide) ?_
          refine lv_goto (tgt := 112) hx hb dX10_next_108 (by decide) ?_
          exact jK22 1 (b2i_iff1 (iff_of_true c23 trivial)) H locs hG ls (lv_sub hl [3] rfl)
      · have h := h.2 c16
        refine lv_aload hx hb dX10_next_45 (lv_at hl 2 rfl) ?_
        refine lv_aload_n hx hb dX10_next_47 rfl (lv_at hl 1 rfl) ?_
        refine lv_iload hx hb dX10_next_48 (lv_at hl 4 rfl) ?_
        obtain ⟨g27, h⟩ := h
        refine j_conti (va_runV (As := [.ref (rA o (a0 + 2 * a1 + 28)), .int (J x13)]) (rest := []) ⟨hx, hb, hml, hown, hts⟩ (A_X5_takesPlace l hk10 k9 g27) (cwV 2 hts (gj_V ml_RX10_355 i_X5_takesPlace s_X5_takesPlace n_RX5 k_X5_takesPlace) rfl rfl rfl (by decide +kernel) ⟨by exact Nat.le_of_ble_eq_true rfl, by exact Nat.le_of_ble_eq_true rfl⟩) (j_preV hK hSX hG (ci := 4) rfl hk10 (by decide)) rfl rfl hl.1 rfl (lv_room (Nat.le_of_ble_eq_true rfl)) dX10_next_50 ⟨by exact Nat.le_of_ble_eq_true rfl, by exact Nat.le_of_ble_eq_true rfl⟩) hG (c2 := 0) (s2 := 0) ⟨by exact Nat.le_of_ble_eq_true rfl, by exact Nat.le_of_ble_eq_true rfl⟩ (fun z28 M29 ez28 H locs hG => ?_)
        obtain ⟨ez28, eM29⟩ := ez28
        subst ez28
        rw [eM29] at hG
        obtain ⟨hg, h⟩ := h
        have jK41 : ∀ x40 : Int, (¬ (pb_X5_takesPlace M11 k10 (a0 + 2 * a1 + 28) x13) → x40 = x12) → (pb_X5_takesPlace M11 k10 (a0 + 2 * a1 + 28) x13 ∧ M11 (k10 + 2) x13 < a2 → x40 = x12) → (pb_X5_takesPlace M11 k10 (a0 + 2 * a1 + 28) x13 ∧ a2 ≤ M11 (k10 + 2) x13 ∧ x12 < 0 → x40 = x13) → (pb_X5_takesPlace M11 k10 (a0 + 2 * a1 + 28) x13 ∧ a2 ≤ M11 (k10 + 2) x13 ∧ 0 ≤ x12 ∧ M11 (k10 + 2) x12 ≤ M11 (k10 + 2) x13 → x40 = x12) → (pb_X5_takesPlace M11 k10 (a0 + 2 * a1 + 28) x13 ∧ a2 ≤ M11 (k10 + 2) x13 ∧ 0 ≤ x12 ∧ M11 (k10 + 2) x13 < M11 (k10 + 2) x12 → x40 = x13) → ∀ (H : Heap) (locs : List Loc), GM D cy o M11 s.heap H locs → ∀ ls : Array Slot, lv_has ls 7 [(2, .int (J a2)), (3, .ref (rA o (a0 + 2 * a1 + 28))), (4, .ref (rA o k10)), (5, .int (J x40)), (6, .int (J x13))] → W p l e rom_X10_next s m args below meth c H locs 0 0 Qf (F0 m 96 ls []) := by
          intro x40 qx40_0 qx40_1 qx40_2 qx40_3 qx40_4 H locs hG ls hl
          have h := h x40 qx40_0 qx40_1 qx40_2 qx40_3 qx40_4
          refine j_iinc hx hb dX10_next_96 hl (k := 4) rfl (by decide) (fun x52 ex52 ls hl => ?_)
          have h := h x52 ex52
          have hl : lv_has ls 7 [(6, .int (J x52)), (2, .int (J a2)), (3, .ref (rA o (a0 + 2 * a1 + 28))), (4, .ref (rA o k10)), (5, .int (J x40))] := hl
          refine lv_goto (tgt := 35) hx hb dX10_next_99 (by decide) ?_
          obtain ⟨n53, ln53, iI14⟩ := h
          exact rI14 n53 ln53 x40 x52 iI14 H locs hG ls (lv_sub hl [1, 2, 3, 4, 0] rfl)
        have h := hg
        refine j_if_eq_b (tgt := 96) hx hb dX10_next_53 (by decide) (fun c42 => ?_) (fun c42 => ?_)
        · have h := h.1 c42
          exact jK41 x12 (fun _ => rfl) (fun q => absurd q.1 c42) (fun q => absurd q.1 c42) (fun q => absurd q.1 c42) (fun q => absurd q.1 c42) H locs hG ls (lv_sub hl [0, 1, 2, 3, 4] rfl)
        · have h := h.2 c42
          refine lv_aload hx hb dX10_next_56 (lv_at hl 2 rfl) ?_
          refine j_getr hx hb hts hown hK hG (k := k10) (fun w h => List.mem_cons_of_mem _ (u_X5 w h)) (ci := 4) rfl hk10 4 (k2 := k10 + 2) (by decide) (by show k10 + (2 : Int) = k10 + 2; omega) w_fl_RX10_359 dX10_next_58 ?_
          refine lv_iload hx hb dX10_next_61 (lv_at hl 4 rfl) ?_
          obtain ⟨g43, h⟩ := h
          refine j_iald hx hb hK hG (n := 40) (kf_5_4 hk10) (by decide) g43 dX10_next_63 ?_
          refine lv_iload_n hx hb dX10_next_64 rfl (lv_at hl 0 rfl) ?_
          obtain ⟨g45, h⟩ := h
          obtain ⟨g46, h⟩ := h
          refine j_icmp_lt (tgt := 96) hx hb dX10_next_65 (by decide) g45 g46 (fun c44 => ?_) (fun c44 => ?_)
          · have h := h.1 c44
            exact jK41 x12 (fun q => absurd c42 q) (fun _ => rfl) (fun q => absurd q.2.1 (by omega)) (fun q => absurd q.2.1 (by omega)) (fun q => absurd q.2.1 (by omega)) H locs hG ls (lv_sub hl [0, 1, 2, 3, 4] rfl)
          · have h := h.2 c44
            refine lv_iload hx hb dX10_next_68 (lv_at hl 3 rfl) ?_
            obtain ⟨g48, h⟩ := h
            refine j_if_lt (tgt := 92) hx hb dX10_next_70 (by decide) g48 (fun c47 => ?_) (fun c47 => ?_)
            · have h := h.1 c47
              refine lv_iload hx hb dX10_next_92 (lv_at hl 4 rfl) ?_
              refine lv_istore (lv' := [(5, .int (J x13)), (2, .int (J a2)), (3, .ref (rA o (a0 + 2 * a1 + 28))), (4, .ref (rA o k10)), (6, .int (J x13))]) hx hb dX10_next_94 hl (by decide) rfl (fun ls hl => ?_)
              exact jK41 x13 (fun q => absurd c42 q) (fun q => absurd q.2 (by omega)) (fun _ => rfl) (fun q => absurd q.2.2.1 (by omega)) (fun q => absurd q.2.2.1 (by omega)) H locs hG ls (lv_sub hl [1, 2, 3, 0, 4] rfl)
            · have h := h.2 c47
              refine lv_aload hx hb dX10_next_73 (lv_at hl 2 rfl) ?_
              refine j_getr hx hb hts hown hK hG (k := k10) (fun w h => List.mem_cons_of_mem _ (u_X5 w h)) (ci := 4) rfl hk10 4 (k2 := k10 + 2) (by decide) (by show k10 + (2 : Int) = k10 + 2; omega) w_fl_RX10_359 dX10_next_75 ?_
              refine lv_iload hx hb dX10_next_78 (lv_at hl 4 rfl) ?_
              refine j_iald hx hb hK hG (n := 40) (kf_5_4 hk10) (by decide) g43 dX10_next_80 ?_
              refine lv_aload hx hb dX10_next_81 (lv_at hl 2 rfl) ?_
              refine j_getr hx hb hts hown hK hG (k := k10) (fun w h => List.mem_cons_of_mem _ (u_X5 w h)) (ci := 4) rfl hk10 4 (k2 := k10 + 2) (by decide) (by show k10 + (2 : Int) = k10 + 2; omega) w_fl_RX10_359 dX10_next_83 ?_
              refine lv_iload hx hb dX10_next_86 (lv_at hl 3 rfl) ?_
              obtain ⟨g49, h⟩ := h
              refine j_iald hx hb hK hG (n := 40) (kf_5_4 hk10) (by decide) g49 dX10_next_88 ?_
              obtain ⟨g51, h⟩ := h
              refine j_icmp_ge (tgt := 96) hx hb dX10_next_89 (by decide) g45 g51 (fun c50 => ?_) (fun c50 => ?_)
              · have h := h.1 c50
                exact jK41 x12 (fun q => absurd c42 q) (fun q => absurd q.2 (by omega)) (fun q => absurd q.2.2 (by omega)) (fun _ => rfl) (fun q => absurd q.2.2.2 (by omega)) H locs hG ls (lv_sub hl [0, 1, 2, 3, 4] rfl)
              · have h := h.2 c50
                refine lv_iload hx hb dX10_next_92 (lv_at hl 4 rfl) ?_
                refine lv_istore (lv' := [(5, .int (J x13)), (2, .int (J a2)), (3, .ref (rA o (a0 + 2 * a1 + 28))), (4, .ref (rA o k10)), (6, .int (J x13))]) hx hb dX10_next_94 hl (by decide) rfl (fun ls hl => ?_)
                exact jK41 x13 (fun q => absurd c42 q) (fun q => absurd q.2 (by omega)) (fun q => absurd q.2.2 (by omega)) (fun q => absurd q.2.2.2 (by omega)) (fun _ => rfl) H locs hG ls (lv_sub hl [1, 2, 3, 0, 4] rfl)
  exact lI14 n15s ((-1)) 0 iI14 H locs hG ls (lv_sub hl [6, 3, 2, 1, 0] rfl)
abbrev rm_X10_next : Room := { frames := 8, cells := 1, slots := 6, locals := 131 }
set_option maxRecDepth 100000 in
set_option maxHeartbeats 4000000 in
theorem A_X10_next (l : Launch) (hst : l.stackTraces = false) {D : va_G} {cy : Nat → ClassId} {o : Nat} {sK sV : Nat → Nat} {M : jT} {a0 : Int} {a1 : Int} {a2 : Int} (ka0 : kd a0 = 10) {Q : Int → jT → Prop} {X : Nat → jT → Prop} (h : wp_X10_next M a0 a1 a2 Q X) : CxI l yX10_next (wj yX10_next cX10_next 7 (some .int)) rm_X10_next D cy o sK sV M [.ref (rA o a0), .int (J a1), .int (J a2)] Q X := by
  refine j_ofWx (cc := cX10_next) (maxL := 7) (ret := (some .int)) (by decide) rfl (Nat.le_of_ble_eq_true rfl) ?_
  intro p e s m args below meth c hx hb hr hlocks hout hml hown hts hK hSX H locs hsz hG ls hl Qf hQf
  have hown : s.vm.findClass RX10 = some m.cls := hown
  have hl : lv_has ls 7 [(0, .ref (rA o a0)), (1, .int (J a1)), (2, .int (J a2))] := hl
  have w_fl_RX10_12 := hts _ (List.mem_cons_of_mem _ fl_RX10_12)
  have w_fl_RX10_269 := hts _ (List.mem_cons_of_mem _ fl_RX10_269)
  have w_fl_RX10_295 := hts _ (List.mem_cons_of_mem _ fl_RX10_295)
  have w_fl_RX10_359 := hts _ (List.mem_cons_of_mem _ fl_RX10_359)
  unfold wp_X10_next at h
  refine lv_aload_n hx hb dX10_next_0 rfl (lv_at hl 0 rfl) ?_
  refine lv_iload_n hx hb dX10_next_1 rfl (lv_at hl 1 rfl) ?_
  rcases h with h | h
  · refine j_contv (va_runV (As := [.int (J a1)]) (rest := []) ⟨hx, hb, hml, hown, hts⟩ (Ao_X10_needMeeting l ka0 h) (cwV 1 hts (gj_V ml_RX10_281 i_X10_needMeeting s_X10_needMeeting n_RX10 k_X10_needMeeting) rfl rfl rfl (by decide +kernel) ⟨by exact Nat.le_of_ble_eq_true rfl, by exact Nat.le_of_ble_eq_true rfl⟩) (j_preV hK hSX hG (ci := 9) rfl ka0 (by decide)) rfl rfl hl.1 rfl (lv_room (Nat.le_of_ble_eq_true rfl)) dX10_next_2 ⟨by exact Nat.le_of_ble_eq_true rfl, by exact Nat.le_of_ble_eq_true rfl⟩) hG (c2 := 0) (s2 := 0) ⟨by exact Nat.le_of_ble_eq_true rfl, by exact Nat.le_of_ble_eq_true rfl⟩ (fun M2 h H locs hG => ?_)
    obtain ⟨h, eM2⟩ := h
    rw [eM2] at hG
    refine lv_iload_n hx hb dX10_next_5 rfl (lv_at hl 2 rfl) ?_
    obtain ⟨g3, h⟩ := h
    refine j_conti (va_runS (As := [.int (J a2)]) (rest := []) ⟨hx, hb, hml, hown, hts⟩ (A_X10_isInstant l g3) (va_cwS 1 hts (gj_S ml_RX10_206 i_X10_isInstant n_RX10 k_X10_isInstant) rfl rfl rfl (by decide +kernel) ⟨by exact Nat.le_of_ble_eq_true rfl, by exact Nat.le_of_ble_eq_true rfl⟩) (j_preS hK hSX hG) rfl rfl hl.1 rfl (lv_room (Nat.le_of_ble_eq_true rfl)) dX10_next_6 ⟨by exact Nat.le_of_ble_eq_true rfl, by exact Nat.le_of_ble_eq_true rfl⟩) hG (c2 := 0) (s2 := 0) ⟨by exact Nat.le_of_ble_eq_true rfl, by exact Nat.le_of_ble_eq_true rfl⟩ (fun z4 M5 ez4 H locs hG => ?_)
    obtain ⟨ez4, eM5⟩ := ez4
    subst ez4
    rw [eM5] at hG
    rcases h with h | h
    · refine j_contv (va_runS (As := [.int (J (b2i (pb_X10_isInstant a2)))]) (rest := []) ⟨hx, hb, hml, hown, hts⟩ (Ao_X10_needArgument l h) (va_cwS 1 hts (gj_S ml_RX10_72 i_X10_needArgument n_RX10 k_X10_needArgument) rfl rfl rfl (by decide +kernel) ⟨by exact Nat.le_of_ble_eq_true rfl, by exact Nat.le_of_ble_eq_true rfl⟩) (j_preS hK hSX hG) rfl rfl hl.1 rfl (lv_room (Nat.le_of_ble_eq_true rfl)) dX10_next_9 ⟨by exact Nat.le_of_ble_eq_true rfl, by exact Nat.le_of_ble_eq_true rfl⟩) hG (c2 := 0) (s2 := 0) ⟨by exact Nat.le_of_ble_eq_true rfl, by exact Nat.le_of_ble_eq_true rfl⟩ (fun M7 h H locs hG => ?_)
      obtain ⟨h, eM7⟩ := h
      rw [eM7] at hG
      refine lv_aload_n hx hb dX10_next_12 rfl (lv_at hl 0 rfl) ?_
      refine j_getr hx hb hts hown hK hG (k := a0) (fun w h => List.mem_cons_of_mem _ (u_X10 w h)) (ci := 9) rfl ka0 0 (k2 := a0 + 1) (by decide) (by show a0 + (1 : Int) = a0 + 1; omega) w_fl_RX10_12 dX10_next_13 ?_
      refine j_getr hx hb hts hown hK hG (k := a0 + 1) (fun w h => List.mem_cons_of_mem _ (u_X0 w h)) (ci := 0) rfl (kf_10_0 ka0) 3 (k2 := a0 + 3) (by decide) (by show (a0 + 1) + (2 : Int) = a0 + 3; omega) w_fl_RX10_269 dX10_next_16 ?_
      refine lv_iload_n hx hb dX10_next_19 rfl (lv_at hl 1 rfl) ?_
      obtain ⟨g8, h⟩ := h
      refine j_aald hx hb hK hG (t := 21) (t0 := 4) (k2 := a0 + 2 * a1 + 28) (show kd (a0 + 3) = 21 from (show (a0 + 1) + 2 = a0 + 3 from by omega) ▸ (kf_1_3 (kf_10_0 ka0))) (by decide) rfl g8 (by simp only [ra_21]; omega) dX10_next_20 ?_
      have k9 : kd (a0 + 2 * a1 + 28) = 4 := by have q9 := (ka_21 (show kd (a0 + 3) = 21 from (show (a0 + 1) + 2 = a0 + 3 from by omega) ▸ (kf_1_3 (kf_10_0 ka0))) g8); rwa [show (a0 + 3) + 25 + 2 * a1 = a0 + 2 * a1 + 28 from by omega] at q9
      refine lv_astore_n (lv' := [(3, .ref (rA o (a0 + 2 * a1 + 28))), (0, .ref (rA o a0)), (1, .int (J a1)), (2, .int (J a2))]) hx hb dX10_next_21 rfl hl (by decide) rfl (fun ls hl => ?_)
      refine lv_aload_n hx hb dX10_next_22 rfl (lv_at hl 1 rfl) ?_
      refine lv_iload_n hx hb dX10_next_23 rfl (lv_at hl 2 rfl) ?_
      refine j_contr (va_runV (As := [.int (J a1)]) (rest := []) ⟨hx, hb, hml, hown, hts⟩ (A_X10_timed l ka0 h) (cwV 1 hts (gj_V ml_RX10_335 i_X10_timed s_X10_timed n_RX10 k_X10_timed) rfl rfl rfl (by decide +kernel) ⟨by exact Nat.le_of_ble_eq_true rfl, by exact Nat.le_of_ble_eq_true rfl⟩) (j_preV hK hSX hG (ci := 9) rfl ka0 (by decide)) rfl rfl hl.1 rfl (lv_room (Nat.le_of_ble_eq_true rfl)) dX10_next_24 ⟨by exact Nat.le_of_ble_eq_true rfl, by exact Nat.le_of_ble_eq_true rfl⟩) hG (c2 := 0) (s2 := 0) ⟨by exact Nat.le_of_ble_eq_true rfl, by exact Nat.le_of_ble_eq_true rfl⟩ (fun k10 M11 h hk10 H locs hG => ?_)
      refine lv_astore (lv' := [(4, .ref (rA o k10)), (3, .ref (rA o (a0 + 2 * a1 + 28))), (0, .ref (rA o a0)), (1, .int (J a1)), (2, .int (J a2))]) hx hb dX10_next_27 hl (by decide) rfl (fun ls hl => ?_)
      refine lv_iconst (v := J (-1)) hx hb dX10_next_29 (by decide) ?_
      refine lv_istore (lv' := [(5, .int (J ((-1)))), (4, .ref (rA o k10)), (3, .ref (rA o (a0 + 2 * a1 + 28))), (0, .ref (rA o a0)), (1, .int (J a1)), (2, .int (J a2))]) hx hb dX10_next_30 hl (by decide) rfl (fun ls hl => ?_)
      refine lv_iconst (v := J 0) hx hb dX10_next_32 (by decide) ?_
      refine lv_istore (lv' := [(6, .int (J 0)), (5, .int (J ((-1)))), (4, .ref (rA o k10)), (3, .ref (rA o (a0 + 2 * a1 + 28))), (0, .ref (rA o a0)), (1, .int (J a1)), (2, .int (J a2))]) hx hb dX10_next_33 hl (by decide) rfl (fun ls hl => ?_)
      obtain ⟨I14, ⟨n15s, iI14⟩, qI14⟩ := h
      have lI14 : ∀ (n15 : Nat) (x12 : Int) (x13 : Int), I14 n15 x12 x13 → ∀ (H : Heap) (locs : List Loc), GM D cy o M11 s.heap H locs → ∀ ls : Array Slot, lv_has ls 7 [(2, .int (J a2)), (3, .ref (rA o (a0 + 2 * a1 + 28))), (4, .ref (rA o k10)), (5, .int (J x12)), (6, .int (J x13))] → W p l e rm_X10_next s m args below meth c H locs 0 0 Qf (F0 m 35 ls []) := by
        intro n15
        induction n15 using Nat.strongRecOn with
        | ind n15 rI14 =>
          intro x12 x13 iI14 H locs hG ls hl
          have h := qI14 n15 x12 x13 iI14
          refine lv_iload hx hb dX10_next_35 (lv_at hl 4 rfl) ?_
          refine lv_aload hx hb dX10_next_37 (lv_at hl 2 rfl) ?_
          refine j_geti hx hb hts hown hK hG (k := k10) (fun w h => List.mem_cons_of_mem _ (u_X5 w h)) (ci := 4) rfl hk10 2 (by decide) (jz := 2) rfl w_fl_RX10_295 dX10_next_39 ?_
          obtain ⟨g17, h⟩ := h
          obtain ⟨g18, h⟩ := h
          refine j_icmp_ge (tgt := 102) hx hb dX10_next_42 (by decide) g17 g18 (fun c16 => ?_) (fun c16 => ?_)
          · have h := h.1 c16
            refine lv_iload hx hb dX10_next_102 (lv_at hl 3 rfl) ?_
            obtain ⟨hg, h⟩ := h
            have jK22 : ∀ x21 : Int, x21 = b2i (0 ≤ x12) → ∀ (H : Heap) (locs : List Loc), GM D cy o M11 s.heap H locs → ∀ ls : Array Slot, lv_has ls 7 [(5, .int (J x12))] → W p l e rm_X10_next s m args below meth c H locs 0 0 Qf (F0 m 112 ls [.int (J x21)]) := by
              intro x21 ex21 H locs hG ls hl
              subst ex21
              rcases h with h | h
              · refine j_contv (va_runS (As := [.int (J (b2i (0 ≤ x12)))]) (rest := []) ⟨hx, hb, hml, hown, hts⟩ (Ao_X10_needElement l h) (va_cwS 1 hts (gj_S ml_RX10_184 i_X10_needElement n_RX10 k_X10_needElement) rfl rfl rfl (by decide +kernel) ⟨by exact Nat.le_of_ble_eq_true rfl, by exact Nat.le_of_ble_eq_true rfl⟩) (j_preS hK hSX hG) rfl rfl hl.1 rfl (lv_room (Nat.le_of_ble_eq_true rfl)) dX10_next_112 ⟨by exact Nat.le_of_ble_eq_true rfl, by exact Nat.le_of_ble_eq_true rfl⟩) hG (c2 := 0) (s2 := 0) ⟨by exact Nat.le_of_ble_eq_true rfl, by exact Nat.le_of_ble_eq_true rfl⟩ (fun M26 h H locs hG => ?_)
                obtain ⟨h, eM26⟩ := h
                rw [eM26] at hG
                refine lv_iload hx hb dX10_next_115 (lv_at hl 0 rfl) ?_
                rw [hQf]
                exact vx_ret (j_ireti hx hb hr hlocks hG h (by decide) dX10_next_117)
              · refine j_contxv (vx_runS (As := [.int (J (b2i (0 ≤ x12)))]) (rest := []) ⟨hx, hb, hml, hown, hts⟩ (A_X10_needElement l hst h) (va_cwS 1 hts (gj_S ml_RX10_184 i_X10_needElement n_RX10 k_X10_needElement) rfl rfl rfl (by decide +kernel) ⟨by exact Nat.le_of_ble_eq_true rfl, by exact Nat.le_of_ble_eq_true rfl⟩) (j_preS hK hSX hG) rfl rfl hl.1 rfl (lv_room (Nat.le_of_ble_eq_true rfl)) dX10_next_112 ⟨by exact Nat.le_of_ble_eq_true rfl, by exact Nat.le_of_ble_eq_true rfl⟩) hG (c2 := 1) (s2 := 6) ⟨by exact Nat.le_of_ble_eq_true rfl, by exact Nat.le_of_ble_eq_true rfl⟩ (fun x M h ce q H locs hG h1 h2 h3 => ?_) (fun M h H locs hG => h.elim)
                rw [hQf]
                exact j_xout hlocks hout hG h h1 h2 h3 (by decide)
            have h := hg
            obtain ⟨g24, h⟩ := h
            refine j_if_lt (tgt := 111) hx hb dX10_next_104 (by decide) g24 (fun c23 => ?_) (fun c23 => ?_)
            · have h := h.1 c23
              refine lv_iconst (v := J 0) hx hb dX10_next_111 (by decide) ?_
              exact jK22 0 (b2i_iff0 (iff_of_false (show ¬ (0 ≤ x12) from by omega) id)) H locs hG ls (lv_sub hl [3] rfl)
            · have h := h.2 c23
              refine lv_iconst (v := J 1) hx hb dX10_next_107 (by decide) ?_
              refine lv_goto (tgt := 112) hx hb dX10_next_108 (by decide) ?_
              exact jK22 1 (b2i_iff1 (iff_of_true c23 trivial)) H locs hG ls (lv_sub hl [3] rfl)
          · have h := h.2 c16
            refine lv_aload hx hb dX10_next_45 (lv_at hl 2 rfl) ?_
            refine lv_aload_n hx hb dX10_next_47 rfl (lv_at hl 1 rfl) ?_
            refine lv_iload hx hb dX10_next_48 (lv_at hl 4 rfl) ?_
            obtain ⟨g27, h⟩ := h
            refine j_conti (va_runV (As := [.ref (rA o (a0 + 2 * a1 + 28)), .int (J x13)]) (rest := []) ⟨hx, hb, hml, hown, hts⟩ (A_X5_takesPlace l hk10 k9 g27) (cwV 2 hts (gj_V ml_RX10_355 i_X5_takesPlace s_X5_takesPlace n_RX5 k_X5_takesPlace) rfl rfl rfl (by decide +kernel) ⟨by exact Nat.le_of_ble_eq_true rfl, by exact Nat.le_of_ble_eq_true rfl⟩) (j_preV hK hSX hG (ci := 4) rfl hk10 (by decide)) rfl rfl hl.1 rfl (lv_room (Nat.le_of_ble_eq_true rfl)) dX10_next_50 ⟨by exact Nat.le_of_ble_eq_true rfl, by exact Nat.le_of_ble_eq_true rfl⟩) hG (c2 := 0) (s2 := 0) ⟨by exact Nat.le_of_ble_eq_true rfl, by exact Nat.le_of_ble_eq_true rfl⟩ (fun z28 M29 ez28 H locs hG => ?_)
            obtain ⟨ez28, eM29⟩ := ez28
            subst ez28
            rw [eM29] at hG
            obtain ⟨hg, h⟩ := h
            have jK41 : ∀ x40 : Int, (¬ (pb_X5_takesPlace M11 k10 (a0 + 2 * a1 + 28) x13) → x40 = x12) → (pb_X5_takesPlace M11 k10 (a0 + 2 * a1 + 28) x13 ∧ M11 (k10 + 2) x13 < a2 → x40 = x12) → (pb_X5_takesPlace M11 k10 (a0 + 2 * a1 + 28) x13 ∧ a2 ≤ M11 (k10 + 2) x13 ∧ x12 < 0 → x40 = x13) → (pb_X5_takesPlace M11 k10 (a0 + 2 * a1 + 28) x13 ∧ a2 ≤ M11 (k10 + 2) x13 ∧ 0 ≤ x12 ∧ M11 (k10 + 2) x12 ≤ M11 (k10 + 2) x13 → x40 = x12) → (pb_X5_takesPlace M11 k10 (a0 + 2 * a1 + 28) x13 ∧ a2 ≤ M11 (k10 + 2) x13 ∧ 0 ≤ x12 ∧ M11 (k10 + 2) x13 < M11 (k10 + 2) x12 → x40 = x13) → ∀ (H : Heap) (locs : List Loc), GM D cy o M11 s.heap H locs → ∀ ls : Array Slot, lv_has ls 7 [(2, .int (J a2)), (3, .ref (rA o (a0 + 2 * a1 + 28))), (4, .ref (rA o k10)), (5, .int (J x40)), (6, .int (J x13))] → W p l e rm_X10_next s m args below meth c H locs 0 0 Qf (F0 m 96 ls []) := by
              intro x40 qx40_0 qx40_1 qx40_2 qx40_3 qx40_4 H locs hG ls hl
              have h := h x40 qx40_0 qx40_1 qx40_2 qx40_3 qx40_4
              refine j_iinc hx hb dX10_next_96 hl (k := 4) rfl (by decide) (fun x52 ex52 ls hl => ?_)
              have h := h x52 ex52
              have hl : lv_has ls 7 [(6, .int (J x52)), (2, .int (J a2)), (3, .ref (rA o (a0 + 2 * a1 + 28))), (4, .ref (rA o k10)), (5, .int (J x40))] := hl
              refine lv_goto (tgt := 35) hx hb dX10_next_99 (by decide) ?_
              obtain ⟨n53, ln53, iI14⟩ := h
              exact rI14 n53 ln53 x40 x52 iI14 H locs hG ls (lv_sub hl [1, 2, 3, 4, 0] rfl)
            have h := hg
            refine j_if_eq_b (tgt := 96) hx hb dX10_next_53 (by decide) (fun c42 => ?_) (fun c42 => ?_)
            · have h := h.1 c42
              exact jK41 x12 (fun _ => rfl) (fun q => absurd q.1 c42) (fun q => absurd q.1 c42) (fun q => absurd q.1 c42) (fun q => absurd q.1 c42) H locs hG ls (lv_sub hl [0, 1, 2, 3, 4] rfl)
            · have h := h.2 c42
              refine lv_aload hx hb dX10_next_56 (lv_at hl 2 rfl) ?_
              refine j_getr hx hb hts hown hK hG (k := k10) (fun w h => List.mem_cons_of_mem _ (u_X5 w h)) (ci := 4) rfl hk10 4 (k2 := k10 + 2) (by decide) (by show k10 + (2 : Int) = k10 + 2; omega) w_fl_RX10_359 dX10_next_58 ?_
              refine lv_iload hx hb dX10_next_61 (lv_at hl 4 rfl) ?_
              obtain ⟨g43, h⟩ := h
              refine j_iald hx hb hK hG (n := 40) (kf_5_4 hk10) (by decide) g43 dX10_next_63 ?_
              refine lv_iload_n hx hb dX10_next_64 rfl (lv_at hl 0 rfl) ?_
              obtain ⟨g45, h⟩ := h
              obtain ⟨g46, h⟩ := h
              refine j_icmp_lt (tgt := 96) hx hb dX10_next_65 (by decide) g45 g46 (fun c44 => ?_) (fun c44 => ?_)
              · have h := h.1 c44
                exact jK41 x12 (fun q => absurd c42 q) (fun _ => rfl) (fun q => absurd q.2.1 (by omega)) (fun q => absurd q.2.1 (by omega)) (fun q => absurd q.2.1 (by omega)) H locs hG ls (lv_sub hl [0, 1, 2, 3, 4] rfl)
              · have h := h.2 c44
                refine lv_iload hx hb dX10_next_68 (lv_at hl 3 rfl) ?_
                obtain ⟨g48, h⟩ := h
                refine j_if_lt (tgt := 92) hx hb dX10_next_70 (by decide) g48 (fun c47 => ?_) (fun c47 => ?_)
                · have h := h.1 c47
                  refine lv_iload hx hb dX10_next_92 (lv_at hl 4 rfl) ?_
                  refine lv_istore (lv' := [(5, .int (J x13)), (2, .int (J a2)), (3, .ref (rA o (a0 + 2 * a1 + 28))), (4, .ref (rA o k10)), (6, .int (J x13))]) hx hb dX10_next_94 hl (by decide) rfl (fun ls hl => ?_)
                  exact jK41 x13 (fun q => absurd c42 q) (fun q => absurd q.2 (by omega)) (fun _ => rfl) (fun q => absurd q.2.2.1 (by omega)) (fun q => absurd q.2.2.1 (by omega)) H locs hG ls (lv_sub hl [1, 2, 3, 0, 4] rfl)
                · have h := h.2 c47
                  refine lv_aload hx hb dX10_next_73 (lv_at hl 2 rfl) ?_
                  refine j_getr hx hb hts hown hK hG (k := k10) (fun w h => List.mem_cons_of_mem _ (u_X5 w h)) (ci := 4) rfl hk10 4 (k2 := k10 + 2) (by decide) (by show k10 + (2 : Int) = k10 + 2; omega) w_fl_RX10_359 dX10_next_75 ?_
                  refine lv_iload hx hb dX10_next_78 (lv_at hl 4 rfl) ?_
                  refine j_iald hx hb hK hG (n := 40) (kf_5_4 hk10) (by decide) g43 dX10_next_80 ?_
                  refine lv_aload hx hb dX10_next_81 (lv_at hl 2 rfl) ?_
                  refine j_getr hx hb hts hown hK hG (k := k10) (fun w h => List.mem_cons_of_mem _ (u_X5 w h)) (ci := 4) rfl hk10 4 (k2 := k10 + 2) (by decide) (by show k10 + (2 : Int) = k10 + 2; omega) w_fl_RX10_359 dX10_next_83 ?_
                  refine lv_iload hx hb dX10_next_86 (lv_at hl 3 rfl) ?_
                  obtain ⟨g49, h⟩ := h
                  refine j_iald hx hb hK hG (n := 40) (kf_5_4 hk10) (by decide) g49 dX10_next_88 ?_
                  obtain ⟨g51, h⟩ := h
                  refine j_icmp_ge (tgt := 96) hx hb dX10_next_89 (by decide) g45 g51 (fun c50 => ?_) (fun c50 => ?_)
                  · have h := h.1 c50
                    exact jK41 x12 (fun q => absurd c42 q) (fun q => absurd q.2 (by omega)) (fun q => absurd q.2.2 (by omega)) (fun _ => rfl) (fun q => absurd q.2.2.2 (by omega)) H locs hG ls (lv_sub hl [0, 1, 2, 3, 4] rfl)
                  · have h := h.2 c50
                    refine lv_iload hx hb dX10_next_92 (lv_at hl 4 rfl) ?_
                    refine lv_istore (lv' := [(5, .int (J x13)), (2, .int (J a2)), (3, .ref (rA o (a0 + 2 * a1 + 28))), (4, .ref (rA o k10)), (6, .int (J x13))]) hx hb dX10_next_94 hl (by decide) rfl (fun ls hl => ?_)
                    exact jK41 x13 (fun q => absurd c42 q) (fun q => absurd q.2 (by omega)) (fun q => absurd q.2.2 (by omega)) (fun q => absurd q.2.2.2 (by omega)) (fun _ => rfl) H locs hG ls (lv_sub hl [1, 2, 3, 0, 4] rfl)
      exact lI14 n15s ((-1)) 0 iI14 H locs hG ls (lv_sub hl [6, 3, 2, 1, 0] rfl)
    · refine j_contxv (vx_runS (As := [.int (J (b2i (pb_X10_isInstant a2)))]) (rest := []) ⟨hx, hb, hml, hown, hts⟩ (A_X10_needArgument l hst h) (va_cwS 1 hts (gj_S ml_RX10_72 i_X10_needArgument n_RX10 k_X10_needArgument) rfl rfl rfl (by decide +kernel) ⟨by exact Nat.le_of_ble_eq_true rfl, by exact Nat.le_of_ble_eq_true rfl⟩) (j_preS hK hSX hG) rfl rfl hl.1 rfl (lv_room (Nat.le_of_ble_eq_true rfl)) dX10_next_9 ⟨by exact Nat.le_of_ble_eq_true rfl, by exact Nat.le_of_ble_eq_true rfl⟩) hG (c2 := 1) (s2 := 6) ⟨by exact Nat.le_of_ble_eq_true rfl, by exact Nat.le_of_ble_eq_true rfl⟩ (fun x M h ce q H locs hG h1 h2 h3 => ?_) (fun M h H locs hG => h.elim)
      rw [hQf]
      exact j_xout hlocks hout hG h h1 h2 h3 (by decide)
  · refine j_contxv (vx_runV (As := [.int (J a1)]) (rest := []) ⟨hx, hb, hml, hown, hts⟩ (A_X10_needMeeting l hst ka0 h) (cwV 1 hts (gj_V ml_RX10_281 i_X10_needMeeting s_X10_needMeeting n_RX10 k_X10_needMeeting) rfl rfl rfl (by decide +kernel) ⟨by exact Nat.le_of_ble_eq_true rfl, by exact Nat.le_of_ble_eq_true rfl⟩) (j_preV hK hSX hG (ci := 9) rfl ka0 (by decide)) rfl rfl hl.1 rfl (lv_room (Nat.le_of_ble_eq_true rfl)) dX10_next_2 ⟨by exact Nat.le_of_ble_eq_true rfl, by exact Nat.le_of_ble_eq_true rfl⟩) hG (c2 := 1) (s2 := 6) ⟨by exact Nat.le_of_ble_eq_true rfl, by exact Nat.le_of_ble_eq_true rfl⟩ (fun x M h ce q H locs hG h1 h2 h3 => ?_) (fun M h H locs hG => h.elim)
    rw [hQf]
    exact j_xout hlocks hout hG h h1 h2 h3 (by decide)

abbrev rm_X10_firstClash : Room := { frames := 2, cells := 0, slots := 0, locals := 43 }
set_option maxRecDepth 100000 in
set_option maxHeartbeats 4000000 in
theorem A_X10_firstClash (l : Launch) {D : va_G} {cy : Nat → ClassId} {o : Nat} {sK sV : Nat → Nat} {M : jT} {a0 : Int} {a1 : Int} {a2 : Int} {a3 : Int} (ka0 : kd a0 = 10) {Q : Int → Prop} (h : wp_X10_firstClash M a0 a1 a2 a3 Q) : CoI l yX10_firstClash (wj yX10_firstClash cX10_firstClash 9 (some .int)) rm_X10_firstClash D cy o sK sV M [.ref (rA o a0), .int (J a1), .int (J a2), .int (J a3)] (fun z M9 => Q z ∧ M9 = M) := by
  refine j_ofW (cc := cX10_firstClash) (maxL := 9) (ret := (some .int)) (by decide) rfl (Nat.le_of_ble_eq_true rfl) ?_
  intro p e s m args below meth c hx hb hr hlocks hml hown hts hK hSX H locs hG ls hl Qf hQf
  have hown : s.vm.findClass RX10 = some m.cls := hown
  have hl : lv_has ls 9 [(0, .ref (rA o a0)), (1, .int (J a1)), (2, .int (J a2)), (3, .int (J a3))] := hl
  have w_fl_RX10_12 := hts _ (List.mem_cons_of_mem _ fl_RX10_12)
  have w_fl_RX10_269 := hts _ (List.mem_cons_of_mem _ fl_RX10_269)
  have w_fl_RX10_32 := hts _ (List.mem_cons_of_mem _ fl_RX10_32)
  have w_fl_RX10_359 := hts _ (List.mem_cons_of_mem _ fl_RX10_359)
  have w_fl_RX10_320 := hts _ (List.mem_cons_of_mem _ fl_RX10_320)
  have w_fl_RX10_295 := hts _ (List.mem_cons_of_mem _ fl_RX10_295)
  unfold wp_X10_firstClash at h
  refine lv_aload_n hx hb dX10_firstClash_0 rfl (lv_at hl 0 rfl) ?_
  refine j_getr hx hb hts hown hK hG (k := a0) (fun w h => List.mem_cons_of_mem _ (u_X10 w h)) (ci := 9) rfl ka0 0 (k2 := a0 + 1) (by decide) (by show a0 + (1 : Int) = a0 + 1; omega) w_fl_RX10_12 dX10_firstClash_1 ?_
  refine j_getr hx hb hts hown hK hG (k := a0 + 1) (fun w h => List.mem_cons_of_mem _ (u_X0 w h)) (ci := 0) rfl (kf_10_0 ka0) 3 (k2 := a0 + 3) (by decide) (by show (a0 + 1) + (2 : Int) = a0 + 3; omega) w_fl_RX10_269 dX10_firstClash_4 ?_
  refine lv_iload_n hx hb dX10_firstClash_7 rfl (lv_at hl 3 rfl) ?_
  obtain ⟨g1, h⟩ := h
  refine j_aald hx hb hK hG (t := 21) (t0 := 4) (k2 := a0 + 2 * a3 + 28) (show kd (a0 + 3) = 21 from (show (a0 + 1) + 2 = a0 + 3 from by omega) ▸ (kf_1_3 (kf_10_0 ka0))) (by decide) rfl g1 (by simp only [ra_21]; omega) dX10_firstClash_8 ?_
  have k2 : kd (a0 + 2 * a3 + 28) = 4 := by have q9 := (ka_21 (show kd (a0 + 3) = 21 from (show (a0 + 1) + 2 = a0 + 3 from by omega) ▸ (kf_1_3 (kf_10_0 ka0))) g1); rwa [show (a0 + 3) + 25 + 2 * a3 = a0 + 2 * a3 + 28 from by omega] at q9
  refine lv_astore (lv' := [(4, .ref (rA o (a0 + 2 * a3 + 28))), (0, .ref (rA o a0)), (1, .int (J a1)), (2, .int (J a2)), (3, .int (J a3))]) hx hb dX10_firstClash_9 hl (by decide) rfl (fun ls hl => ?_)
  refine lv_aload_n hx hb dX10_firstClash_11 rfl (lv_at hl 1 rfl) ?_
  refine j_getr hx hb hts hown hK hG (k := a0) (fun w h => List.mem_cons_of_mem _ (u_X10 w h)) (ci := 9) rfl ka0 3 (k2 := a0 + 569) (by decide) (by show a0 + (569 : Int) = a0 + 569; omega) w_fl_RX10_32 dX10_firstClash_12 ?_
  refine lv_iload_n hx hb dX10_firstClash_15 rfl (lv_at hl 4 rfl) ?_
  refine j_aald hx hb hK hG (t := 24) (t0 := 7) (k2 := a0 + 3 * a3 + 570) (kf_10_3 ka0) (by decide) rfl g1 (by simp only [ra_24]; omega) dX10_firstClash_16 ?_
  have k3 : kd (a0 + 3 * a3 + 570) = 5 := by have q9 := (ka_24 (kf_10_3 ka0) g1); rwa [show (a0 + 569) + 1 + 3 * a3 = a0 + 3 * a3 + 570 from by omega] at q9
  refine lv_astore (lv' := [(5, .ref (rA o (a0 + 3 * a3 + 570))), (4, .ref (rA o (a0 + 2 * a3 + 28))), (0, .ref (rA o a0)), (1, .int (J a1)), (2, .int (J a2)), (3, .int (J a3))]) hx hb dX10_firstClash_17 hl (by decide) rfl (fun ls hl => ?_)
  refine lv_aload_n hx hb dX10_firstClash_19 rfl (lv_at hl 2 rfl) ?_
  refine j_getr hx hb hts hown hK hG (k := a0) (fun w h => List.mem_cons_of_mem _ (u_X10 w h)) (ci := 9) rfl ka0 3 (k2 := a0 + 569) (by decide) (by show a0 + (569 : Int) = a0 + 569; omega) w_fl_RX10_32 dX10_firstClash_20 ?_
  refine lv_iload_n hx hb dX10_firstClash_23 rfl (lv_at hl 3 rfl) ?_
  obtain ⟨g4, h⟩ := h
  refine j_aald hx hb hK hG (t := 24) (t0 := 7) (k2 := a0 + 3 * a1 + 570) (kf_10_3 ka0) (by decide) rfl g4 (by simp only [ra_24]; omega) dX10_firstClash_24 ?_
  have k5 : kd (a0 + 3 * a1 + 570) = 5 := by have q9 := (ka_24 (kf_10_3 ka0) g4); rwa [show (a0 + 569) + 1 + 3 * a1 = a0 + 3 * a1 + 570 from by omega] at q9
  refine j_getr hx hb hts hown hK hG (k := a0 + 3 * a1 + 570) (fun w h => List.mem_cons_of_mem _ (u_X5 w h)) (ci := 4) rfl k5 4 (k2 := a0 + 3 * a1 + 572) (by decide) (by show (a0 + 3 * a1 + 570) + (2 : Int) = a0 + 3 * a1 + 572; omega) w_fl_RX10_359 dX10_firstClash_25 ?_
  refine lv_iload_n hx hb dX10_firstClash_28 rfl (lv_at hl 4 rfl) ?_
  obtain ⟨g6, h⟩ := h
  refine j_iald hx hb hK hG (n := 40) (show kd (a0 + 3 * a1 + 572) = 1040 from (show (a0 + 3 * a1 + 570) + 2 = a0 + 3 * a1 + 572 from by omega) ▸ (kf_5_4 k5)) (by decide) g6 dX10_firstClash_29 ?_
  refine j_topi (fun x7 ex7 => ?_)
  have h := h x7 ex7
  refine lv_istore (lv' := [(6, .int (J x7)), (5, .ref (rA o (a0 + 3 * a3 + 570))), (4, .ref (rA o (a0 + 2 * a3 + 28))), (0, .ref (rA o a0)), (1, .int (J a1)), (2, .int (J a2)), (3, .int (J a3))]) hx hb dX10_firstClash_30 hl (by decide) rfl (fun ls hl => ?_)
  refine lv_iload hx hb dX10_firstClash_32 (lv_at hl 0 rfl) ?_
  refine lv_aload_n hx hb dX10_firstClash_34 rfl (lv_at hl 3 rfl) ?_
  refine j_getr hx hb hts hown hK hG (k := a0) (fun w h => List.mem_cons_of_mem _ (u_X10 w h)) (ci := 9) rfl ka0 0 (k2 := a0 + 1) (by decide) (by show a0 + (1 : Int) = a0 + 1; omega) w_fl_RX10_12 dX10_firstClash_35 ?_
  refine j_getr hx hb hts hown hK hG (k := a0 + 1) (fun w h => List.mem_cons_of_mem _ (u_X0 w h)) (ci := 0) rfl (kf_10_0 ka0) 3 (k2 := a0 + 3) (by decide) (by show (a0 + 1) + (2 : Int) = a0 + 3; omega) w_fl_RX10_269 dX10_firstClash_38 ?_
  refine lv_iload_n hx hb dX10_firstClash_41 rfl (lv_at hl 4 rfl) ?_
  refine j_aald hx hb hK hG (t := 21) (t0 := 4) (k2 := a0 + 2 * a1 + 28) (show kd (a0 + 3) = 21 from (show (a0 + 1) + 2 = a0 + 3 from by omega) ▸ (kf_1_3 (kf_10_0 ka0))) (by decide) rfl g4 (by simp only [ra_21]; omega) dX10_firstClash_42 ?_
  have k8 : kd (a0 + 2 * a1 + 28) = 4 := by have q9 := (ka_21 (show kd (a0 + 3) = 21 from (show (a0 + 1) + 2 = a0 + 3 from by omega) ▸ (kf_1_3 (kf_10_0 ka0))) g4); rwa [show (a0 + 3) + 25 + 2 * a1 = a0 + 2 * a1 + 28 from by omega] at q9
  refine j_geti hx hb hts hown hK hG (k := a0 + 2 * a1 + 28) (fun w h => List.mem_cons_of_mem _ (u_X4 w h)) (ci := 3) rfl k8 3 (by decide) (jz := 3) rfl w_fl_RX10_320 dX10_firstClash_43 ?_
  refine j_iadd hx hb dX10_firstClash_46 ?_
  refine j_topi (fun x9 ex9 => ?_)
  have h := h x9 ex9
  refine lv_istore (lv' := [(7, .int (J x9)), (6, .int (J x7)), (5, .ref (rA o (a0 + 3 * a3 + 570))), (4, .ref (rA o (a0 + 2 * a3 + 28))), (0, .ref (rA o a0)), (1, .int (J a1)), (2, .int (J a2)), (3, .int (J a3))]) hx hb dX10_firstClash_47 hl (by decide) rfl (fun ls hl => ?_)
  refine lv_iload_n hx hb dX10_firstClash_49 rfl (lv_at hl 5 rfl) ?_
  refine lv_iload_n hx hb dX10_firstClash_50 rfl (lv_at hl 7 rfl) ?_
  obtain ⟨hg, h⟩ := h
  have jK14 : ∀ x13 : Int, (a1 ≠ a3 → x13 = 0) → (a1 = a3 → x13 = a2 + 1) → ∀ (H : Heap) (locs : List Loc), GM D cy o M s.heap H locs → ∀ ls : Array Slot, lv_has ls 9 [(4, .ref (rA o (a0 + 2 * a3 + 28))), (5, .ref (rA o (a0 + 3 * a3 + 570))), (6, .int (J x7)), (7, .int (J x9))] → W p l e rm_X10_firstClash s m args below meth c H locs 0 0 Qf (F0 m 61 ls [.int (J x13)]) := by
    intro x13 qx13_0 qx13_1 H locs hG ls hl
    have h := h x13 qx13_0 qx13_1
    refine lv_istore (lv' := [(8, .int (J x13)), (4, .ref (rA o (a0 + 2 * a3 + 28))), (5, .ref (rA o (a0 + 3 * a3 + 570))), (6, .int (J x7)), (7, .int (J x9))]) hx hb dX10_firstClash_61 hl (by decide) rfl (fun ls hl => ?_)
    obtain ⟨I19, ⟨n20s, iI19⟩, qI19⟩ := h
    have lI19 : ∀ (n20 : Nat) (x18 : Int), I19 n20 x18 → ∀ (H : Heap) (locs : List Loc), GM D cy o M s.heap H locs → ∀ ls : Array Slot, lv_has ls 9 [(4, .ref (rA o (a0 + 2 * a3 + 28))), (5, .ref (rA o (a0 + 3 * a3 + 570))), (6, .int (J x7)), (7, .int (J x9)), (8, .int (J x18))] → W p l e rm_X10_firstClash s m args below meth c H locs 0 0 Qf (F0 m 63 ls []) := by
      intro n20
      induction n20 using Nat.strongRecOn with
      | ind n20 rI19 =>
        intro x18 iI19 H locs hG ls hl
        have h := qI19 n20 x18 iI19
        refine lv_iload hx hb dX10_firstClash_63 (lv_at hl 4 rfl) ?_
        refine lv_aload hx hb dX10_firstClash_65 (lv_at hl 1 rfl) ?_
        refine j_geti hx hb hts hown hK hG (k := a0 + 3 * a3 + 570) (fun w h => List.mem_cons_of_mem _ (u_X5 w h)) (ci := 4) rfl k3 2 (by decide) (jz := 2) rfl w_fl_RX10_295 dX10_firstClash_67 ?_
        obtain ⟨g22, h⟩ := h
        obtain ⟨g23, h⟩ := h
        refine j_icmp_ge (tgt := 126) hx hb dX10_firstClash_70 (by decide) g22 g23 (fun c21 => ?_) (fun c21 => ?_)
        · have h := h.1 c21
          refine lv_iconst (v := J (-1)) hx hb dX10_firstClash_126 (by decide) ?_
          rw [hQf]
          exact j_ireti hx hb hr hlocks hG ⟨h, rfl⟩ (by decide) dX10_firstClash_127
        · have h := h.2 c21
          refine lv_aload hx hb dX10_firstClash_73 (lv_at hl 1 rfl) ?_
          refine lv_aload hx hb dX10_firstClash_75 (lv_at hl 0 rfl) ?_
          refine lv_iload hx hb dX10_firstClash_77 (lv_at hl 4 rfl) ?_
          obtain ⟨g24, h⟩ := h
          refine j_conti (va_runV (As := [.ref (rA o (a0 + 2 * a3 + 28)), .int (J x18)]) (rest := []) ⟨hx, hb, hml, hown, hts⟩ (A_X5_takesPlace l k3 k2 g24) (cwV 2 hts (gj_V ml_RX10_355 i_X5_takesPlace s_X5_takesPlace n_RX5 k_X5_takesPlace) rfl rfl rfl (by decide +kernel) ⟨by exact Nat.le_of_ble_eq_true rfl, by exact Nat.le_of_ble_eq_true rfl⟩) (j_preV hK hSX hG (ci := 4) rfl k3 (by decide)) rfl rfl hl.1 rfl (lv_room (Nat.le_of_ble_eq_true rfl)) dX10_firstClash_79 ⟨by exact Nat.le_of_ble_eq_true rfl, by exact Nat.le_of_ble_eq_true rfl⟩) hG (c2 := 0) (s2 := 0) ⟨by exact Nat.le_of_ble_eq_true rfl, by exact Nat.le_of_ble_eq_true rfl⟩ (fun z25 M26 ez25 H locs hG => ?_)
          obtain ⟨ez25, eM26⟩ := ez25
          subst ez25
          rw [eM26] at hG
          obtain ⟨K35, hK35, h⟩ := h
          have jK35 : K35 → ∀ (H : Heap) (locs : List Loc), GM D cy o M s.heap H locs → ∀ ls : Array Slot, lv_has ls 9 [(4, .ref (rA o (a0 + 2 * a3 + 28))), (5, .ref (rA o (a0 + 3 * a3 + 570))), (6, .int (J x7)), (7, .int (J x9)), (8, .int (J x18))] → W p l e rm_X10_firstClash s m args below meth c H locs 0 0 Qf (F0 m 120 ls []) := by
            intro hcK35 H locs hG ls hl
            have h := hK35 hcK35
            refine j_iinc hx hb dX10_firstClash_120 hl (k := 4) rfl (by decide) (fun x36 ex36 ls hl => ?_)
            have h := h x36 ex36
            have hl : lv_has ls 9 [(8, .int (J x36)), (4, .ref (rA o (a0 + 2 * a3 + 28))), (5, .ref (rA o (a0 + 3 * a3 + 570))), (6, .int (J x7)), (7, .int (J x9))] := hl
            refine lv_goto (tgt := 63) hx hb dX10_firstClash_123 (by decide) ?_
            obtain ⟨n37, ln37, iI19⟩ := h
            exact rI19 n37 ln37 x36 iI19 H locs hG ls (lv_sub hl [1, 2, 3, 4, 0] rfl)
          refine j_if_eq_b (tgt := 120) hx hb dX10_firstClash_82 (by decide) (fun c38 => ?_) (fun c38 => ?_)
          · have h := h.1 c38
            exact jK35 h H locs hG ls (lv_sub hl [0, 1, 2, 3, 4] rfl)
          · have h := h.2 c38
            refine lv_aload hx hb dX10_firstClash_85 (lv_at hl 1 rfl) ?_
            refine j_getr hx hb hts hown hK hG (k := a0 + 3 * a3 + 570) (fun w h => List.mem_cons_of_mem _ (u_X5 w h)) (ci := 4) rfl k3 4 (k2 := a0 + 3 * a3 + 572) (by decide) (by show (a0 + 3 * a3 + 570) + (2 : Int) = a0 + 3 * a3 + 572; omega) w_fl_RX10_359 dX10_firstClash_87 ?_
            refine lv_iload hx hb dX10_firstClash_90 (lv_at hl 4 rfl) ?_
            obtain ⟨g39, h⟩ := h
            refine j_iald hx hb hK hG (n := 40) (show kd (a0 + 3 * a3 + 572) = 1040 from (show (a0 + 3 * a3 + 570) + 2 = a0 + 3 * a3 + 572 from by omega) ▸ (kf_5_4 k3)) (by decide) g39 dX10_firstClash_92 ?_
            refine lv_iload hx hb dX10_firstClash_93 (lv_at hl 3 rfl) ?_
            obtain ⟨g41, h⟩ := h
            obtain ⟨g42, h⟩ := h
            refine j_icmp_ge (tgt := 120) hx hb dX10_firstClash_95 (by decide) g41 g42 (fun c40 => ?_) (fun c40 => ?_)
            · have h := h.1 c40
              exact jK35 h H locs hG ls (lv_sub hl [0, 1, 2, 3, 4] rfl)
            · have h := h.2 c40
              refine lv_iload hx hb dX10_firstClash_98 (lv_at hl 2 rfl) ?_
              refine lv_aload hx hb dX10_firstClash_100 (lv_at hl 1 rfl) ?_
              refine j_getr hx hb hts hown hK hG (k := a0 + 3 * a3 + 570) (fun w h => List.mem_cons_of_mem _ (u_X5 w h)) (ci := 4) rfl k3 4 (k2 := a0 + 3 * a3 + 572) (by decide) (by show (a0 + 3 * a3 + 570) + (2 : Int) = a0 + 3 * a3 + 572; omega) w_fl_RX10_359 dX10_firstClash_102 ?_
              refine lv_iload hx hb dX10_firstClash_105 (lv_at hl 4 rfl) ?_
              refine j_iald hx hb hK hG (n := 40) (show kd (a0 + 3 * a3 + 572) = 1040 from (show (a0 + 3 * a3 + 570) + 2 = a0 + 3 * a3 + 572 from by omega) ▸ (kf_5_4 k3)) (by decide) g39 dX10_firstClash_107 ?_
              refine lv_aload hx hb dX10_firstClash_108 (lv_at hl 0 rfl) ?_
              refine j_geti hx hb hts hown hK hG (k := a0 + 2 * a3 + 28) (fun w h => List.mem_cons_of_mem _ (u_X4 w h)) (ci := 3) rfl k2 3 (by decide) (jz := 3) rfl w_fl_RX10_320 dX10_firstClash_110 ?_
              refine j_iadd hx hb dX10_firstClash_113 ?_
              obtain ⟨g44, h⟩ := h
              obtain ⟨g45, h⟩ := h
              refine j_icmp_ge (tgt := 120) hx hb dX10_firstClash_114 (by decide) g44 g45 (fun c43 => ?_) (fun c43 => ?_)
              · have h := h.1 c43
                exact jK35 h H locs hG ls (lv_sub hl [0, 1, 2, 3, 4] rfl)
              · have h := h.2 c43
                refine lv_iload hx hb dX10_firstClash_117 (lv_at hl 4 rfl) ?_
                rw [hQf]
                exact j_ireti hx hb hr hlocks hG ⟨h, rfl⟩ (by decide) dX10_firstClash_119
    exact lI19 n20s x13 iI19 H locs hG ls (lv_sub hl [1, 2, 3, 4, 0] rfl)
  have h := hg
  obtain ⟨g16, h⟩ := h
  obtain ⟨g17, h⟩ := h
  refine j_icmp_ne (tgt := 60) hx hb dX10_firstClash_51 (by decide) g16 g17 (fun c15 => ?_) (fun c15 => ?_)
  · have h := h.1 c15
    refine lv_iconst (v := J 0) hx hb dX10_firstClash_60 (by decide) ?_
    exact jK14 0 (fun _ => rfl) (fun q => absurd q (by omega)) H locs hG ls (lv_sub hl [3, 2, 1, 0] rfl)
  · have h := h.2 c15
    refine lv_iload_n hx hb dX10_firstClash_54 rfl (lv_at hl 6 rfl) ?_
    refine lv_iconst (v := J 1) hx hb dX10_firstClash_55 (by decide) ?_
    refine j_iadd hx hb dX10_firstClash_56 ?_
    refine lv_goto (tgt := 61) hx hb dX10_firstClash_57 (by decide) ?_
    exact jK14 (a2 + 1) (fun q => absurd q (by omega)) (fun _ => rfl) H locs hG ls (lv_sub hl [3, 2, 1, 0] rfl)

abbrev rom_X10_clash : Room := { frames := 5, cells := 0, slots := 0, locals := 121 }
set_option maxRecDepth 100000 in
set_option maxHeartbeats 4000000 in
theorem Ao_X10_clash (l : Launch) {D : va_G} {cy : Nat → ClassId} {o : Nat} {sK sV : Nat → Nat} {M : jT} {a0 : Int} {a1 : Int} {a2 : Int} (ka0 : kd a0 = 10) {Q : Int → jT → Prop} (h : wo_X10_clash M a0 a1 a2 Q) : CoI l yX10_clash (wj yX10_clash cX10_clash 6 (some .int)) rom_X10_clash D cy o sK sV M [.ref (rA o a0), .int (J a1), .int (J a2)] Q := by
  refine j_ofW (cc := cX10_clash) (maxL := 6) (ret := (some .int)) (by decide) rfl (Nat.le_of_ble_eq_true rfl) ?_
  intro p e s m args below meth c hx hb hr hlocks hml hown hts hK hSX H locs hG ls hl Qf hQf
  have hown : s.vm.findClass RX10 = some m.cls := hown
  have hl : lv_has ls 6 [(0, .ref (rA o a0)), (1, .int (J a1)), (2, .int (J a2))] := hl
  have w_fl_RX10_295 := hts _ (List.mem_cons_of_mem _ fl_RX10_295)
  have w_fl_RX10_12 := hts _ (List.mem_cons_of_mem _ fl_RX10_12)
  have w_fl_RX10_269 := hts _ (List.mem_cons_of_mem _ fl_RX10_269)
  unfold wo_X10_clash at h
  refine lv_aload_n hx hb dX10_clash_0 rfl (lv_at hl 0 rfl) ?_
  refine lv_iload_n hx hb dX10_clash_1 rfl (lv_at hl 1 rfl) ?_
  refine j_contv (va_runV (As := [.int (J a1)]) (rest := []) ⟨hx, hb, hml, hown, hts⟩ (Ao_X10_needMeeting l ka0 h) (cwV 1 hts (gj_V ml_RX10_281 i_X10_needMeeting s_X10_needMeeting n_RX10 k_X10_needMeeting) rfl rfl rfl (by decide +kernel) ⟨by exact Nat.le_of_ble_eq_true rfl, by exact Nat.le_of_ble_eq_true rfl⟩) (j_preV hK hSX hG (ci := 9) rfl ka0 (by decide)) rfl rfl hl.1 rfl (lv_room (Nat.le_of_ble_eq_true rfl)) dX10_clash_2 ⟨by exact Nat.le_of_ble_eq_true rfl, by exact Nat.le_of_ble_eq_true rfl⟩) hG (c2 := 0) (s2 := 0) ⟨by exact Nat.le_of_ble_eq_true rfl, by exact Nat.le_of_ble_eq_true rfl⟩ (fun M2 h H locs hG => ?_)
  obtain ⟨h, eM2⟩ := h
  rw [eM2] at hG
  refine lv_aload_n hx hb dX10_clash_5 rfl (lv_at hl 0 rfl) ?_
  refine lv_iload_n hx hb dX10_clash_6 rfl (lv_at hl 2 rfl) ?_
  refine j_contv (va_runV (As := [.int (J a2)]) (rest := []) ⟨hx, hb, hml, hown, hts⟩ (Ao_X10_needMeeting l ka0 h) (cwV 1 hts (gj_V ml_RX10_281 i_X10_needMeeting s_X10_needMeeting n_RX10 k_X10_needMeeting) rfl rfl rfl (by decide +kernel) ⟨by exact Nat.le_of_ble_eq_true rfl, by exact Nat.le_of_ble_eq_true rfl⟩) (j_preV hK hSX hG (ci := 9) rfl ka0 (by decide)) rfl rfl hl.1 rfl (lv_room (Nat.le_of_ble_eq_true rfl)) dX10_clash_7 ⟨by exact Nat.le_of_ble_eq_true rfl, by exact Nat.le_of_ble_eq_true rfl⟩) hG (c2 := 0) (s2 := 0) ⟨by exact Nat.le_of_ble_eq_true rfl, by exact Nat.le_of_ble_eq_true rfl⟩ (fun M4 h H locs hG => ?_)
  obtain ⟨h, eM4⟩ := h
  rw [eM4] at hG
  refine lv_aload_n hx hb dX10_clash_10 rfl (lv_at hl 0 rfl) ?_
  refine lv_iload_n hx hb dX10_clash_11 rfl (lv_at hl 1 rfl) ?_
  refine j_contr (va_runV (As := [.int (J a1)]) (rest := []) ⟨hx, hb, hml, hown, hts⟩ (A_X10_timed l ka0 h) (cwV 1 hts (gj_V ml_RX10_335 i_X10_timed s_X10_timed n_RX10 k_X10_timed) rfl rfl rfl (by decide +kernel) ⟨by exact Nat.le_of_ble_eq_true rfl, by exact Nat.le_of_ble_eq_true rfl⟩) (j_preV hK hSX hG (ci := 9) rfl ka0 (by decide)) rfl rfl hl.1 rfl (lv_room (Nat.le_of_ble_eq_true rfl)) dX10_clash_12 ⟨by exact Nat.le_of_ble_eq_true rfl, by exact Nat.le_of_ble_eq_true rfl⟩) hG (c2 := 0) (s2 := 0) ⟨by exact Nat.le_of_ble_eq_true rfl, by exact Nat.le_of_ble_eq_true rfl⟩ (fun k5 M6 h hk5 H locs hG => ?_)
  refine lv_astore_n (lv' := [(3, .ref (rA o k5)), (0, .ref (rA o a0)), (1, .int (J a1)), (2, .int (J a2))]) hx hb dX10_clash_15 rfl hl (by decide) rfl (fun ls hl => ?_)
  refine lv_aload_n hx hb dX10_clash_16 rfl (lv_at hl 1 rfl) ?_
  refine lv_iload_n hx hb dX10_clash_17 rfl (lv_at hl 3 rfl) ?_
  refine j_contr (va_runV (As := [.int (J a2)]) (rest := []) ⟨hx, hb, hml, hown, hts⟩ (A_X10_timed l ka0 h) (cwV 1 hts (gj_V ml_RX10_335 i_X10_timed s_X10_timed n_RX10 k_X10_timed) rfl rfl rfl (by decide +kernel) ⟨by exact Nat.le_of_ble_eq_true rfl, by exact Nat.le_of_ble_eq_true rfl⟩) (j_preV hK hSX hG (ci := 9) rfl ka0 (by decide)) rfl rfl hl.1 rfl (lv_room (Nat.le_of_ble_eq_true rfl)) dX10_clash_18 ⟨by exact Nat.le_of_ble_eq_true rfl, by exact Nat.le_of_ble_eq_true rfl⟩) hG (c2 := 0) (s2 := 0) ⟨by exact Nat.le_of_ble_eq_true rfl, by exact Nat.le_of_ble_eq_true rfl⟩ (fun k7 M8 h hk7 H locs hG => ?_)
  refine lv_pop hx hb dX10_clash_21 rfl ?_
  refine lv_iconst (v := J 0) hx hb dX10_clash_22 (by decide) ?_
  refine lv_istore (lv' := [(4, .int (J 0)), (3, .ref (rA o k5)), (0, .ref (rA o a0)), (1, .int (J a1)), (2, .int (J a2))]) hx hb dX10_clash_23 hl (by decide) rfl (fun ls hl => ?_)
  obtain ⟨I10, ⟨n11s, iI10⟩, qI10⟩ := h
  have lI10 : ∀ (n11 : Nat) (x9 : Int), I10 n11 x9 → ∀ (H : Heap) (locs : List Loc), GM D cy o M8 s.heap H locs → ∀ ls : Array Slot, lv_has ls 6 [(0, .ref (rA o a0)), (1, .int (J a1)), (2, .int (J a2)), (3, .ref (rA o k5)), (4, .int (J x9))] → W p l e rom_X10_clash s m args below meth c H locs 0 0 Qf (F0 m 25 ls []) := by
    intro n11
    induction n11 using Nat.strongRecOn with
    | ind n11 rI10 =>
      intro x9 iI10 H locs hG ls hl
      have h := qI10 n11 x9 iI10
      refine lv_iload hx hb dX10_clash_25 (lv_at hl 4 rfl) ?_
      refine lv_aload_n hx hb dX10_clash_27 rfl (lv_at hl 3 rfl) ?_
      refine j_geti hx hb hts hown hK hG (k := k5) (fun w h => List.mem_cons_of_mem _ (u_X5 w h)) (ci := 4) rfl hk5 2 (by decide) (jz := 2) rfl w_fl_RX10_295 dX10_clash_28 ?_
      obtain ⟨g13, h⟩ := h
      obtain ⟨g14, h⟩ := h
      refine j_icmp_ge (tgt := 86) hx hb dX10_clash_31 (by decide) g13 g14 (fun c12 => ?_) (fun c12 => ?_)
      · have h := h.1 c12
        refine lv_iconst (v := J (-1)) hx hb dX10_clash_86 (by decide) ?_
        rw [hQf]
        exact j_ireti hx hb hr hlocks hG h (by decide) dX10_clash_87
      · have h := h.2 c12
        refine lv_aload_n hx hb dX10_clash_34 rfl (lv_at hl 3 rfl) ?_
        refine lv_aload_n hx hb dX10_clash_35 rfl (lv_at hl 0 rfl) ?_
        refine j_getr hx hb hts hown hK hG (k := a0) (fun w h => List.mem_cons_of_mem _ (u_X10 w h)) (ci := 9) rfl ka0 0 (k2 := a0 + 1) (by decide) (by show a0 + (1 : Int) = a0 + 1; omega) w_fl_RX10_12 dX10_clash_36 ?_
        refine j_getr hx hb hts hown hK hG (k := a0 + 1) (fun w h => List.mem_cons_of_mem _ (u_X0 w h)) (ci := 0) rfl (kf_10_0 ka0) 3 (k2 := a0 + 3) (by decide) (by show (a0 + 1) + (2 : Int) = a0 + 3; omega) w_fl_RX10_269 dX10_clash_39 ?_
        refine lv_iload_n hx hb dX10_clash_42 rfl (lv_at hl 1 rfl) ?_
        obtain ⟨g15, h⟩ := h
        refine j_aald hx hb hK hG (t := 21) (t0 := 4) (k2 := a0 + 2 * a1 + 28) (show kd (a0 + 3) = 21 from (show (a0 + 1) + 2 = a0 + 3 from by omega) ▸ (kf_1_3 (kf_10_0 ka0))) (by decide) rfl g15 (by simp only [ra_21]; omega) dX10_clash_43 ?_
        have k16 : kd (a0 + 2 * a1 + 28) = 4 := by have q9 := (ka_21 (show kd (a0 + 3) = 21 from (show (a0 + 1) + 2 = a0 + 3 from by omega) ▸ (kf_1_3 (kf_10_0 ka0))) g15); rwa [show (a0 + 3) + 25 + 2 * a1 = a0 + 2 * a1 + 28 from by omega] at q9
        refine lv_iload hx hb dX10_clash_44 (lv_at hl 4 rfl) ?_
        obtain ⟨g17, h⟩ := h
        refine j_conti (va_runV (As := [.ref (rA o (a0 + 2 * a1 + 28)), .int (J x9)]) (rest := []) ⟨hx, hb, hml, hown, hts⟩ (A_X5_takesPlace l hk5 k16 g17) (cwV 2 hts (gj_V ml_RX10_355 i_X5_takesPlace s_X5_takesPlace n_RX5 k_X5_takesPlace) rfl rfl rfl (by decide +kernel) ⟨by exact Nat.le_of_ble_eq_true rfl, by exact Nat.le_of_ble_eq_true rfl⟩) (j_preV hK hSX hG (ci := 4) rfl hk5 (by decide)) rfl rfl hl.1 rfl (lv_room (Nat.le_of_ble_eq_true rfl)) dX10_clash_46 ⟨by exact Nat.le_of_ble_eq_true rfl, by exact Nat.le_of_ble_eq_true rfl⟩) hG (c2 := 0) (s2 := 0) ⟨by exact Nat.le_of_ble_eq_true rfl, by exact Nat.le_of_ble_eq_true rfl⟩ (fun z18 M19 ez18 H locs hG => ?_)
        obtain ⟨ez18, eM19⟩ := ez18
        subst ez18
        rw [eM19] at hG
        obtain ⟨K24, hK24, h⟩ := h
        have jK24 : ∀ (x23 : Int), K24 x23 → ∀ (H : Heap) (locs : List Loc), GM D cy o M8 s.heap H locs → ∀ ls : Array Slot, lv_has ls 6 [(0, .ref (rA o a0)), (1, .int (J a1)), (2, .int (J a2)), (3, .ref (rA o k5)), (4, .int (J x9))] → W p l e rom_X10_clash s m args below meth c H locs 0 0 Qf (F0 m 64 ls [.int (J x23)]) := by
          intro x23 hcK24 H locs hG ls hl
          have h := hK24 x23 hcK24
          refine lv_istore (lv' := [(5, .int (J x23)), (0, .ref (rA o a0)), (1, .int (J a1)), (2, .int (J a2)), (3, .ref (rA o k5)), (4, .int (J x9))]) hx hb dX10_clash_64 hl (by decide) rfl (fun ls hl => ?_)
          refine lv_iload hx hb dX10_clash_66 (lv_at hl 0 rfl) ?_
          obtain ⟨g26, h⟩ := h
          refine j_if_lt (tgt := 80) hx hb dX10_clash_68 (by decide) g26 (fun c25 => ?_) (fun c25 => ?_)
          · have h := h.1 c25
            refine j_iinc hx hb dX10_clash_80 hl (k := 5) rfl (by decide) (fun x27 ex27 ls hl => ?_)
            have h := h x27 ex27
            have hl : lv_has ls 6 [(4, .int (J x27)), (5, .int (J x23)), (0, .ref (rA o a0)), (1, .int (J a1)), (2, .int (J a2)), (3, .ref (rA o k5))] := hl
            refine lv_goto (tgt := 25) hx hb dX10_clash_83 (by decide) ?_
            obtain ⟨n28, ln28, iI10⟩ := h
            exact rI10 n28 ln28 x27 iI10 H locs hG ls (lv_sub hl [2, 3, 4, 5, 0] rfl)
          · have h := h.2 c25
            refine lv_bipush (v := J 100) hx hb dX10_clash_71 (by decide) ?_
            refine lv_iload hx hb dX10_clash_73 (lv_at hl 5 rfl) ?_
            refine j_imul hx hb dX10_clash_75 ?_
            refine lv_iload hx hb dX10_clash_76 (lv_at hl 0 rfl) ?_
            refine j_iadd hx hb dX10_clash_78 ?_
            rw [hQf]
            exact j_ireti hx hb hr hlocks hG h (by decide) dX10_clash_79
        refine j_if_eq_b (tgt := 63) hx hb dX10_clash_49 (by decide) (fun c29 => ?_) (fun c29 => ?_)
        · have h := h.1 c29
          refine lv_iconst (v := J (-1)) hx hb dX10_clash_63 (by decide) ?_
          exact jK24 ((-1)) h H locs hG ls (lv_sub hl [0, 1, 2, 3, 4] rfl)
        · have h := h.2 c29
          refine lv_aload_n hx hb dX10_clash_52 rfl (lv_at hl 0 rfl) ?_
          refine lv_iload_n hx hb dX10_clash_53 rfl (lv_at hl 1 rfl) ?_
          refine lv_iload hx hb dX10_clash_54 (lv_at hl 4 rfl) ?_
          refine lv_iload_n hx hb dX10_clash_56 rfl (lv_at hl 2 rfl) ?_
          refine j_conti (va_runV (As := [.int (J a1), .int (J x9), .int (J a2)]) (rest := []) ⟨hx, hb, hml, hown, hts⟩ (A_X10_firstClash l ka0 h) (cwV 3 hts (gj_V ml_RX10_362 i_X10_firstClash s_X10_firstClash n_RX10 k_X10_firstClash) rfl rfl rfl (by decide +kernel) ⟨by exact Nat.le_of_ble_eq_true rfl, by exact Nat.le_of_ble_eq_true rfl⟩) (j_preV hK hSX hG (ci := 9) rfl ka0 (by decide)) rfl rfl hl.1 rfl (lv_room (Nat.le_of_ble_eq_true rfl)) dX10_clash_57 ⟨by exact Nat.le_of_ble_eq_true rfl, by exact Nat.le_of_ble_eq_true rfl⟩) hG (c2 := 0) (s2 := 0) ⟨by exact Nat.le_of_ble_eq_true rfl, by exact Nat.le_of_ble_eq_true rfl⟩ (fun z30 M31 h H locs hG => ?_)
          obtain ⟨h, eM31⟩ := h
          rw [eM31] at hG
          refine lv_goto (tgt := 64) hx hb dX10_clash_60 (by decide) ?_
          exact jK24 z30 h H locs hG ls (lv_sub hl [0, 1, 2, 3, 4] rfl)
  exact lI10 n11s 0 iI10 H locs hG ls (lv_sub hl [2, 3, 4, 1, 0] rfl)
abbrev rm_X10_clash : Room := { frames := 8, cells := 1, slots := 6, locals := 131 }
set_option maxRecDepth 100000 in
set_option maxHeartbeats 4000000 in
theorem A_X10_clash (l : Launch) (hst : l.stackTraces = false) {D : va_G} {cy : Nat → ClassId} {o : Nat} {sK sV : Nat → Nat} {M : jT} {a0 : Int} {a1 : Int} {a2 : Int} (ka0 : kd a0 = 10) {Q : Int → jT → Prop} {X : Nat → jT → Prop} (h : wp_X10_clash M a0 a1 a2 Q X) : CxI l yX10_clash (wj yX10_clash cX10_clash 6 (some .int)) rm_X10_clash D cy o sK sV M [.ref (rA o a0), .int (J a1), .int (J a2)] Q X := by
  refine j_ofWx (cc := cX10_clash) (maxL := 6) (ret := (some .int)) (by decide) rfl (Nat.le_of_ble_eq_true rfl) ?_
  intro p e s m args below meth c hx hb hr hlocks hout hml hown hts hK hSX H locs hsz hG ls hl Qf hQf
  have hown : s.vm.findClass RX10 = some m.cls := hown
  have hl : lv_has ls 6 [(0, .ref (rA o a0)), (1, .int (J a1)), (2, .int (J a2))] := hl
  have w_fl_RX10_295 := hts _ (List.mem_cons_of_mem _ fl_RX10_295)
  have w_fl_RX10_12 := hts _ (List.mem_cons_of_mem _ fl_RX10_12)
  have w_fl_RX10_269 := hts _ (List.mem_cons_of_mem _ fl_RX10_269)
  unfold wp_X10_clash at h
  refine lv_aload_n hx hb dX10_clash_0 rfl (lv_at hl 0 rfl) ?_
  refine lv_iload_n hx hb dX10_clash_1 rfl (lv_at hl 1 rfl) ?_
  rcases h with h | h
  · refine j_contv (va_runV (As := [.int (J a1)]) (rest := []) ⟨hx, hb, hml, hown, hts⟩ (Ao_X10_needMeeting l ka0 h) (cwV 1 hts (gj_V ml_RX10_281 i_X10_needMeeting s_X10_needMeeting n_RX10 k_X10_needMeeting) rfl rfl rfl (by decide +kernel) ⟨by exact Nat.le_of_ble_eq_true rfl, by exact Nat.le_of_ble_eq_true rfl⟩) (j_preV hK hSX hG (ci := 9) rfl ka0 (by decide)) rfl rfl hl.1 rfl (lv_room (Nat.le_of_ble_eq_true rfl)) dX10_clash_2 ⟨by exact Nat.le_of_ble_eq_true rfl, by exact Nat.le_of_ble_eq_true rfl⟩) hG (c2 := 0) (s2 := 0) ⟨by exact Nat.le_of_ble_eq_true rfl, by exact Nat.le_of_ble_eq_true rfl⟩ (fun M2 h H locs hG => ?_)
    obtain ⟨h, eM2⟩ := h
    rw [eM2] at hG
    refine lv_aload_n hx hb dX10_clash_5 rfl (lv_at hl 0 rfl) ?_
    refine lv_iload_n hx hb dX10_clash_6 rfl (lv_at hl 2 rfl) ?_
    rcases h with h | h
    · refine j_contv (va_runV (As := [.int (J a2)]) (rest := []) ⟨hx, hb, hml, hown, hts⟩ (Ao_X10_needMeeting l ka0 h) (cwV 1 hts (gj_V ml_RX10_281 i_X10_needMeeting s_X10_needMeeting n_RX10 k_X10_needMeeting) rfl rfl rfl (by decide +kernel) ⟨by exact Nat.le_of_ble_eq_true rfl, by exact Nat.le_of_ble_eq_true rfl⟩) (j_preV hK hSX hG (ci := 9) rfl ka0 (by decide)) rfl rfl hl.1 rfl (lv_room (Nat.le_of_ble_eq_true rfl)) dX10_clash_7 ⟨by exact Nat.le_of_ble_eq_true rfl, by exact Nat.le_of_ble_eq_true rfl⟩) hG (c2 := 0) (s2 := 0) ⟨by exact Nat.le_of_ble_eq_true rfl, by exact Nat.le_of_ble_eq_true rfl⟩ (fun M4 h H locs hG => ?_)
      obtain ⟨h, eM4⟩ := h
      rw [eM4] at hG
      refine lv_aload_n hx hb dX10_clash_10 rfl (lv_at hl 0 rfl) ?_
      refine lv_iload_n hx hb dX10_clash_11 rfl (lv_at hl 1 rfl) ?_
      refine j_contr (va_runV (As := [.int (J a1)]) (rest := []) ⟨hx, hb, hml, hown, hts⟩ (A_X10_timed l ka0 h) (cwV 1 hts (gj_V ml_RX10_335 i_X10_timed s_X10_timed n_RX10 k_X10_timed) rfl rfl rfl (by decide +kernel) ⟨by exact Nat.le_of_ble_eq_true rfl, by exact Nat.le_of_ble_eq_true rfl⟩) (j_preV hK hSX hG (ci := 9) rfl ka0 (by decide)) rfl rfl hl.1 rfl (lv_room (Nat.le_of_ble_eq_true rfl)) dX10_clash_12 ⟨by exact Nat.le_of_ble_eq_true rfl, by exact Nat.le_of_ble_eq_true rfl⟩) hG (c2 := 0) (s2 := 0) ⟨by exact Nat.le_of_ble_eq_true rfl, by exact Nat.le_of_ble_eq_true rfl⟩ (fun k5 M6 h hk5 H locs hG => ?_)
      refine lv_astore_n (lv' := [(3, .ref (rA o k5)), (0, .ref (rA o a0)), (1, .int (J a1)), (2, .int (J a2))]) hx hb dX10_clash_15 rfl hl (by decide) rfl (fun ls hl => ?_)
      refine lv_aload_n hx hb dX10_clash_16 rfl (lv_at hl 1 rfl) ?_
      refine lv_iload_n hx hb dX10_clash_17 rfl (lv_at hl 3 rfl) ?_
      refine j_contr (va_runV (As := [.int (J a2)]) (rest := []) ⟨hx, hb, hml, hown, hts⟩ (A_X10_timed l ka0 h) (cwV 1 hts (gj_V ml_RX10_335 i_X10_timed s_X10_timed n_RX10 k_X10_timed) rfl rfl rfl (by decide +kernel) ⟨by exact Nat.le_of_ble_eq_true rfl, by exact Nat.le_of_ble_eq_true rfl⟩) (j_preV hK hSX hG (ci := 9) rfl ka0 (by decide)) rfl rfl hl.1 rfl (lv_room (Nat.le_of_ble_eq_true rfl)) dX10_clash_18 ⟨by exact Nat.le_of_ble_eq_true rfl, by exact Nat.le_of_ble_eq_true rfl⟩) hG (c2 := 0) (s2 := 0) ⟨by exact Nat.le_of_ble_eq_true rfl, by exact Nat.le_of_ble_eq_true rfl⟩ (fun k7 M8 h hk7 H locs hG => ?_)
      refine lv_pop hx hb dX10_clash_21 rfl ?_
      refine lv_iconst (v := J 0) hx hb dX10_clash_22 (by decide) ?_
      refine lv_istore (lv' := [(4, .int (J 0)), (3, .ref (rA o k5)), (0, .ref (rA o a0)), (1, .int (J a1)), (2, .int (J a2))]) hx hb dX10_clash_23 hl (by decide) rfl (fun ls hl => ?_)
      obtain ⟨I10, ⟨n11s, iI10⟩, qI10⟩ := h
      have lI10 : ∀ (n11 : Nat) (x9 : Int), I10 n11 x9 → ∀ (H : Heap) (locs : List Loc), GM D cy o M8 s.heap H locs → ∀ ls : Array Slot, lv_has ls 6 [(0, .ref (rA o a0)), (1, .int (J a1)), (2, .int (J a2)), (3, .ref (rA o k5)), (4, .int (J x9))] → W p l e rm_X10_clash s m args below meth c H locs 0 0 Qf (F0 m 25 ls []) := by
        intro n11
        induction n11 using Nat.strongRecOn with
        | ind n11 rI10 =>
          intro x9 iI10 H locs hG ls hl
          have h := qI10 n11 x9 iI10
          refine lv_iload hx hb dX10_clash_25 (lv_at hl 4 rfl) ?_
          refine lv_aload_n hx hb dX10_clash_27 rfl (lv_at hl 3 rfl) ?_
          refine j_geti hx hb hts hown hK hG (k := k5) (fun w h => List.mem_cons_of_mem _ (u_X5 w h)) (ci := 4) rfl hk5 2 (by decide) (jz := 2) rfl w_fl_RX10_295 dX10_clash_28 ?_
          obtain ⟨g13, h⟩ := h
          obtain ⟨g14, h⟩ := h
          refine j_icmp_ge (tgt := 86) hx hb dX10_clash_31 (by decide) g13 g14 (fun c12 => ?_) (fun c12 => ?_)
          · have h := h.1 c12
            refine lv_iconst (v := J (-1)) hx hb dX10_clash_86 (by decide) ?_
            rw [hQf]
            exact vx_ret (j_ireti hx hb hr hlocks hG h (by decide) dX10_clash_87)
          · have h := h.2 c12
            refine lv_aload_n hx hb dX10_clash_34 rfl (lv_at hl 3 rfl) ?_
            refine lv_aload_n hx hb dX10_clash_35 rfl (lv_at hl 0 rfl) ?_
            refine j_getr hx hb hts hown hK hG (k := a0) (fun w h => List.mem_cons_of_mem _ (u_X10 w h)) (ci := 9) rfl ka0 0 (k2 := a0 + 1) (by decide) (by show a0 + (1 : Int) = a0 + 1; omega) w_fl_RX10_12 dX10_clash_36 ?_
            refine j_getr hx hb hts hown hK hG (k := a0 + 1) (fun w h => List.mem_cons_of_mem _ (u_X0 w h)) (ci := 0) rfl (kf_10_0 ka0) 3 (k2 := a0 + 3) (by decide) (by show (a0 + 1) + (2 : Int) = a0 + 3; omega) w_fl_RX10_269 dX10_clash_39 ?_
            refine lv_iload_n hx hb dX10_clash_42 rfl (lv_at hl 1 rfl) ?_
            obtain ⟨g15, h⟩ := h
            refine j_aald hx hb hK hG (t := 21) (t0 := 4) (k2 := a0 + 2 * a1 + 28) (show kd (a0 + 3) = 21 from (show (a0 + 1) + 2 = a0 + 3 from by omega) ▸ (kf_1_3 (kf_10_0 ka0))) (by decide) rfl g15 (by simp only [ra_21]; omega) dX10_clash_43 ?_
            have k16 : kd (a0 + 2 * a1 + 28) = 4 := by have q9 := (ka_21 (show kd (a0 + 3) = 21 from (show (a0 + 1) + 2 = a0 + 3 from by omega) ▸ (kf_1_3 (kf_10_0 ka0))) g15); rwa [show (a0 + 3) + 25 + 2 * a1 = a0 + 2 * a1 + 28 from by omega] at q9
            refine lv_iload hx hb dX10_clash_44 (lv_at hl 4 rfl) ?_
            obtain ⟨g17, h⟩ := h
            refine j_conti (va_runV (As := [.ref (rA o (a0 + 2 * a1 + 28)), .int (J x9)]) (rest := []) ⟨hx, hb, hml, hown, hts⟩ (A_X5_takesPlace l hk5 k16 g17) (cwV 2 hts (gj_V ml_RX10_355 i_X5_takesPlace s_X5_takesPlace n_RX5 k_X5_takesPlace) rfl rfl rfl (by decide +kernel) ⟨by exact Nat.le_of_ble_eq_true rfl, by exact Nat.le_of_ble_eq_true rfl⟩) (j_preV hK hSX hG (ci := 4) rfl hk5 (by decide)) rfl rfl hl.1 rfl (lv_room (Nat.le_of_ble_eq_true rfl)) dX10_clash_46 ⟨by exact Nat.le_of_ble_eq_true rfl, by exact Nat.le_of_ble_eq_true rfl⟩) hG (c2 := 0) (s2 := 0) ⟨by exact Nat.le_of_ble_eq_true rfl, by exact Nat.le_of_ble_eq_true rfl⟩ (fun z18 M19 ez18 H locs hG => ?_)
            obtain ⟨ez18, eM19⟩ := ez18
            subst ez18
            rw [eM19] at hG
            obtain ⟨K24, hK24, h⟩ := h
            have jK24 : ∀ (x23 : Int), K24 x23 → ∀ (H : Heap) (locs : List Loc), GM D cy o M8 s.heap H locs → ∀ ls : Array Slot, lv_has ls 6 [(0, .ref (rA o a0)), (1, .int (J a1)), (2, .int (J a2)), (3, .ref (rA o k5)), (4, .int (J x9))] → W p l e rm_X10_clash s m args below meth c H locs 0 0 Qf (F0 m 64 ls [.int (J x23)]) := by
              intro x23 hcK24 H locs hG ls hl
              have h := hK24 x23 hcK24
              refine lv_istore (lv' := [(5, .int (J x23)), (0, .ref (rA o a0)), (1, .int (J a1)), (2, .int (J a2)), (3, .ref (rA o k5)), (4, .int (J x9))]) hx hb dX10_clash_64 hl (by decide) rfl (fun ls hl => ?_)
              refine lv_iload hx hb dX10_clash_66 (lv_at hl 0 rfl) ?_
              obtain ⟨g26, h⟩ := h
              refine j_if_lt (tgt := 80) hx hb dX10_clash_68 (by decide) g26 (fun c25 => ?_) (fun c25 => ?_)
              · have h := h.1 c25
                refine j_iinc hx hb dX10_clash_80 hl (k := 5) rfl (by decide) (fun x27 ex27 ls hl => ?_)
                have h := h x27 ex27
                have hl : lv_has ls 6 [(4, .int (J x27)), (5, .int (J x23)), (0, .ref (rA o a0)), (1, .int (J a1)), (2, .int (J a2)), (3, .ref (rA o k5))] := hl
                refine lv_goto (tgt := 25) hx hb dX10_clash_83 (by decide) ?_
                obtain ⟨n28, ln28, iI10⟩ := h
                exact rI10 n28 ln28 x27 iI10 H locs hG ls (lv_sub hl [2, 3, 4, 5, 0] rfl)
              · have h := h.2 c25
                refine lv_bipush (v := J 100) hx hb dX10_clash_71 (by decide) ?_
                refine lv_iload hx hb dX10_clash_73 (lv_at hl 5 rfl) ?_
                refine j_imul hx hb dX10_clash_75 ?_
                refine lv_iload hx hb dX10_clash_76 (lv_at hl 0 rfl) ?_
                refine j_iadd hx hb dX10_clash_78 ?_
                rw [hQf]
                exact vx_ret (j_ireti hx hb hr hlocks hG h (by decide) dX10_clash_79)
            refine j_if_eq_b (tgt := 63) hx hb dX10_clash_49 (by decide) (fun c29 => ?_) (fun c29 => ?_)
            · have h := h.1 c29
              refine lv_iconst (v := J (-1)) hx hb dX10_clash_63 (by decide) ?_
              exact jK24 ((-1)) h H locs hG ls (lv_sub hl [0, 1, 2, 3, 4] rfl)
            · have h := h.2 c29
              refine lv_aload_n hx hb dX10_clash_52 rfl (lv_at hl 0 rfl) ?_
              refine lv_iload_n hx hb dX10_clash_53 rfl (lv_at hl 1 rfl) ?_
              refine lv_iload hx hb dX10_clash_54 (lv_at hl 4 rfl) ?_
              refine lv_iload_n hx hb dX10_clash_56 rfl (lv_at hl 2 rfl) ?_
              refine j_conti (va_runV (As := [.int (J a1), .int (J x9), .int (J a2)]) (rest := []) ⟨hx, hb, hml, hown, hts⟩ (A_X10_firstClash l ka0 h) (cwV 3 hts (gj_V ml_RX10_362 i_X10_firstClash s_X10_firstClash n_RX10 k_X10_firstClash) rfl rfl rfl (by decide +kernel) ⟨by exact Nat.le_of_ble_eq_true rfl, by exact Nat.le_of_ble_eq_true rfl⟩) (j_preV hK hSX hG (ci := 9) rfl ka0 (by decide)) rfl rfl hl.1 rfl (lv_room (Nat.le_of_ble_eq_true rfl)) dX10_clash_57 ⟨by exact Nat.le_of_ble_eq_true rfl, by exact Nat.le_of_ble_eq_true rfl⟩) hG (c2 := 0) (s2 := 0) ⟨by exact Nat.le_of_ble_eq_true rfl, by exact Nat.le_of_ble_eq_true rfl⟩ (fun z30 M31 h H locs hG => ?_)
              obtain ⟨h, eM31⟩ := h
              rw [eM31] at hG
              refine lv_goto (tgt := 64) hx hb dX10_clash_60 (by decide) ?_
              exact jK24 z30 h H locs hG ls (lv_sub hl [0, 1, 2, 3, 4] rfl)
      exact lI10 n11s 0 iI10 H locs hG ls (lv_sub hl [2, 3, 4, 1, 0] rfl)
    · refine j_contxv (vx_runV (As := [.int (J a2)]) (rest := []) ⟨hx, hb, hml, hown, hts⟩ (A_X10_needMeeting l hst ka0 h) (cwV 1 hts (gj_V ml_RX10_281 i_X10_needMeeting s_X10_needMeeting n_RX10 k_X10_needMeeting) rfl rfl rfl (by decide +kernel) ⟨by exact Nat.le_of_ble_eq_true rfl, by exact Nat.le_of_ble_eq_true rfl⟩) (j_preV hK hSX hG (ci := 9) rfl ka0 (by decide)) rfl rfl hl.1 rfl (lv_room (Nat.le_of_ble_eq_true rfl)) dX10_clash_7 ⟨by exact Nat.le_of_ble_eq_true rfl, by exact Nat.le_of_ble_eq_true rfl⟩) hG (c2 := 1) (s2 := 6) ⟨by exact Nat.le_of_ble_eq_true rfl, by exact Nat.le_of_ble_eq_true rfl⟩ (fun x M h ce q H locs hG h1 h2 h3 => ?_) (fun M h H locs hG => h.elim)
      rw [hQf]
      exact j_xout hlocks hout hG h h1 h2 h3 (by decide)
  · refine j_contxv (vx_runV (As := [.int (J a1)]) (rest := []) ⟨hx, hb, hml, hown, hts⟩ (A_X10_needMeeting l hst ka0 h) (cwV 1 hts (gj_V ml_RX10_281 i_X10_needMeeting s_X10_needMeeting n_RX10 k_X10_needMeeting) rfl rfl rfl (by decide +kernel) ⟨by exact Nat.le_of_ble_eq_true rfl, by exact Nat.le_of_ble_eq_true rfl⟩) (j_preV hK hSX hG (ci := 9) rfl ka0 (by decide)) rfl rfl hl.1 rfl (lv_room (Nat.le_of_ble_eq_true rfl)) dX10_clash_2 ⟨by exact Nat.le_of_ble_eq_true rfl, by exact Nat.le_of_ble_eq_true rfl⟩) hG (c2 := 1) (s2 := 6) ⟨by exact Nat.le_of_ble_eq_true rfl, by exact Nat.le_of_ble_eq_true rfl⟩ (fun x M h ce q H locs hG h1 h2 h3 => ?_) (fun M h H locs hG => h.elim)
    rw [hQf]
    exact j_xout hlocks hout hG h h1 h2 h3 (by decide)

abbrev rm_X10_listBeginnings : Room := { frames := 5, cells := 0, slots := 0, locals := 121 }
set_option maxRecDepth 100000 in
set_option maxHeartbeats 4000000 in
theorem A_X10_listBeginnings (l : Launch) {D : va_G} {cy : Nat → ClassId} {o : Nat} {sK sV : Nat → Nat} {M : jT} {a0 : Int} {a1 : Int} (ka0 : kd a0 = 10) {Q : Int → jT → Prop} (h : wp_X10_listBeginnings M a0 a1 Q) : CoI l yX10_listBeginnings (wj yX10_listBeginnings cX10_listBeginnings 9 (some .int)) rm_X10_listBeginnings D cy o sK sV M [.ref (rA o a0), .int (J a1)] Q := by
  refine j_ofW (cc := cX10_listBeginnings) (maxL := 9) (ret := (some .int)) (by decide) rfl (Nat.le_of_ble_eq_true rfl) ?_
  intro p e s m args below meth c hx hb hr hlocks hml hown hts hK hSX H locs hG ls hl Qf hQf
  have hown : s.vm.findClass RX10 = some m.cls := hown
  have hl : lv_has ls 9 [(0, .ref (rA o a0)), (1, .int (J a1))] := hl
  have w_fl_RX10_12 := hts _ (List.mem_cons_of_mem _ fl_RX10_12)
  have w_fl_RX10_266 := hts _ (List.mem_cons_of_mem _ fl_RX10_266)
  have w_fl_RX10_269 := hts _ (List.mem_cons_of_mem _ fl_RX10_269)
  have w_fl_RX10_295 := hts _ (List.mem_cons_of_mem _ fl_RX10_295)
  have w_fl_RX10_359 := hts _ (List.mem_cons_of_mem _ fl_RX10_359)
  have w_fl_RX10_62 := hts _ (List.mem_cons_of_mem _ fl_RX10_62)
  have w_cl_RX10_368 := hts _ (List.mem_cons_of_mem _ cl_RX10_368)
  unfold wp_X10_listBeginnings at h
  refine lv_iconst (v := J 0) hx hb dX10_listBeginnings_0 (by decide) ?_
  refine lv_istore_n (lv' := [(2, .int (J 0)), (0, .ref (rA o a0)), (1, .int (J a1))]) hx hb dX10_listBeginnings_1 rfl hl (by decide) rfl (fun ls hl => ?_)
  refine lv_iconst (v := J 0) hx hb dX10_listBeginnings_2 (by decide) ?_
  refine lv_istore_n (lv' := [(3, .int (J 0)), (2, .int (J 0)), (0, .ref (rA o a0)), (1, .int (J a1))]) hx hb dX10_listBeginnings_3 rfl hl (by decide) rfl (fun ls hl => ?_)
  obtain ⟨I4, ⟨n5s, iI4⟩, qI4⟩ := h
  have lI4 : ∀ (n5 : Nat) (x1 : Int) (x2 : Int) (M3 : jT), I4 n5 x1 x2 M3 → ∀ (H : Heap) (locs : List Loc), GM D cy o M3 s.heap H locs → ∀ ls : Array Slot, lv_has ls 9 [(0, .ref (rA o a0)), (1, .int (J a1)), (2, .int (J x1)), (3, .int (J x2))] → W p l e rm_X10_listBeginnings s m args below meth c H locs 0 0 Qf (F0 m 4 ls []) := by
    intro n5
    induction n5 using Nat.strongRecOn with
    | ind n5 rI4 =>
      intro x1 x2 M3 iI4 H locs hG ls hl
      have h := qI4 n5 x1 x2 M3 iI4
      refine lv_iload_n hx hb dX10_listBeginnings_4 rfl (lv_at hl 3 rfl) ?_
      refine lv_aload_n hx hb dX10_listBeginnings_5 rfl (lv_at hl 0 rfl) ?_
      refine j_getr hx hb hts hown hK hG (k := a0) (fun w h => List.mem_cons_of_mem _ (u_X10 w h)) (ci := 9) rfl ka0 0 (k2 := a0 + 1) (by decide) (by show a0 + (1 : Int) = a0 + 1; omega) w_fl_RX10_12 dX10_listBeginnings_6 ?_
      refine j_geti hx hb hts hown hK hG (k := a0 + 1) (fun w h => List.mem_cons_of_mem _ (u_X0 w h)) (ci := 0) rfl (kf_10_0 ka0) 1 (by decide) (jz := 1) rfl w_fl_RX10_266 dX10_listBeginnings_9 ?_
      obtain ⟨g7, h⟩ := h
      obtain ⟨g8, h⟩ := h
      refine j_icmp_ge (tgt := 131) hx hb dX10_listBeginnings_12 (by decide) g7 g8 (fun c6 => ?_) (fun c6 => ?_)
      · have h := h.1 c6
        refine lv_iload_n hx hb dX10_listBeginnings_131 rfl (lv_at hl 2 rfl) ?_
        rw [hQf]
        exact j_ireti hx hb hr hlocks hG h (by decide) dX10_listBeginnings_132
      · have h := h.2 c6
        refine lv_aload_n hx hb dX10_listBeginnings_15 rfl (lv_at hl 0 rfl) ?_
        refine j_getr hx hb hts hown hK hG (k := a0) (fun w h => List.mem_cons_of_mem _ (u_X10 w h)) (ci := 9) rfl ka0 0 (k2 := a0 + 1) (by decide) (by show a0 + (1 : Int) = a0 + 1; omega) w_fl_RX10_12 dX10_listBeginnings_16 ?_
        refine j_getr hx hb hts hown hK hG (k := a0 + 1) (fun w h => List.mem_cons_of_mem _ (u_X0 w h)) (ci := 0) rfl (kf_10_0 ka0) 3 (k2 := a0 + 3) (by decide) (by show (a0 + 1) + (2 : Int) = a0 + 3; omega) w_fl_RX10_269 dX10_listBeginnings_19 ?_
        refine lv_iload_n hx hb dX10_listBeginnings_22 rfl (lv_at hl 3 rfl) ?_
        obtain ⟨g9, h⟩ := h
        refine j_aald hx hb hK hG (t := 21) (t0 := 4) (k2 := a0 + 2 * x2 + 28) (show kd (a0 + 3) = 21 from (show (a0 + 1) + 2 = a0 + 3 from by omega) ▸ (kf_1_3 (kf_10_0 ka0))) (by decide) rfl g9 (by simp only [ra_21]; omega) dX10_listBeginnings_23 ?_
        have k10 : kd (a0 + 2 * x2 + 28) = 4 := by have q9 := (ka_21 (show kd (a0 + 3) = 21 from (show (a0 + 1) + 2 = a0 + 3 from by omega) ▸ (kf_1_3 (kf_10_0 ka0))) g9); rwa [show (a0 + 3) + 25 + 2 * x2 = a0 + 2 * x2 + 28 from by omega] at q9
        refine lv_astore (lv' := [(4, .ref (rA o (a0 + 2 * x2 + 28))), (0, .ref (rA o a0)), (1, .int (J a1)), (2, .int (J x1)), (3, .int (J x2))]) hx hb dX10_listBeginnings_24 hl (by decide) rfl (fun ls hl => ?_)
        refine lv_aload_n hx hb dX10_listBeginnings_26 rfl (lv_at hl 1 rfl) ?_
        refine lv_iload_n hx hb dX10_listBeginnings_27 rfl (lv_at hl 4 rfl) ?_
        refine j_contr (va_runV (As := [.int (J x2)]) (rest := []) ⟨hx, hb, hml, hown, hts⟩ (A_X10_timed l ka0 h) (cwV 1 hts (gj_V ml_RX10_335 i_X10_timed s_X10_timed n_RX10 k_X10_timed) rfl rfl rfl (by decide +kernel) ⟨by exact Nat.le_of_ble_eq_true rfl, by exact Nat.le_of_ble_eq_true rfl⟩) (j_preV hK hSX hG (ci := 9) rfl ka0 (by decide)) rfl rfl hl.1 rfl (lv_room (Nat.le_of_ble_eq_true rfl)) dX10_listBeginnings_28 ⟨by exact Nat.le_of_ble_eq_true rfl, by exact Nat.le_of_ble_eq_true rfl⟩) hG (c2 := 0) (s2 := 0) ⟨by exact Nat.le_of_ble_eq_true rfl, by exact Nat.le_of_ble_eq_true rfl⟩ (fun k11 M12 h hk11 H locs hG => ?_)
        refine lv_astore (lv' := [(5, .ref (rA o k11)), (4, .ref (rA o (a0 + 2 * x2 + 28))), (0, .ref (rA o a0)), (1, .int (J a1)), (2, .int (J x1)), (3, .int (J x2))]) hx hb dX10_listBeginnings_31 hl (by decide) rfl (fun ls hl => ?_)
        refine lv_iconst (v := J 0) hx hb dX10_listBeginnings_33 (by decide) ?_
        refine lv_istore (lv' := [(6, .int (J 0)), (5, .ref (rA o k11)), (4, .ref (rA o (a0 + 2 * x2 + 28))), (0, .ref (rA o a0)), (1, .int (J a1)), (2, .int (J x1)), (3, .int (J x2))]) hx hb dX10_listBeginnings_34 hl (by decide) rfl (fun ls hl => ?_)
        obtain ⟨I16, ⟨n17s, iI16⟩, qI16⟩ := h
        have lI16 : ∀ (n17 : Nat) (x13 : Int) (x14 : Int) (M15 : jT), I16 n17 x13 x14 M15 → ∀ (H : Heap) (locs : List Loc), GM D cy o M15 s.heap H locs → ∀ ls : Array Slot, lv_has ls 9 [(0, .ref (rA o a0)), (1, .int (J a1)), (2, .int (J x13)), (3, .int (J x2)), (4, .ref (rA o (a0 + 2 * x2 + 28))), (5, .ref (rA o k11)), (6, .int (J x14))] → W p l e rm_X10_listBeginnings s m args below meth c H locs 0 0 Qf (F0 m 36 ls []) := by
          intro n17
          induction n17 using Nat.strongRecOn with
          | ind n17 rI16 =>
            intro x13 x14 M15 iI16 H locs hG ls hl
            have h := qI16 n17 x13 x14 M15 iI16
            refine lv_iload hx hb dX10_listBeginnings_36 (lv_at hl 6 rfl) ?_
            refine lv_aload hx hb dX10_listBeginnings_38 (lv_at hl 5 rfl) ?_
            refine j_geti hx hb hts hown hK hG (k := k11) (fun w h => List.mem_cons_of_mem _ (u_X5 w h)) (ci := 4) rfl hk11 2 (by decide) (jz := 2) rfl w_fl_RX10_295 dX10_listBeginnings_40 ?_
            obtain ⟨g19, h⟩ := h
            obtain ⟨g20, h⟩ := h
            refine j_icmp_ge (tgt := 125) hx hb dX10_listBeginnings_43 (by decide) g19 g20 (fun c18 => ?_) (fun c18 => ?_)
            · have h := h.1 c18
              refine j_iinc hx hb dX10_listBeginnings_125 hl (k := 3) rfl (by decide) (fun x21 ex21 ls hl => ?_)
              have h := h x21 ex21
              have hl : lv_has ls 9 [(3, .int (J x21)), (0, .ref (rA o a0)), (1, .int (J a1)), (2, .int (J x13)), (4, .ref (rA o (a0 + 2 * x2 + 28))), (5, .ref (rA o k11)), (6, .int (J x14))] := hl
              refine lv_goto (tgt := 4) hx hb dX10_listBeginnings_128 (by decide) ?_
              obtain ⟨n22, ln22, iI4⟩ := h
              exact rI4 n22 ln22 x13 x21 M15 iI4 H locs hG ls (lv_sub hl [1, 2, 3, 0] rfl)
            · have h := h.2 c18
              refine lv_aload hx hb dX10_listBeginnings_46 (lv_at hl 5 rfl) ?_
              refine lv_aload hx hb dX10_listBeginnings_48 (lv_at hl 4 rfl) ?_
              refine lv_iload hx hb dX10_listBeginnings_50 (lv_at hl 6 rfl) ?_
              obtain ⟨g23, h⟩ := h
              refine j_conti (va_runV (As := [.ref (rA o (a0 + 2 * x2 + 28)), .int (J x14)]) (rest := []) ⟨hx, hb, hml, hown, hts⟩ (A_X5_takesPlace l hk11 k10 g23) (cwV 2 hts (gj_V ml_RX10_355 i_X5_takesPlace s_X5_takesPlace n_RX5 k_X5_takesPlace) rfl rfl rfl (by decide +kernel) ⟨by exact Nat.le_of_ble_eq_true rfl, by exact Nat.le_of_ble_eq_true rfl⟩) (j_preV hK hSX hG (ci := 4) rfl hk11 (by decide)) rfl rfl hl.1 rfl (lv_room (Nat.le_of_ble_eq_true rfl)) dX10_listBeginnings_52 ⟨by exact Nat.le_of_ble_eq_true rfl, by exact Nat.le_of_ble_eq_true rfl⟩) hG (c2 := 0) (s2 := 0) ⟨by exact Nat.le_of_ble_eq_true rfl, by exact Nat.le_of_ble_eq_true rfl⟩ (fun z24 M25 ez24 H locs hG => ?_)
              obtain ⟨ez24, eM25⟩ := ez24
              subst ez24
              rw [eM25] at hG
              obtain ⟨K41, hK41, h⟩ := h
              have jK41 : ∀ (x39 : Int) (M40 : jT), K41 x39 M40 → ∀ (H : Heap) (locs : List Loc), GM D cy o M40 s.heap H locs → ∀ ls : Array Slot, lv_has ls 9 [(0, .ref (rA o a0)), (1, .int (J a1)), (2, .int (J x39)), (3, .int (J x2)), (4, .ref (rA o (a0 + 2 * x2 + 28))), (5, .ref (rA o k11)), (6, .int (J x14))] → W p l e rm_X10_listBeginnings s m args below meth c H locs 0 0 Qf (F0 m 119 ls []) := by
                intro x39 M40 hcK41 H locs hG ls hl
                have h := hK41 x39 M40 hcK41
                refine j_iinc hx hb dX10_listBeginnings_119 hl (k := 6) rfl (by decide) (fun x42 ex42 ls hl => ?_)
                have h := h x42 ex42
                have hl : lv_has ls 9 [(6, .int (J x42)), (0, .ref (rA o a0)), (1, .int (J a1)), (2, .int (J x39)), (3, .int (J x2)), (4, .ref (rA o (a0 + 2 * x2 + 28))), (5, .ref (rA o k11))] := hl
                refine lv_goto (tgt := 36) hx hb dX10_listBeginnings_122 (by decide) ?_
                obtain ⟨n43, ln43, iI16⟩ := h
                exact rI16 n43 ln43 x39 x42 M40 iI16 H locs hG ls (lv_sub hl [1, 2, 3, 4, 5, 6, 0] rfl)
              refine j_if_eq_b (tgt := 119) hx hb dX10_listBeginnings_55 (by decide) (fun c44 => ?_) (fun c44 => ?_)
              · have h := h.1 c44
                exact jK41 x13 M15 h H locs hG ls (lv_sub hl [0, 1, 2, 3, 4, 5, 6] rfl)
              · have h := h.2 c44
                refine lv_aload hx hb dX10_listBeginnings_58 (lv_at hl 5 rfl) ?_
                refine j_getr hx hb hts hown hK hG (k := k11) (fun w h => List.mem_cons_of_mem _ (u_X5 w h)) (ci := 4) rfl hk11 4 (k2 := k11 + 2) (by decide) (by show k11 + (2 : Int) = k11 + 2; omega) w_fl_RX10_359 dX10_listBeginnings_60 ?_
                refine lv_iload hx hb dX10_listBeginnings_63 (lv_at hl 6 rfl) ?_
                obtain ⟨g45, h⟩ := h
                refine j_iald hx hb hK hG (n := 40) (kf_5_4 hk11) (by decide) g45 dX10_listBeginnings_65 ?_
                refine lv_iload_n hx hb dX10_listBeginnings_66 rfl (lv_at hl 1 rfl) ?_
                obtain ⟨g47, h⟩ := h
                obtain ⟨g48, h⟩ := h
                refine j_icmp_lt (tgt := 119) hx hb dX10_listBeginnings_67 (by decide) g47 g48 (fun c46 => ?_) (fun c46 => ?_)
                · have h := h.1 c46
                  exact jK41 x13 M15 h H locs hG ls (lv_sub hl [0, 1, 2, 3, 4, 5, 6] rfl)
                · have h := h.2 c46
                  refine lv_iload_n hx hb dX10_listBeginnings_70 rfl (lv_at hl 2 rfl) ?_
                  refine lv_aload_n hx hb dX10_listBeginnings_71 rfl (lv_at hl 0 rfl) ?_
                  refine j_getr hx hb hts hown hK hG (k := a0) (fun w h => List.mem_cons_of_mem _ (u_X10 w h)) (ci := 9) rfl ka0 8 (k2 := a0 + 607) (by decide) (by show a0 + (607 : Int) = a0 + 607; omega) w_fl_RX10_62 dX10_listBeginnings_72 ?_
                  refine j_alenz_l hx hb hK hG (n := 400) (nz := 400) rfl (kf_10_8 ka0) (by decide) dX10_listBeginnings_75 ?_
                  obtain ⟨g50, h⟩ := h
                  refine j_icmp_ge (tgt := 119) hx hb dX10_listBeginnings_76 (by decide) g50 (by decide) (fun c49 => ?_) (fun c49 => ?_)
                  · have h := h.1 c49
                    exact jK41 x13 M15 h H locs hG ls (lv_sub hl [0, 1, 2, 3, 4, 5, 6] rfl)
                  · have h := h.2 c49
                    refine lv_aload hx hb dX10_listBeginnings_79 (lv_at hl 5 rfl) ?_
                    refine j_getr hx hb hts hown hK hG (k := k11) (fun w h => List.mem_cons_of_mem _ (u_X5 w h)) (ci := 4) rfl hk11 4 (k2 := k11 + 2) (by decide) (by show k11 + (2 : Int) = k11 + 2; omega) w_fl_RX10_359 dX10_listBeginnings_81 ?_
                    refine lv_iload hx hb dX10_listBeginnings_84 (lv_at hl 6 rfl) ?_
                    refine j_iald hx hb hK hG (n := 40) (kf_5_4 hk11) (by decide) g45 dX10_listBeginnings_86 ?_
                    refine lv_sipush (v := J (-2000)) hx hb dX10_listBeginnings_87 (by decide) ?_
                    refine j_isub hx hb dX10_listBeginnings_90 ?_
                    obtain ⟨g51, h⟩ := h
                    refine j_i2l hx hb dX10_listBeginnings_91 g51 ?_
                    refine j_topl (fun x52 ex52 => ?_)
                    have h := h x52 ex52
                    refine lv_lstore (lv' := [(7, .long (JL x52)), (0, .ref (rA o a0)), (1, .int (J a1)), (2, .int (J x13)), (3, .int (J x2)), (4, .ref (rA o (a0 + 2 * x2 + 28))), (5, .ref (rA o k11)), (6, .int (J x14))]) hx hb dX10_listBeginnings_92 hl (by decide) rfl (fun ls hl => ?_)
                    refine lv_aload_n hx hb dX10_listBeginnings_94 rfl (lv_at hl 1 rfl) ?_
                    refine j_getr hx hb hts hown hK hG (k := a0) (fun w h => List.mem_cons_of_mem _ (u_X10 w h)) (ci := 9) rfl ka0 8 (k2 := a0 + 607) (by decide) (by show a0 + (607 : Int) = a0 + 607; omega) w_fl_RX10_62 dX10_listBeginnings_95 ?_
                    refine lv_iload_n hx hb dX10_listBeginnings_98 rfl (lv_at hl 3 rfl) ?_
                    refine lv_lload hx hb dX10_listBeginnings_99 (lv_at hl 0 rfl) ?_
                    refine lv_ldc2 (v := JL 400) hx hb hown (show (Cond.constantLong RX10 368 (JL 400)).before args s = true from w_cl_RX10_368) dX10_listBeginnings_101 ?_
                    refine j_lmul hx hb dX10_listBeginnings_104 ?_
                    refine lv_iload_n hx hb dX10_listBeginnings_105 rfl (lv_at hl 4 rfl) ?_
                    refine lv_bipush (v := J 40) hx hb dX10_listBeginnings_106 (by decide) ?_
                    refine j_imul hx hb dX10_listBeginnings_108 ?_
                    obtain ⟨g53, h⟩ := h
                    refine j_i2l hx hb dX10_listBeginnings_109 g53 ?_
                    refine j_ladd hx hb dX10_listBeginnings_110 ?_
                    refine lv_iload hx hb dX10_listBeginnings_111 (lv_at hl 7 rfl) ?_
                    refine j_i2l hx hb dX10_listBeginnings_113 g19 ?_
                    refine j_ladd hx hb dX10_listBeginnings_114 ?_
                    obtain ⟨g54, h⟩ := h
                    refine j_last hx hb hK hG (n := 400) (kf_10_8 ka0) (by decide) g54 dX10_listBeginnings_115 (fun M55 eM55 H locs hG => ?_)
                    have h := h M55 eM55
                    refine j_iinc hx hb dX10_listBeginnings_116 hl (k := 3) rfl (by decide) (fun x56 ex56 ls hl => ?_)
                    have h := h x56 ex56
                    have hl : lv_has ls 9 [(2, .int (J x56)), (7, .long (JL x52)), (0, .ref (rA o a0)), (1, .int (J a1)), (3, .int (J x2)), (4, .ref (rA o (a0 + 2 * x2 + 28))), (5, .ref (rA o k11)), (6, .int (J x14))] := hl
                    exact jK41 x56 M55 h H locs hG ls (lv_sub hl [2, 3, 0, 4, 5, 6, 7] rfl)
        exact lI16 n17s x1 0 M12 iI16 H locs hG ls (lv_sub hl [3, 4, 5, 6, 2, 1, 0] rfl)
  exact lI4 n5s 0 0 M iI4 H locs hG ls (lv_sub hl [2, 3, 1, 0] rfl)

abbrev rom_X10_agenda : Room := { frames := 6, cells := 0, slots := 0, locals := 149 }
set_option maxRecDepth 100000 in
set_option maxHeartbeats 4000000 in
theorem Ao_X10_agenda (l : Launch) {D : va_G} {cy : Nat → ClassId} {o : Nat} {sK sV : Nat → Nat} {M : jT} {a0 : Int} {a1 : Int} {a2 : Int} (ka0 : kd a0 = 10) {Q : Int → jT → Prop} (h : wo_X10_agenda M a0 a1 a2 Q) : CoI l yX10_agenda (wj yX10_agenda cX10_agenda 5 (some .int)) rom_X10_agenda D cy o sK sV M [.ref (rA o a0), .int (J a1), .int (J a2)] Q := by
  refine j_ofW (cc := cX10_agenda) (maxL := 5) (ret := (some .int)) (by decide) rfl (Nat.le_of_ble_eq_true rfl) ?_
  intro p e s m args below meth c hx hb hr hlocks hml hown hts hK hSX H locs hG ls hl Qf hQf
  have hown : s.vm.findClass RX10 = some m.cls := hown
  have hl : lv_has ls 5 [(0, .ref (rA o a0)), (1, .int (J a1)), (2, .int (J a2))] := hl
  have w_fl_RX10_62 := hts _ (List.mem_cons_of_mem _ fl_RX10_62)
  have w_cl_RX10_368 := hts _ (List.mem_cons_of_mem _ cl_RX10_368)
  unfold wo_X10_agenda at h
  refine lv_iload_n hx hb dX10_agenda_0 rfl (lv_at hl 1 rfl) ?_
  obtain ⟨g1, h⟩ := h
  refine j_conti (va_runS (As := [.int (J a1)]) (rest := []) ⟨hx, hb, hml, hown, hts⟩ (A_X10_isInstant l g1) (va_cwS 1 hts (gj_S ml_RX10_206 i_X10_isInstant n_RX10 k_X10_isInstant) rfl rfl rfl (by decide +kernel) ⟨by exact Nat.le_of_ble_eq_true rfl, by exact Nat.le_of_ble_eq_true rfl⟩) (j_preS hK hSX hG) rfl rfl hl.1 rfl (lv_room (Nat.le_of_ble_eq_true rfl)) dX10_agenda_1 ⟨by exact Nat.le_of_ble_eq_true rfl, by exact Nat.le_of_ble_eq_true rfl⟩) hG (c2 := 0) (s2 := 0) ⟨by exact Nat.le_of_ble_eq_true rfl, by exact Nat.le_of_ble_eq_true rfl⟩ (fun z2 M3 ez2 H locs hG => ?_)
  obtain ⟨ez2, eM3⟩ := ez2
  subst ez2
  rw [eM3] at hG
  refine j_contv (va_runS (As := [.int (J (b2i (pb_X10_isInstant a1)))]) (rest := []) ⟨hx, hb, hml, hown, hts⟩ (Ao_X10_needArgument l h) (va_cwS 1 hts (gj_S ml_RX10_72 i_X10_needArgument n_RX10 k_X10_needArgument) rfl rfl rfl (by decide +kernel) ⟨by exact Nat.le_of_ble_eq_true rfl, by exact Nat.le_of_ble_eq_true rfl⟩) (j_preS hK hSX hG) rfl rfl hl.1 rfl (lv_room (Nat.le_of_ble_eq_true rfl)) dX10_agenda_4 ⟨by exact Nat.le_of_ble_eq_true rfl, by exact Nat.le_of_ble_eq_true rfl⟩) hG (c2 := 0) (s2 := 0) ⟨by exact Nat.le_of_ble_eq_true rfl, by exact Nat.le_of_ble_eq_true rfl⟩ (fun M5 h H locs hG => ?_)
  obtain ⟨h, eM5⟩ := h
  rw [eM5] at hG
  refine lv_aload_n hx hb dX10_agenda_7 rfl (lv_at hl 0 rfl) ?_
  refine lv_iload_n hx hb dX10_agenda_8 rfl (lv_at hl 1 rfl) ?_
  refine j_conti (va_runV (As := [.int (J a1)]) (rest := []) ⟨hx, hb, hml, hown, hts⟩ (A_X10_listBeginnings l ka0 h) (cwV 1 hts (gj_V ml_RX10_365 i_X10_listBeginnings s_X10_listBeginnings n_RX10 k_X10_listBeginnings) rfl rfl rfl (by decide +kernel) ⟨by exact Nat.le_of_ble_eq_true rfl, by exact Nat.le_of_ble_eq_true rfl⟩) (j_preV hK hSX hG (ci := 9) rfl ka0 (by decide)) rfl rfl hl.1 rfl (lv_room (Nat.le_of_ble_eq_true rfl)) dX10_agenda_9 ⟨by exact Nat.le_of_ble_eq_true rfl, by exact Nat.le_of_ble_eq_true rfl⟩) hG (c2 := 0) (s2 := 0) ⟨by exact Nat.le_of_ble_eq_true rfl, by exact Nat.le_of_ble_eq_true rfl⟩ (fun z6 M7 h H locs hG => ?_)
  refine lv_istore_n (lv' := [(3, .int (J z6)), (0, .ref (rA o a0)), (1, .int (J a1)), (2, .int (J a2))]) hx hb dX10_agenda_12 rfl hl (by decide) rfl (fun ls hl => ?_)
  refine lv_iload_n hx hb dX10_agenda_13 rfl (lv_at hl 3 rfl) ?_
  obtain ⟨K18, hK18, h⟩ := h
  have jK18 : ∀ (x17 : Int), K18 x17 → ∀ (H : Heap) (locs : List Loc), GM D cy o M7 s.heap H locs → ∀ ls : Array Slot, lv_has ls 5 [(0, .ref (rA o a0)), (2, .int (J a2)), (3, .int (J z6))] → W p l e rom_X10_agenda s m args below meth c H locs 0 0 Qf (F0 m 27 ls [.int (J x17)]) := by
    intro x17 hcK18 H locs hG ls hl
    have h := hK18 x17 hcK18
    refine j_contv (va_runS (As := [.int (J x17)]) (rest := []) ⟨hx, hb, hml, hown, hts⟩ (Ao_X10_needElement l h) (va_cwS 1 hts (gj_S ml_RX10_184 i_X10_needElement n_RX10 k_X10_needElement) rfl rfl rfl (by decide +kernel) ⟨by exact Nat.le_of_ble_eq_true rfl, by exact Nat.le_of_ble_eq_true rfl⟩) (j_preS hK hSX hG) rfl rfl hl.1 rfl (lv_room (Nat.le_of_ble_eq_true rfl)) dX10_agenda_27 ⟨by exact Nat.le_of_ble_eq_true rfl, by exact Nat.le_of_ble_eq_true rfl⟩) hG (c2 := 0) (s2 := 0) ⟨by exact Nat.le_of_ble_eq_true rfl, by exact Nat.le_of_ble_eq_true rfl⟩ (fun M20 h H locs hG => ?_)
    obtain ⟨h, eM20⟩ := h
    rw [eM20] at hG
    refine lv_aload_n hx hb dX10_agenda_30 rfl (lv_at hl 0 rfl) ?_
    refine j_getr hx hb hts hown hK hG (k := a0) (fun w h => List.mem_cons_of_mem _ (u_X10 w h)) (ci := 9) rfl ka0 8 (k2 := a0 + 607) (by decide) (by show a0 + (607 : Int) = a0 + 607; omega) w_fl_RX10_62 dX10_agenda_31 ?_
    refine lv_iload_n hx hb dX10_agenda_34 rfl (lv_at hl 2 rfl) ?_
    refine j_contv (va_runS (As := [.ref (rA o (a0 + 607)), .int (J z6)]) (rest := []) ⟨hx, hb, hml, hown, hts⟩ (A_X10_sortKeys_b l (kf_10_8 ka0) h) (va_cwS 2 hts (gj_S ml_RX10_219 i_X10_sortKeys n_RX10 k_X10_sortKeys) rfl rfl rfl (by decide +kernel) ⟨by exact Nat.le_of_ble_eq_true rfl, by exact Nat.le_of_ble_eq_true rfl⟩) (j_preS hK hSX hG) rfl rfl hl.1 rfl (lv_room (Nat.le_of_ble_eq_true rfl)) dX10_agenda_35 ⟨by exact Nat.le_of_ble_eq_true rfl, by exact Nat.le_of_ble_eq_true rfl⟩) hG (c2 := 0) (s2 := 0) ⟨by exact Nat.le_of_ble_eq_true rfl, by exact Nat.le_of_ble_eq_true rfl⟩ (fun M22 h H locs hG => ?_)
    refine lv_aload_n hx hb dX10_agenda_38 rfl (lv_at hl 0 rfl) ?_
    refine j_getr hx hb hts hown hK hG (k := a0) (fun w h => List.mem_cons_of_mem _ (u_X10 w h)) (ci := 9) rfl ka0 8 (k2 := a0 + 607) (by decide) (by show a0 + (607 : Int) = a0 + 607; omega) w_fl_RX10_62 dX10_agenda_39 ?_
    refine lv_iload_n hx hb dX10_agenda_42 rfl (lv_at hl 1 rfl) ?_
    obtain ⟨g23, h⟩ := h
    refine j_lald hx hb hK hG (n := 400) (kf_10_8 ka0) (by decide) g23 dX10_agenda_43 ?_
    refine lv_ldc2 (v := JL 400) hx hb hown (show (Cond.constantLong RX10 368 (JL 400)).before args s = true from w_cl_RX10_368) dX10_agenda_44 ?_
    obtain ⟨g24, h⟩ := h
    refine j_lrem hx hb dX10_agenda_47 g24 (by decide) ?_
    refine j_l2i hx hb dX10_agenda_48 ?_
    refine j_topi (fun x25 ex25 => ?_)
    have h := h x25 ex25
    refine lv_istore (lv' := [(4, .int (J x25)), (0, .ref (rA o a0)), (2, .int (J a2)), (3, .int (J z6))]) hx hb dX10_agenda_49 hl (by decide) rfl (fun ls hl => ?_)
    refine lv_bipush (v := J 100) hx hb dX10_agenda_51 (by decide) ?_
    refine lv_iload hx hb dX10_agenda_53 (lv_at hl 0 rfl) ?_
    refine lv_bipush (v := J 40) hx hb dX10_agenda_55 (by decide) ?_
    obtain ⟨g26, h⟩ := h
    refine j_idiv hx hb dX10_agenda_57 g26 (by decide) ?_
    refine j_imul hx hb dX10_agenda_58 ?_
    refine lv_iload hx hb dX10_agenda_59 (lv_at hl 0 rfl) ?_
    refine lv_bipush (v := J 40) hx hb dX10_agenda_61 (by decide) ?_
    refine j_irem hx hb dX10_agenda_63 g26 (by decide) ?_
    refine j_iadd hx hb dX10_agenda_64 ?_
    rw [hQf]
    exact j_ireti hx hb hr hlocks hG h (by decide) dX10_agenda_65
  obtain ⟨K31, hK31, h⟩ := h
  have jK31 : K31 → ∀ (H : Heap) (locs : List Loc), GM D cy o M7 s.heap H locs → ∀ ls : Array Slot, lv_has ls 5 [(0, .ref (rA o a0)), (2, .int (J a2)), (3, .int (J z6))] → W p l e rom_X10_agenda s m args below meth c H locs 0 0 Qf (F0 m 26 ls []) := by
    intro hcK31 H locs hG ls hl
    have h := hK31 hcK31
    refine lv_iconst (v := J 0) hx hb dX10_agenda_26 (by decide) ?_
    exact jK18 0 h H locs hG ls (lv_sub hl [0, 1, 2] rfl)
  obtain ⟨g33, h⟩ := h
  refine j_if_lt (tgt := 26) hx hb dX10_agenda_14 (by decide) g33 (fun c32 => ?_) (fun c32 => ?_)
  · have h := h.1 c32
    exact jK31 h H locs hG ls (lv_sub hl [1, 3, 0] rfl)
  · have h := h.2 c32
    refine lv_iload_n hx hb dX10_agenda_17 rfl (lv_at hl 3 rfl) ?_
    refine lv_iload_n hx hb dX10_agenda_18 rfl (lv_at hl 0 rfl) ?_
    obtain ⟨g35, h⟩ := h
    refine j_icmp_ge (tgt := 26) hx hb dX10_agenda_19 (by decide) g33 g35 (fun c34 => ?_) (fun c34 => ?_)
    · have h := h.1 c34
      exact jK31 h H locs hG ls (lv_sub hl [1, 3, 0] rfl)
    · have h := h.2 c34
      refine lv_iconst (v := J 1) hx hb dX10_agenda_22 (by decide) ?_
      refine lv_goto (tgt := 27) hx hb dX10_agenda_23 (by decide) ?_
      exact jK18 1 h H locs hG ls (lv_sub hl [1, 3, 0] rfl)
abbrev rm_X10_agenda : Room := { frames := 7, cells := 1, slots := 6, locals := 149 }
set_option maxRecDepth 100000 in
set_option maxHeartbeats 4000000 in
theorem A_X10_agenda (l : Launch) (hst : l.stackTraces = false) {D : va_G} {cy : Nat → ClassId} {o : Nat} {sK sV : Nat → Nat} {M : jT} {a0 : Int} {a1 : Int} {a2 : Int} (ka0 : kd a0 = 10) {Q : Int → jT → Prop} {X : Nat → jT → Prop} (h : wp_X10_agenda M a0 a1 a2 Q X) : CxI l yX10_agenda (wj yX10_agenda cX10_agenda 5 (some .int)) rm_X10_agenda D cy o sK sV M [.ref (rA o a0), .int (J a1), .int (J a2)] Q X := by
  refine j_ofWx (cc := cX10_agenda) (maxL := 5) (ret := (some .int)) (by decide) rfl (Nat.le_of_ble_eq_true rfl) ?_
  intro p e s m args below meth c hx hb hr hlocks hout hml hown hts hK hSX H locs hsz hG ls hl Qf hQf
  have hown : s.vm.findClass RX10 = some m.cls := hown
  have hl : lv_has ls 5 [(0, .ref (rA o a0)), (1, .int (J a1)), (2, .int (J a2))] := hl
  have w_fl_RX10_62 := hts _ (List.mem_cons_of_mem _ fl_RX10_62)
  have w_cl_RX10_368 := hts _ (List.mem_cons_of_mem _ cl_RX10_368)
  unfold wp_X10_agenda at h
  refine lv_iload_n hx hb dX10_agenda_0 rfl (lv_at hl 1 rfl) ?_
  obtain ⟨g1, h⟩ := h
  refine j_conti (va_runS (As := [.int (J a1)]) (rest := []) ⟨hx, hb, hml, hown, hts⟩ (A_X10_isInstant l g1) (va_cwS 1 hts (gj_S ml_RX10_206 i_X10_isInstant n_RX10 k_X10_isInstant) rfl rfl rfl (by decide +kernel) ⟨by exact Nat.le_of_ble_eq_true rfl, by exact Nat.le_of_ble_eq_true rfl⟩) (j_preS hK hSX hG) rfl rfl hl.1 rfl (lv_room (Nat.le_of_ble_eq_true rfl)) dX10_agenda_1 ⟨by exact Nat.le_of_ble_eq_true rfl, by exact Nat.le_of_ble_eq_true rfl⟩) hG (c2 := 0) (s2 := 0) ⟨by exact Nat.le_of_ble_eq_true rfl, by exact Nat.le_of_ble_eq_true rfl⟩ (fun z2 M3 ez2 H locs hG => ?_)
  obtain ⟨ez2, eM3⟩ := ez2
  subst ez2
  rw [eM3] at hG
  rcases h with h | h
  · refine j_contv (va_runS (As := [.int (J (b2i (pb_X10_isInstant a1)))]) (rest := []) ⟨hx, hb, hml, hown, hts⟩ (Ao_X10_needArgument l h) (va_cwS 1 hts (gj_S ml_RX10_72 i_X10_needArgument n_RX10 k_X10_needArgument) rfl rfl rfl (by decide +kernel) ⟨by exact Nat.le_of_ble_eq_true rfl, by exact Nat.le_of_ble_eq_true rfl⟩) (j_preS hK hSX hG) rfl rfl hl.1 rfl (lv_room (Nat.le_of_ble_eq_true rfl)) dX10_agenda_4 ⟨by exact Nat.le_of_ble_eq_true rfl, by exact Nat.le_of_ble_eq_true rfl⟩) hG (c2 := 0) (s2 := 0) ⟨by exact Nat.le_of_ble_eq_true rfl, by exact Nat.le_of_ble_eq_true rfl⟩ (fun M5 h H locs hG => ?_)
    obtain ⟨h, eM5⟩ := h
    rw [eM5] at hG
    refine lv_aload_n hx hb dX10_agenda_7 rfl (lv_at hl 0 rfl) ?_
    refine lv_iload_n hx hb dX10_agenda_8 rfl (lv_at hl 1 rfl) ?_
    refine j_conti (va_runV (As := [.int (J a1)]) (rest := []) ⟨hx, hb, hml, hown, hts⟩ (A_X10_listBeginnings l ka0 h) (cwV 1 hts (gj_V ml_RX10_365 i_X10_listBeginnings s_X10_listBeginnings n_RX10 k_X10_listBeginnings) rfl rfl rfl (by decide +kernel) ⟨by exact Nat.le_of_ble_eq_true rfl, by exact Nat.le_of_ble_eq_true rfl⟩) (j_preV hK hSX hG (ci := 9) rfl ka0 (by decide)) rfl rfl hl.1 rfl (lv_room (Nat.le_of_ble_eq_true rfl)) dX10_agenda_9 ⟨by exact Nat.le_of_ble_eq_true rfl, by exact Nat.le_of_ble_eq_true rfl⟩) hG (c2 := 0) (s2 := 0) ⟨by exact Nat.le_of_ble_eq_true rfl, by exact Nat.le_of_ble_eq_true rfl⟩ (fun z6 M7 h H locs hG => ?_)
    refine lv_istore_n (lv' := [(3, .int (J z6)), (0, .ref (rA o a0)), (1, .int (J a1)), (2, .int (J a2))]) hx hb dX10_agenda_12 rfl hl (by decide) rfl (fun ls hl => ?_)
    refine lv_iload_n hx hb dX10_agenda_13 rfl (lv_at hl 3 rfl) ?_
    obtain ⟨K18, hK18, h⟩ := h
    have jK18 : ∀ (x17 : Int), K18 x17 → ∀ (H : Heap) (locs : List Loc), GM D cy o M7 s.heap H locs → ∀ ls : Array Slot, lv_has ls 5 [(0, .ref (rA o a0)), (2, .int (J a2)), (3, .int (J z6))] → W p l e rm_X10_agenda s m args below meth c H locs 0 0 Qf (F0 m 27 ls [.int (J x17)]) := by
      intro x17 hcK18 H locs hG ls hl
      have h := hK18 x17 hcK18
      rcases h with h | h
      · refine j_contv (va_runS (As := [.int (J x17)]) (rest := []) ⟨hx, hb, hml, hown, hts⟩ (Ao_X10_needElement l h) (va_cwS 1 hts (gj_S ml_RX10_184 i_X10_needElement n_RX10 k_X10_needElement) rfl rfl rfl (by decide +kernel) ⟨by exact Nat.le_of_ble_eq_true rfl, by exact Nat.le_of_ble_eq_true rfl⟩) (j_preS hK hSX hG) rfl rfl hl.1 rfl (lv_room (Nat.le_of_ble_eq_true rfl)) dX10_agenda_27 ⟨by exact Nat.le_of_ble_eq_true rfl, by exact Nat.le_of_ble_eq_true rfl⟩) hG (c2 := 0) (s2 := 0) ⟨by exact Nat.le_of_ble_eq_true rfl, by exact Nat.le_of_ble_eq_true rfl⟩ (fun M20 h H locs hG => ?_)
        obtain ⟨h, eM20⟩ := h
        rw [eM20] at hG
        refine lv_aload_n hx hb dX10_agenda_30 rfl (lv_at hl 0 rfl) ?_
        refine j_getr hx hb hts hown hK hG (k := a0) (fun w h => List.mem_cons_of_mem _ (u_X10 w h)) (ci := 9) rfl ka0 8 (k2 := a0 + 607) (by decide) (by show a0 + (607 : Int) = a0 + 607; omega) w_fl_RX10_62 dX10_agenda_31 ?_
        refine lv_iload_n hx hb dX10_agenda_34 rfl (lv_at hl 2 rfl) ?_
        refine j_contv (va_runS (As := [.ref (rA o (a0 + 607)), .int (J z6)]) (rest := []) ⟨hx, hb, hml, hown, hts⟩ (A_X10_sortKeys_b l (kf_10_8 ka0) h) (va_cwS 2 hts (gj_S ml_RX10_219 i_X10_sortKeys n_RX10 k_X10_sortKeys) rfl rfl rfl (by decide +kernel) ⟨by exact Nat.le_of_ble_eq_true rfl, by exact Nat.le_of_ble_eq_true rfl⟩) (j_preS hK hSX hG) rfl rfl hl.1 rfl (lv_room (Nat.le_of_ble_eq_true rfl)) dX10_agenda_35 ⟨by exact Nat.le_of_ble_eq_true rfl, by exact Nat.le_of_ble_eq_true rfl⟩) hG (c2 := 0) (s2 := 0) ⟨by exact Nat.le_of_ble_eq_true rfl, by exact Nat.le_of_ble_eq_true rfl⟩ (fun M22 h H locs hG => ?_)
        refine lv_aload_n hx hb dX10_agenda_38 rfl (lv_at hl 0 rfl) ?_
        refine j_getr hx hb hts hown hK hG (k := a0) (fun w h => List.mem_cons_of_mem _ (u_X10 w h)) (ci := 9) rfl ka0 8 (k2 := a0 + 607) (by decide) (by show a0 + (607 : Int) = a0 + 607; omega) w_fl_RX10_62 dX10_agenda_39 ?_
        refine lv_iload_n hx hb dX10_agenda_42 rfl (lv_at hl 1 rfl) ?_
        obtain ⟨g23, h⟩ := h
        refine j_lald hx hb hK hG (n := 400) (kf_10_8 ka0) (by decide) g23 dX10_agenda_43 ?_
        refine lv_ldc2 (v := JL 400) hx hb hown (show (Cond.constantLong RX10 368 (JL 400)).before args s = true from w_cl_RX10_368) dX10_agenda_44 ?_
        obtain ⟨g24, h⟩ := h
        refine j_lrem hx hb dX10_agenda_47 g24 (by decide) ?_
        refine j_l2i hx hb dX10_agenda_48 ?_
        refine j_topi (fun x25 ex25 => ?_)
        have h := h x25 ex25
        refine lv_istore (lv' := [(4, .int (J x25)), (0, .ref (rA o a0)), (2, .int (J a2)), (3, .int (J z6))]) hx hb dX10_agenda_49 hl (by decide) rfl (fun ls hl => ?_)
        refine lv_bipush (v := J 100) hx hb dX10_agenda_51 (by decide) ?_
        refine lv_iload hx hb dX10_agenda_53 (lv_at hl 0 rfl) ?_
        refine lv_bipush (v := J 40) hx hb dX10_agenda_55 (by decide) ?_
        obtain ⟨g26, h⟩ := h
        refine j_idiv hx hb dX10_agenda_57 g26 (by decide) ?_
        refine j_imul hx hb dX10_agenda_58 ?_
        refine lv_iload hx hb dX10_agenda_59 (lv_at hl 0 rfl) ?_
        refine lv_bipush (v := J 40) hx hb dX10_agenda_61 (by decide) ?_
        refine j_irem hx hb dX10_agenda_63 g26 (by decide) ?_
        refine j_iadd hx hb dX10_agenda_64 ?_
        rw [hQf]
        exact vx_ret (j_ireti hx hb hr hlocks hG h (by decide) dX10_agenda_65)
      · refine j_contxv (vx_runS (As := [.int (J x17)]) (rest := []) ⟨hx, hb, hml, hown, hts⟩ (A_X10_needElement l hst h) (va_cwS 1 hts (gj_S ml_RX10_184 i_X10_needElement n_RX10 k_X10_needElement) rfl rfl rfl (by decide +kernel) ⟨by exact Nat.le_of_ble_eq_true rfl, by exact Nat.le_of_ble_eq_true rfl⟩) (j_preS hK hSX hG) rfl rfl hl.1 rfl (lv_room (Nat.le_of_ble_eq_true rfl)) dX10_agenda_27 ⟨by exact Nat.le_of_ble_eq_true rfl, by exact Nat.le_of_ble_eq_true rfl⟩) hG (c2 := 1) (s2 := 6) ⟨by exact Nat.le_of_ble_eq_true rfl, by exact Nat.le_of_ble_eq_true rfl⟩ (fun x M h ce q H locs hG h1 h2 h3 => ?_) (fun M h H locs hG => h.elim)
        rw [hQf]
        exact j_xout hlocks hout hG h h1 h2 h3 (by decide)
    obtain ⟨K31, hK31, h⟩ := h
    have jK31 : K31 → ∀ (H : Heap) (locs : List Loc), GM D cy o M7 s.heap H locs → ∀ ls : Array Slot, lv_has ls 5 [(0, .ref (rA o a0)), (2, .int (J a2)), (3, .int (J z6))] → W p l e rm_X10_agenda s m args below meth c H locs 0 0 Qf (F0 m 26 ls []) := by
      intro hcK31 H locs hG ls hl
      have h := hK31 hcK31
      refine lv_iconst (v := J 0) hx hb dX10_agenda_26 (by decide) ?_
      exact jK18 0 h H locs hG ls (lv_sub hl [0, 1, 2] rfl)
    obtain ⟨g33, h⟩ := h
    refine j_if_lt (tgt := 26) hx hb dX10_agenda_14 (by decide) g33 (fun c32 => ?_) (fun c32 => ?_)
    · have h := h.1 c32
      exact jK31 h H locs hG ls (lv_sub hl [1, 3, 0] rfl)
    · have h := h.2 c32
      refine lv_iload_n hx hb dX10_agenda_17 rfl (lv_at hl 3 rfl) ?_
      refine lv_iload_n hx hb dX10_agenda_18 rfl (lv_at hl 0 rfl) ?_
      obtain ⟨g35, h⟩ := h
      refine j_icmp_ge (tgt := 26) hx hb dX10_agenda_19 (by decide) g33 g35 (fun c34 => ?_) (fun c34 => ?_)
      · have h := h.1 c34
        exact jK31 h H locs hG ls (lv_sub hl [1, 3, 0] rfl)
      · have h := h.2 c34
        refine lv_iconst (v := J 1) hx hb dX10_agenda_22 (by decide) ?_
        refine lv_goto (tgt := 27) hx hb dX10_agenda_23 (by decide) ?_
        exact jK18 1 h H locs hG ls (lv_sub hl [1, 3, 0] rfl)
  · refine j_contxv (vx_runS (As := [.int (J (b2i (pb_X10_isInstant a1)))]) (rest := []) ⟨hx, hb, hml, hown, hts⟩ (A_X10_needArgument l hst h) (va_cwS 1 hts (gj_S ml_RX10_72 i_X10_needArgument n_RX10 k_X10_needArgument) rfl rfl rfl (by decide +kernel) ⟨by exact Nat.le_of_ble_eq_true rfl, by exact Nat.le_of_ble_eq_true rfl⟩) (j_preS hK hSX hG) rfl rfl hl.1 rfl (lv_room (Nat.le_of_ble_eq_true rfl)) dX10_agenda_4 ⟨by exact Nat.le_of_ble_eq_true rfl, by exact Nat.le_of_ble_eq_true rfl⟩) hG (c2 := 1) (s2 := 6) ⟨by exact Nat.le_of_ble_eq_true rfl, by exact Nat.le_of_ble_eq_true rfl⟩ (fun x M h ce q H locs hG h1 h2 h3 => ?_) (fun M h H locs hG => h.elim)
    rw [hQf]
    exact j_xout hlocks hout hG h h1 h2 h3 (by decide)

abbrev rom_X10_free : Room := { frames := 6, cells := 0, slots := 0, locals := 149 }
set_option maxRecDepth 100000 in
set_option maxHeartbeats 4000000 in
theorem Ao_X10_free (l : Launch) {D : va_G} {cy : Nat → ClassId} {o : Nat} {sK sV : Nat → Nat} {M : jT} {a0 : Int} {a1 : Int} {a2 : Int} {a3 : Int} (ka0 : kd a0 = 10) {Q : Int → jT → Prop} (h : wo_X10_free M a0 a1 a2 a3 Q) : CoI l yX10_free (wj yX10_free cX10_free 9 (some .int)) rom_X10_free D cy o sK sV M [.ref (rA o a0), .int (J a1), .int (J a2), .int (J a3)] Q := by
  refine j_ofW (cc := cX10_free) (maxL := 9) (ret := (some .int)) (by decide) rfl (Nat.le_of_ble_eq_true rfl) ?_
  intro p e s m args below meth c hx hb hr hlocks hml hown hts hK hSX H locs hG ls hl Qf hQf
  have hown : s.vm.findClass RX10 = some m.cls := hown
  have hl : lv_has ls 9 [(0, .ref (rA o a0)), (1, .int (J a1)), (2, .int (J a2)), (3, .int (J a3))] := hl
  have w_fl_RX10_62 := hts _ (List.mem_cons_of_mem _ fl_RX10_62)
  have w_cl_RX10_368 := hts _ (List.mem_cons_of_mem _ cl_RX10_368)
  have w_fl_RX10_12 := hts _ (List.mem_cons_of_mem _ fl_RX10_12)
  have w_fl_RX10_269 := hts _ (List.mem_cons_of_mem _ fl_RX10_269)
  have w_fl_RX10_320 := hts _ (List.mem_cons_of_mem _ fl_RX10_320)
  unfold wo_X10_free at h
  refine lv_iload_n hx hb dX10_free_0 rfl (lv_at hl 1 rfl) ?_
  obtain ⟨g1, h⟩ := h
  refine j_conti (va_runS (As := [.int (J a1)]) (rest := []) ⟨hx, hb, hml, hown, hts⟩ (A_X10_isInstant l g1) (va_cwS 1 hts (gj_S ml_RX10_206 i_X10_isInstant n_RX10 k_X10_isInstant) rfl rfl rfl (by decide +kernel) ⟨by exact Nat.le_of_ble_eq_true rfl, by exact Nat.le_of_ble_eq_true rfl⟩) (j_preS hK hSX hG) rfl rfl hl.1 rfl (lv_room (Nat.le_of_ble_eq_true rfl)) dX10_free_1 ⟨by exact Nat.le_of_ble_eq_true rfl, by exact Nat.le_of_ble_eq_true rfl⟩) hG (c2 := 0) (s2 := 0) ⟨by exact Nat.le_of_ble_eq_true rfl, by exact Nat.le_of_ble_eq_true rfl⟩ (fun z2 M3 ez2 H locs hG => ?_)
  obtain ⟨ez2, eM3⟩ := ez2
  subst ez2
  rw [eM3] at hG
  obtain ⟨K22, hK22, h⟩ := h
  have jK22 : ∀ (x21 : Int), K22 x21 → ∀ (H : Heap) (locs : List Loc), GM D cy o M s.heap H locs → ∀ ls : Array Slot, lv_has ls 9 [(0, .ref (rA o a0)), (1, .int (J a1)), (2, .int (J a2)), (3, .int (J a3))] → W p l e rom_X10_free s m args below meth c H locs 0 0 Qf (F0 m 31 ls [.int (J x21)]) := by
    intro x21 hcK22 H locs hG ls hl
    have h := hK22 x21 hcK22
    refine j_contv (va_runS (As := [.int (J x21)]) (rest := []) ⟨hx, hb, hml, hown, hts⟩ (Ao_X10_needArgument l h) (va_cwS 1 hts (gj_S ml_RX10_72 i_X10_needArgument n_RX10 k_X10_needArgument) rfl rfl rfl (by decide +kernel) ⟨by exact Nat.le_of_ble_eq_true rfl, by exact Nat.le_of_ble_eq_true rfl⟩) (j_preS hK hSX hG) rfl rfl hl.1 rfl (lv_room (Nat.le_of_ble_eq_true rfl)) dX10_free_31 ⟨by exact Nat.le_of_ble_eq_true rfl, by exact Nat.le_of_ble_eq_true rfl⟩) hG (c2 := 0) (s2 := 0) ⟨by exact Nat.le_of_ble_eq_true rfl, by exact Nat.le_of_ble_eq_true rfl⟩ (fun M24 h H locs hG => ?_)
    obtain ⟨h, eM24⟩ := h
    rw [eM24] at hG
    refine lv_aload_n hx hb dX10_free_34 rfl (lv_at hl 0 rfl) ?_
    refine lv_iload_n hx hb dX10_free_35 rfl (lv_at hl 1 rfl) ?_
    refine lv_sipush (v := J 1440) hx hb dX10_free_36 (by decide) ?_
    refine j_isub hx hb dX10_free_39 ?_
    refine j_conti (va_runV (As := [.int (J (a1 - 1440))]) (rest := []) ⟨hx, hb, hml, hown, hts⟩ (A_X10_listBeginnings l ka0 h) (cwV 1 hts (gj_V ml_RX10_365 i_X10_listBeginnings s_X10_listBeginnings n_RX10 k_X10_listBeginnings) rfl rfl rfl (by decide +kernel) ⟨by exact Nat.le_of_ble_eq_true rfl, by exact Nat.le_of_ble_eq_true rfl⟩) (j_preV hK hSX hG (ci := 9) rfl ka0 (by decide)) rfl rfl hl.1 rfl (lv_room (Nat.le_of_ble_eq_true rfl)) dX10_free_40 ⟨by exact Nat.le_of_ble_eq_true rfl, by exact Nat.le_of_ble_eq_true rfl⟩) hG (c2 := 0) (s2 := 0) ⟨by exact Nat.le_of_ble_eq_true rfl, by exact Nat.le_of_ble_eq_true rfl⟩ (fun z25 M26 h H locs hG => ?_)
    refine lv_istore (lv' := [(4, .int (J z25)), (0, .ref (rA o a0)), (1, .int (J a1)), (2, .int (J a2)), (3, .int (J a3))]) hx hb dX10_free_43 hl (by decide) rfl (fun ls hl => ?_)
    refine lv_aload_n hx hb dX10_free_45 rfl (lv_at hl 1 rfl) ?_
    refine j_getr hx hb hts hown hK hG (k := a0) (fun w h => List.mem_cons_of_mem _ (u_X10 w h)) (ci := 9) rfl ka0 8 (k2 := a0 + 607) (by decide) (by show a0 + (607 : Int) = a0 + 607; omega) w_fl_RX10_62 dX10_free_46 ?_
    refine lv_iload hx hb dX10_free_49 (lv_at hl 0 rfl) ?_
    refine j_contv (va_runS (As := [.ref (rA o (a0 + 607)), .int (J z25)]) (rest := []) ⟨hx, hb, hml, hown, hts⟩ (A_X10_sortKeys_b l (kf_10_8 ka0) h) (va_cwS 2 hts (gj_S ml_RX10_219 i_X10_sortKeys n_RX10 k_X10_sortKeys) rfl rfl rfl (by decide +kernel) ⟨by exact Nat.le_of_ble_eq_true rfl, by exact Nat.le_of_ble_eq_true rfl⟩) (j_preS hK hSX hG) rfl rfl hl.1 rfl (lv_room (Nat.le_of_ble_eq_true rfl)) dX10_free_51 ⟨by exact Nat.le_of_ble_eq_true rfl, by exact Nat.le_of_ble_eq_true rfl⟩) hG (c2 := 0) (s2 := 0) ⟨by exact Nat.le_of_ble_eq_true rfl, by exact Nat.le_of_ble_eq_true rfl⟩ (fun M28 h H locs hG => ?_)
    refine lv_iload_n hx hb dX10_free_54 rfl (lv_at hl 2 rfl) ?_
    refine lv_istore (lv' := [(5, .int (J a1)), (4, .int (J z25)), (0, .ref (rA o a0)), (1, .int (J a1)), (2, .int (J a2)), (3, .int (J a3))]) hx hb dX10_free_55 hl (by decide) rfl (fun ls hl => ?_)
    refine lv_iconst (v := J 0) hx hb dX10_free_57 (by decide) ?_
    refine lv_istore (lv' := [(6, .int (J 0)), (5, .int (J a1)), (4, .int (J z25)), (0, .ref (rA o a0)), (1, .int (J a1)), (2, .int (J a2)), (3, .int (J a3))]) hx hb dX10_free_58 hl (by decide) rfl (fun ls hl => ?_)
    obtain ⟨I31, ⟨n32s, iI31⟩, qI31⟩ := h
    have lI31 : ∀ (n32 : Nat) (x29 : Int) (x30 : Int), I31 n32 x29 x30 → ∀ (H : Heap) (locs : List Loc), GM D cy o M28 s.heap H locs → ∀ ls : Array Slot, lv_has ls 9 [(0, .ref (rA o a0)), (2, .int (J a2)), (3, .int (J a3)), (4, .int (J z25)), (5, .int (J x29)), (6, .int (J x30))] → W p l e rom_X10_free s m args below meth c H locs 0 0 Qf (F0 m 60 ls []) := by
      intro n32
      induction n32 using Nat.strongRecOn with
      | ind n32 rI31 =>
        intro x29 x30 iI31 H locs hG ls hl
        have h := qI31 n32 x29 x30 iI31
        refine lv_iload hx hb dX10_free_60 (lv_at hl 5 rfl) ?_
        refine lv_iload hx hb dX10_free_62 (lv_at hl 3 rfl) ?_
        obtain ⟨g34, h⟩ := h
        obtain ⟨g35, h⟩ := h
        refine j_icmp_ge (tgt := 140) hx hb dX10_free_64 (by decide) g34 g35 (fun c33 => ?_) (fun c33 => ?_)
        · have h := h.1 c33
          refine lv_iload hx hb dX10_free_140 (lv_at hl 4 rfl) ?_
          refine lv_iload_n hx hb dX10_free_142 rfl (lv_at hl 2 rfl) ?_
          refine j_iadd hx hb dX10_free_143 ?_
          refine lv_iload_n hx hb dX10_free_144 rfl (lv_at hl 1 rfl) ?_
          obtain ⟨hg, h⟩ := h
          have jK40 : ∀ x39 : Int, x39 = b2i (x29 + a3 ≤ a2) → ∀ (H : Heap) (locs : List Loc), GM D cy o M28 s.heap H locs → ∀ ls : Array Slot, lv_has ls 9 [(5, .int (J x29))] → W p l e rom_X10_free s m args below meth c H locs 0 0 Qf (F0 m 153 ls [.int (J x39)]) := by
            intro x39 ex39 H locs hG ls hl
            subst ex39
            refine j_contv (va_runS (As := [.int (J (b2i (x29 + a3 ≤ a2)))]) (rest := []) ⟨hx, hb, hml, hown, hts⟩ (Ao_X10_needElement l h) (va_cwS 1 hts (gj_S ml_RX10_184 i_X10_needElement n_RX10 k_X10_needElement) rfl rfl rfl (by decide +kernel) ⟨by exact Nat.le_of_ble_eq_true rfl, by exact Nat.le_of_ble_eq_true rfl⟩) (j_preS hK hSX hG) rfl rfl hl.1 rfl (lv_room (Nat.le_of_ble_eq_true rfl)) dX10_free_153 ⟨by exact Nat.le_of_ble_eq_true rfl, by exact Nat.le_of_ble_eq_true rfl⟩) hG (c2 := 0) (s2 := 0) ⟨by exact Nat.le_of_ble_eq_true rfl, by exact Nat.le_of_ble_eq_true rfl⟩ (fun M45 h H locs hG => ?_)
            obtain ⟨h, eM45⟩ := h
            rw [eM45] at hG
            refine lv_iload hx hb dX10_free_156 (lv_at hl 0 rfl) ?_
            rw [hQf]
            exact j_ireti hx hb hr hlocks hG h (by decide) dX10_free_158
          have h := hg
          obtain ⟨g42, h⟩ := h
          obtain ⟨g43, h⟩ := h
          refine j_icmp_gt (tgt := 152) hx hb dX10_free_145 (by decide) g42 g43 (fun c41 => ?_) (fun c41 => ?_)
          · have h := h.1 c41
            refine lv_iconst (v := J 0) hx hb dX10_free_152 (by decide) ?_
            exact jK40 0 (b2i_iff0 (iff_of_false (show ¬ (x29 + a3 ≤ a2) from by omega) id)) H locs hG ls (lv_sub hl [4] rfl)
          · have h := h.2 c41
            refine lv_iconst (v := J 1) hx hb dX10_free_148 (by decide) ?_
            refine lv_goto (tgt := 153) hx hb dX10_free_149 (by decide) ?_
            exact jK40 1 (b2i_iff1 (iff_of_true c41 trivial)) H locs hG ls (lv_sub hl [4] rfl)
        · have h := h.2 c33
          refine lv_aload_n hx hb dX10_free_67 rfl (lv_at hl 0 rfl) ?_
          refine j_getr hx hb hts hown hK hG (k := a0) (fun w h => List.mem_cons_of_mem _ (u_X10 w h)) (ci := 9) rfl ka0 8 (k2 := a0 + 607) (by decide) (by show a0 + (607 : Int) = a0 + 607; omega) w_fl_RX10_62 dX10_free_68 ?_
          refine lv_iload hx hb dX10_free_71 (lv_at hl 5 rfl) ?_
          obtain ⟨g46, h⟩ := h
          refine j_lald hx hb hK hG (n := 400) (kf_10_8 ka0) (by decide) g46 dX10_free_73 ?_
          refine lv_ldc2 (v := JL 400) hx hb hown (show (Cond.constantLong RX10 368 (JL 400)).before args s = true from w_cl_RX10_368) dX10_free_74 ?_
          obtain ⟨g47, h⟩ := h
          refine j_ldiv hx hb dX10_free_77 g47 (by decide) ?_
          refine j_l2i hx hb dX10_free_78 ?_
          refine lv_sipush (v := J (-2000)) hx hb dX10_free_79 (by decide) ?_
          refine j_iadd hx hb dX10_free_82 ?_
          refine j_topi (fun x48 ex48 => ?_)
          have h := h x48 ex48
          refine lv_istore (lv' := [(7, .int (J x48)), (0, .ref (rA o a0)), (2, .int (J a2)), (3, .int (J a3)), (4, .int (J z25)), (5, .int (J x29)), (6, .int (J x30))]) hx hb dX10_free_83 hl (by decide) rfl (fun ls hl => ?_)
          refine lv_aload_n hx hb dX10_free_85 rfl (lv_at hl 1 rfl) ?_
          refine j_getr hx hb hts hown hK hG (k := a0) (fun w h => List.mem_cons_of_mem _ (u_X10 w h)) (ci := 9) rfl ka0 8 (k2 := a0 + 607) (by decide) (by show a0 + (607 : Int) = a0 + 607; omega) w_fl_RX10_62 dX10_free_86 ?_
          refine lv_iload hx hb dX10_free_89 (lv_at hl 6 rfl) ?_
          refine j_lald hx hb hK hG (n := 400) (kf_10_8 ka0) (by decide) g46 dX10_free_91 ?_
          refine lv_ldc2 (v := JL 400) hx hb hown (show (Cond.constantLong RX10 368 (JL 400)).before args s = true from w_cl_RX10_368) dX10_free_92 ?_
          refine j_lrem hx hb dX10_free_95 g47 (by decide) ?_
          refine j_l2i hx hb dX10_free_96 ?_
          refine lv_bipush (v := J 40) hx hb dX10_free_97 (by decide) ?_
          obtain ⟨g49, h⟩ := h
          refine j_idiv hx hb dX10_free_99 g49 (by decide) ?_
          refine j_topi (fun x50 ex50 => ?_)
          have h := h x50 ex50
          refine lv_istore (lv' := [(8, .int (J x50)), (7, .int (J x48)), (0, .ref (rA o a0)), (2, .int (J a2)), (3, .int (J a3)), (4, .int (J z25)), (5, .int (J x29)), (6, .int (J x30))]) hx hb dX10_free_100 hl (by decide) rfl (fun ls hl => ?_)
          refine lv_iload hx hb dX10_free_102 (lv_at hl 1 rfl) ?_
          refine lv_iload hx hb dX10_free_104 (lv_at hl 6 rfl) ?_
          refine lv_iload_n hx hb dX10_free_106 rfl (lv_at hl 4 rfl) ?_
          refine j_iadd hx hb dX10_free_107 ?_
          obtain ⟨K60, hK60, h⟩ := h
          have jK60 : ∀ (x59 : Int), K60 x59 → ∀ (H : Heap) (locs : List Loc), GM D cy o M28 s.heap H locs → ∀ ls : Array Slot, lv_has ls 9 [(0, .ref (rA o a0)), (2, .int (J a2)), (3, .int (J a3)), (4, .int (J z25)), (5, .int (J x59)), (6, .int (J x30))] → W p l e rom_X10_free s m args below meth c H locs 0 0 Qf (F0 m 134 ls []) := by
            intro x59 hcK60 H locs hG ls hl
            have h := hK60 x59 hcK60
            refine j_iinc hx hb dX10_free_134 hl (k := 5) rfl (by decide) (fun x61 ex61 ls hl => ?_)
            have h := h x61 ex61
            have hl : lv_has ls 9 [(6, .int (J x61)), (0, .ref (rA o a0)), (2, .int (J a2)), (3, .int (J a3)), (4, .int (J z25)), (5, .int (J x59))] := hl
            refine lv_goto (tgt := 60) hx hb dX10_free_137 (by decide) ?_
            obtain ⟨n62, ln62, iI31⟩ := h
            exact rI31 n62 ln62 x59 x61 iI31 H locs hG ls (lv_sub hl [1, 2, 3, 4, 5, 0] rfl)
          obtain ⟨g64, h⟩ := h
          obtain ⟨g65, h⟩ := h
          refine j_icmp_ge (tgt := 134) hx hb dX10_free_108 (by decide) g64 g65 (fun c63 => ?_) (fun c63 => ?_)
          · have h := h.1 c63
            exact jK60 x29 h H locs hG ls (lv_sub hl [2, 3, 4, 5, 6, 7] rfl)
          · have h := h.2 c63
            refine lv_iload hx hb dX10_free_111 (lv_at hl 6 rfl) ?_
            refine lv_iload hx hb dX10_free_113 (lv_at hl 1 rfl) ?_
            refine lv_aload_n hx hb dX10_free_115 rfl (lv_at hl 2 rfl) ?_
            refine j_getr hx hb hts hown hK hG (k := a0) (fun w h => List.mem_cons_of_mem _ (u_X10 w h)) (ci := 9) rfl ka0 0 (k2 := a0 + 1) (by decide) (by show a0 + (1 : Int) = a0 + 1; omega) w_fl_RX10_12 dX10_free_116 ?_
            refine j_getr hx hb hts hown hK hG (k := a0 + 1) (fun w h => List.mem_cons_of_mem _ (u_X0 w h)) (ci := 0) rfl (kf_10_0 ka0) 3 (k2 := a0 + 3) (by decide) (by show (a0 + 1) + (2 : Int) = a0 + 3; omega) w_fl_RX10_269 dX10_free_119 ?_
            refine lv_iload hx hb dX10_free_122 (lv_at hl 0 rfl) ?_
            obtain ⟨g66, h⟩ := h
            refine j_aald hx hb hK hG (t := 21) (t0 := 4) (k2 := a0 + 2 * x50 + 28) (show kd (a0 + 3) = 21 from (show (a0 + 1) + 2 = a0 + 3 from by omega) ▸ (kf_1_3 (kf_10_0 ka0))) (by decide) rfl g66 (by simp only [ra_21]; omega) dX10_free_124 ?_
            have k67 : kd (a0 + 2 * x50 + 28) = 4 := by have q9 := (ka_21 (show kd (a0 + 3) = 21 from (show (a0 + 1) + 2 = a0 + 3 from by omega) ▸ (kf_1_3 (kf_10_0 ka0))) g66); rwa [show (a0 + 3) + 25 + 2 * x50 = a0 + 2 * x50 + 28 from by omega] at q9
            refine j_geti hx hb hts hown hK hG (k := a0 + 2 * x50 + 28) (fun w h => List.mem_cons_of_mem _ (u_X4 w h)) (ci := 3) rfl k67 3 (by decide) (jz := 3) rfl w_fl_RX10_320 dX10_free_125 ?_
            refine j_iadd hx hb dX10_free_128 ?_
            obtain ⟨g68, h⟩ := h
            obtain ⟨g69, h⟩ := h
            refine j_mmax hx hb (hml.trans hl.1.symm) hown (hts _ (List.mem_cons_of_mem _ ml_RX10_375)) (hts _ (List.mem_cons_of_mem _ i_mmax)) (hts _ (List.mem_cons_of_mem _ n_Math)) (hts _ (List.mem_cons_of_mem _ k_mmax)) (by exact Nat.le_of_ble_eq_true rfl) (by exact Nat.le_of_ble_eq_true rfl) (by exact Nat.le_of_ble_eq_true rfl) (by exact Nat.le_of_ble_eq_true rfl) g68 g69 dX10_free_129 ?_
            refine j_topi (fun x70 ex70 => ?_)
            have h := h x70 ex70
            refine lv_istore (lv' := [(5, .int (J x70)), (8, .int (J x50)), (7, .int (J x48)), (0, .ref (rA o a0)), (2, .int (J a2)), (3, .int (J a3)), (4, .int (J z25)), (6, .int (J x30))]) hx hb dX10_free_132 hl (by decide) rfl (fun ls hl => ?_)
            exact jK60 x70 h H locs hG ls (lv_sub hl [3, 4, 5, 6, 0, 7] rfl)
    exact lI31 n32s a1 0 iI31 H locs hG ls (lv_sub hl [3, 5, 6, 2, 1, 0] rfl)
  obtain ⟨K79, hK79, h⟩ := h
  have jK79 : K79 → ∀ (H : Heap) (locs : List Loc), GM D cy o M s.heap H locs → ∀ ls : Array Slot, lv_has ls 9 [(0, .ref (rA o a0)), (1, .int (J a1)), (2, .int (J a2)), (3, .int (J a3))] → W p l e rom_X10_free s m args below meth c H locs 0 0 Qf (F0 m 30 ls []) := by
    intro hcK79 H locs hG ls hl
    have h := hK79 hcK79
    refine lv_iconst (v := J 0) hx hb dX10_free_30 (by decide) ?_
    exact jK22 0 h H locs hG ls (lv_sub hl [0, 1, 2, 3] rfl)
  refine j_if_eq_b (tgt := 30) hx hb dX10_free_4 (by decide) (fun c80 => ?_) (fun c80 => ?_)
  · have h := h.1 c80
    exact jK79 h H locs hG ls (lv_sub hl [0, 1, 2, 3] rfl)
  · have h := h.2 c80
    refine lv_iload_n hx hb dX10_free_7 rfl (lv_at hl 2 rfl) ?_
    obtain ⟨g81, h⟩ := h
    refine j_conti (va_runS (As := [.int (J a2)]) (rest := []) ⟨hx, hb, hml, hown, hts⟩ (A_X10_isInstant l g81) (va_cwS 1 hts (gj_S ml_RX10_206 i_X10_isInstant n_RX10 k_X10_isInstant) rfl rfl rfl (by decide +kernel) ⟨by exact Nat.le_of_ble_eq_true rfl, by exact Nat.le_of_ble_eq_true rfl⟩) (j_preS hK hSX hG) rfl rfl hl.1 rfl (lv_room (Nat.le_of_ble_eq_true rfl)) dX10_free_8 ⟨by exact Nat.le_of_ble_eq_true rfl, by exact Nat.le_of_ble_eq_true rfl⟩) hG (c2 := 0) (s2 := 0) ⟨by exact Nat.le_of_ble_eq_true rfl, by exact Nat.le_of_ble_eq_true rfl⟩ (fun z82 M83 ez82 H locs hG => ?_)
    obtain ⟨ez82, eM83⟩ := ez82
    subst ez82
    rw [eM83] at hG
    refine j_if_eq_b (tgt := 30) hx hb dX10_free_11 (by decide) (fun c84 => ?_) (fun c84 => ?_)
    · have h := h.1 c84
      exact jK79 h H locs hG ls (lv_sub hl [0, 1, 2, 3] rfl)
    · have h := h.2 c84
      refine lv_iload_n hx hb dX10_free_14 rfl (lv_at hl 3 rfl) ?_
      refine lv_iconst (v := J 1) hx hb dX10_free_15 (by decide) ?_
      obtain ⟨g86, h⟩ := h
      refine j_icmp_lt (tgt := 30) hx hb dX10_free_16 (by decide) g86 (by decide) (fun c85 => ?_) (fun c85 => ?_)
      · have h := h.1 c85
        exact jK79 h H locs hG ls (lv_sub hl [0, 1, 2, 3] rfl)
      · have h := h.2 c85
        refine lv_iload_n hx hb dX10_free_19 rfl (lv_at hl 3 rfl) ?_
        refine lv_sipush (v := J 1440) hx hb dX10_free_20 (by decide) ?_
        refine j_icmp_gt (tgt := 30) hx hb dX10_free_23 (by decide) g86 (by decide) (fun c87 => ?_) (fun c87 => ?_)
        · have h := h.1 c87
          exact jK79 h H locs hG ls (lv_sub hl [0, 1, 2, 3] rfl)
        · have h := h.2 c87
          refine lv_iconst (v := J 1) hx hb dX10_free_26 (by decide) ?_
          refine lv_goto (tgt := 31) hx hb dX10_free_27 (by decide) ?_
          exact jK22 1 h H locs hG ls (lv_sub hl [0, 1, 2, 3] rfl)
abbrev rm_X10_free : Room := { frames := 7, cells := 1, slots := 6, locals := 149 }
set_option maxRecDepth 100000 in
set_option maxHeartbeats 4000000 in
theorem A_X10_free (l : Launch) (hst : l.stackTraces = false) {D : va_G} {cy : Nat → ClassId} {o : Nat} {sK sV : Nat → Nat} {M : jT} {a0 : Int} {a1 : Int} {a2 : Int} {a3 : Int} (ka0 : kd a0 = 10) {Q : Int → jT → Prop} {X : Nat → jT → Prop} (h : wp_X10_free M a0 a1 a2 a3 Q X) : CxI l yX10_free (wj yX10_free cX10_free 9 (some .int)) rm_X10_free D cy o sK sV M [.ref (rA o a0), .int (J a1), .int (J a2), .int (J a3)] Q X := by
  refine j_ofWx (cc := cX10_free) (maxL := 9) (ret := (some .int)) (by decide) rfl (Nat.le_of_ble_eq_true rfl) ?_
  intro p e s m args below meth c hx hb hr hlocks hout hml hown hts hK hSX H locs hsz hG ls hl Qf hQf
  have hown : s.vm.findClass RX10 = some m.cls := hown
  have hl : lv_has ls 9 [(0, .ref (rA o a0)), (1, .int (J a1)), (2, .int (J a2)), (3, .int (J a3))] := hl
  have w_fl_RX10_62 := hts _ (List.mem_cons_of_mem _ fl_RX10_62)
  have w_cl_RX10_368 := hts _ (List.mem_cons_of_mem _ cl_RX10_368)
  have w_fl_RX10_12 := hts _ (List.mem_cons_of_mem _ fl_RX10_12)
  have w_fl_RX10_269 := hts _ (List.mem_cons_of_mem _ fl_RX10_269)
  have w_fl_RX10_320 := hts _ (List.mem_cons_of_mem _ fl_RX10_320)
  unfold wp_X10_free at h
  refine lv_iload_n hx hb dX10_free_0 rfl (lv_at hl 1 rfl) ?_
  obtain ⟨g1, h⟩ := h
  refine j_conti (va_runS (As := [.int (J a1)]) (rest := []) ⟨hx, hb, hml, hown, hts⟩ (A_X10_isInstant l g1) (va_cwS 1 hts (gj_S ml_RX10_206 i_X10_isInstant n_RX10 k_X10_isInstant) rfl rfl rfl (by decide +kernel) ⟨by exact Nat.le_of_ble_eq_true rfl, by exact Nat.le_of_ble_eq_true rfl⟩) (j_preS hK hSX hG) rfl rfl hl.1 rfl (lv_room (Nat.le_of_ble_eq_true rfl)) dX10_free_1 ⟨by exact Nat.le_of_ble_eq_true rfl, by exact Nat.le_of_ble_eq_true rfl⟩) hG (c2 := 0) (s2 := 0) ⟨by exact Nat.le_of_ble_eq_true rfl, by exact Nat.le_of_ble_eq_true rfl⟩ (fun z2 M3 ez2 H locs hG => ?_)
  obtain ⟨ez2, eM3⟩ := ez2
  subst ez2
  rw [eM3] at hG
  obtain ⟨K22, hK22, h⟩ := h
  have jK22 : ∀ (x21 : Int), K22 x21 → ∀ (H : Heap) (locs : List Loc), GM D cy o M s.heap H locs → ∀ ls : Array Slot, lv_has ls 9 [(0, .ref (rA o a0)), (1, .int (J a1)), (2, .int (J a2)), (3, .int (J a3))] → W p l e rm_X10_free s m args below meth c H locs 0 0 Qf (F0 m 31 ls [.int (J x21)]) := by
    intro x21 hcK22 H locs hG ls hl
    have h := hK22 x21 hcK22
    rcases h with h | h
    · refine j_contv (va_runS (As := [.int (J x21)]) (rest := []) ⟨hx, hb, hml, hown, hts⟩ (Ao_X10_needArgument l h) (va_cwS 1 hts (gj_S ml_RX10_72 i_X10_needArgument n_RX10 k_X10_needArgument) rfl rfl rfl (by decide +kernel) ⟨by exact Nat.le_of_ble_eq_true rfl, by exact Nat.le_of_ble_eq_true rfl⟩) (j_preS hK hSX hG) rfl rfl hl.1 rfl (lv_room (Nat.le_of_ble_eq_true rfl)) dX10_free_31 ⟨by exact Nat.le_of_ble_eq_true rfl, by exact Nat.le_of_ble_eq_true rfl⟩) hG (c2 := 0) (s2 := 0) ⟨by exact Nat.le_of_ble_eq_true rfl, by exact Nat.le_of_ble_eq_true rfl⟩ (fun M24 h H locs hG => ?_)
      obtain ⟨h, eM24⟩ := h
      rw [eM24] at hG
      refine lv_aload_n hx hb dX10_free_34 rfl (lv_at hl 0 rfl) ?_
      refine lv_iload_n hx hb dX10_free_35 rfl (lv_at hl 1 rfl) ?_
      refine lv_sipush (v := J 1440) hx hb dX10_free_36 (by decide) ?_
      refine j_isub hx hb dX10_free_39 ?_
      refine j_conti (va_runV (As := [.int (J (a1 - 1440))]) (rest := []) ⟨hx, hb, hml, hown, hts⟩ (A_X10_listBeginnings l ka0 h) (cwV 1 hts (gj_V ml_RX10_365 i_X10_listBeginnings s_X10_listBeginnings n_RX10 k_X10_listBeginnings) rfl rfl rfl (by decide +kernel) ⟨by exact Nat.le_of_ble_eq_true rfl, by exact Nat.le_of_ble_eq_true rfl⟩) (j_preV hK hSX hG (ci := 9) rfl ka0 (by decide)) rfl rfl hl.1 rfl (lv_room (Nat.le_of_ble_eq_true rfl)) dX10_free_40 ⟨by exact Nat.le_of_ble_eq_true rfl, by exact Nat.le_of_ble_eq_true rfl⟩) hG (c2 := 0) (s2 := 0) ⟨by exact Nat.le_of_ble_eq_true rfl, by exact Nat.le_of_ble_eq_true rfl⟩ (fun z25 M26 h H locs hG => ?_)
      refine lv_istore (lv' := [(4, .int (J z25)), (0, .ref (rA o a0)), (1, .int (J a1)), (2, .int (J a2)), (3, .int (J a3))]) hx hb dX10_free_43 hl (by decide) rfl (fun ls hl => ?_)
      refine lv_aload_n hx hb dX10_free_45 rfl (lv_at hl 1 rfl) ?_
      refine j_getr hx hb hts hown hK hG (k := a0) (fun w h => List.mem_cons_of_mem _ (u_X10 w h)) (ci := 9) rfl ka0 8 (k2 := a0 + 607) (by decide) (by show a0 + (607 : Int) = a0 + 607; omega) w_fl_RX10_62 dX10_free_46 ?_
      refine lv_iload hx hb dX10_free_49 (lv_at hl 0 rfl) ?_
      refine j_contv (va_runS (As := [.ref (rA o (a0 + 607)), .int (J z25)]) (rest := []) ⟨hx, hb, hml, hown, hts⟩ (A_X10_sortKeys_b l (kf_10_8 ka0) h) (va_cwS 2 hts (gj_S ml_RX10_219 i_X10_sortKeys n_RX10 k_X10_sortKeys) rfl rfl rfl (by decide +kernel) ⟨by exact Nat.le_of_ble_eq_true rfl, by exact Nat.le_of_ble_eq_true rfl⟩) (j_preS hK hSX hG) rfl rfl hl.1 rfl (lv_room (Nat.le_of_ble_eq_true rfl)) dX10_free_51 ⟨by exact Nat.le_of_ble_eq_true rfl, by exact Nat.le_of_ble_eq_true rfl⟩) hG (c2 := 0) (s2 := 0) ⟨by exact Nat.le_of_ble_eq_true rfl, by exact Nat.le_of_ble_eq_true rfl⟩ (fun M28 h H locs hG => ?_)
      refine lv_iload_n hx hb dX10_free_54 rfl (lv_at hl 2 rfl) ?_
      refine lv_istore (lv' := [(5, .int (J a1)), (4, .int (J z25)), (0, .ref (rA o a0)), (1, .int (J a1)), (2, .int (J a2)), (3, .int (J a3))]) hx hb dX10_free_55 hl (by decide) rfl (fun ls hl => ?_)
      refine lv_iconst (v := J 0) hx hb dX10_free_57 (by decide) ?_
      refine lv_istore (lv' := [(6, .int (J 0)), (5, .int (J a1)), (4, .int (J z25)), (0, .ref (rA o a0)), (1, .int (J a1)), (2, .int (J a2)), (3, .int (J a3))]) hx hb dX10_free_58 hl (by decide) rfl (fun ls hl => ?_)
      obtain ⟨I31, ⟨n32s, iI31⟩, qI31⟩ := h
      have lI31 : ∀ (n32 : Nat) (x29 : Int) (x30 : Int), I31 n32 x29 x30 → ∀ (H : Heap) (locs : List Loc), GM D cy o M28 s.heap H locs → ∀ ls : Array Slot, lv_has ls 9 [(0, .ref (rA o a0)), (2, .int (J a2)), (3, .int (J a3)), (4, .int (J z25)), (5, .int (J x29)), (6, .int (J x30))] → W p l e rm_X10_free s m args below meth c H locs 0 0 Qf (F0 m 60 ls []) := by
        intro n32
        induction n32 using Nat.strongRecOn with
        | ind n32 rI31 =>
          intro x29 x30 iI31 H locs hG ls hl
          have h := qI31 n32 x29 x30 iI31
          refine lv_iload hx hb dX10_free_60 (lv_at hl 5 rfl) ?_
          refine lv_iload hx hb dX10_free_62 (lv_at hl 3 rfl) ?_
          obtain ⟨g34, h⟩ := h
          obtain ⟨g35, h⟩ := h
          refine j_icmp_ge (tgt := 140) hx hb dX10_free_64 (by decide) g34 g35 (fun c33 => ?_) (fun c33 => ?_)
          · have h := h.1 c33
            refine lv_iload hx hb dX10_free_140 (lv_at hl 4 rfl) ?_
            refine lv_iload_n hx hb dX10_free_142 rfl (lv_at hl 2 rfl) ?_
            refine j_iadd hx hb dX10_free_143 ?_
            refine lv_iload_n hx hb dX10_free_144 rfl (lv_at hl 1 rfl) ?_
            obtain ⟨hg, h⟩ := h
            have jK40 : ∀ x39 : Int, x39 = b2i (x29 + a3 ≤ a2) → ∀ (H : Heap) (locs : List Loc), GM D cy o M28 s.heap H locs → ∀ ls : Array Slot, lv_has ls 9 [(5, .int (J x29))] → W p l e rm_X10_free s m args below meth c H locs 0 0 Qf (F0 m 153 ls [.int (J x39)]) := by
              intro x39 ex39 H locs hG ls hl
              subst ex39
              rcases h with h | h
              · refine j_contv (va_runS (As := [.int (J (b2i (x29 + a3 ≤ a2)))]) (rest := []) ⟨hx, hb, hml, hown, hts⟩ (Ao_X10_needElement l h) (va_cwS 1 hts (gj_S ml_RX10_184 i_X10_needElement n_RX10 k_X10_needElement) rfl rfl rfl (by decide +kernel) ⟨by exact Nat.le_of_ble_eq_true rfl, by exact Nat.le_of_ble_eq_true rfl⟩) (j_preS hK hSX hG) rfl rfl hl.1 rfl (lv_room (Nat.le_of_ble_eq_true rfl)) dX10_free_153 ⟨by exact Nat.le_of_ble_eq_true rfl, by exact Nat.le_of_ble_eq_true rfl⟩) hG (c2 := 0) (s2 := 0) ⟨by exact Nat.le_of_ble_eq_true rfl, by exact Nat.le_of_ble_eq_true rfl⟩ (fun M45 h H locs hG => ?_)
                obtain ⟨h, eM45⟩ := h
                rw [eM45] at hG
                refine lv_iload hx hb dX10_free_156 (lv_at hl 0 rfl) ?_
                rw [hQf]
                exact vx_ret (j_ireti hx hb hr hlocks hG h (by decide) dX10_free_158)
              · refine j_contxv (vx_runS (As := [.int (J (b2i (x29 + a3 ≤ a2)))]) (rest := []) ⟨hx, hb, hml, hown, hts⟩ (A_X10_needElement l hst h) (va_cwS 1 hts (gj_S ml_RX10_184 i_X10_needElement n_RX10 k_X10_needElement) rfl rfl rfl (by decide +kernel) ⟨by exact Nat.le_of_ble_eq_true rfl, by exact Nat.le_of_ble_eq_true rfl⟩) (j_preS hK hSX hG) rfl rfl hl.1 rfl (lv_room (Nat.le_of_ble_eq_true rfl)) dX10_free_153 ⟨by exact Nat.le_of_ble_eq_true rfl, by exact Nat.le_of_ble_eq_true rfl⟩) hG (c2 := 1) (s2 := 6) ⟨by exact Nat.le_of_ble_eq_true rfl, by exact Nat.le_of_ble_eq_true rfl⟩ (fun x M h ce q H locs hG h1 h2 h3 => ?_) (fun M h H locs hG => h.elim)
                rw [hQf]
                exact j_xout hlocks hout hG h h1 h2 h3 (by decide)
            have h := hg
            obtain ⟨g42, h⟩ := h
            obtain ⟨g43, h⟩ := h
            refine j_icmp_gt (tgt := 152) hx hb dX10_free_145 (by decide) g42 g43 (fun c41 => ?_) (fun c41 => ?_)
            · have h := h.1 c41
              refine lv_iconst (v := J 0) hx hb dX10_free_152 (by decide) ?_
              exact jK40 0 (b2i_iff0 (iff_of_false (show ¬ (x29 + a3 ≤ a2) from by omega) id)) H locs hG ls (lv_sub hl [4] rfl)
            · have h := h.2 c41
              refine lv_iconst (v := J 1) hx hb dX10_free_148 (by decide) ?_
              refine lv_goto (tgt := 153) hx hb dX10_free_149 (by decide) ?_
              exact jK40 1 (b2i_iff1 (iff_of_true c41 trivial)) H locs hG ls (lv_sub hl [4] rfl)
          · have h := h.2 c33
            refine lv_aload_n hx hb dX10_free_67 rfl (lv_at hl 0 rfl) ?_
            refine j_getr hx hb hts hown hK hG (k := a0) (fun w h => List.mem_cons_of_mem _ (u_X10 w h)) (ci := 9) rfl ka0 8 (k2 := a0 + 607) (by decide) (by show a0 + (607 : Int) = a0 + 607; omega) w_fl_RX10_62 dX10_free_68 ?_
            refine lv_iload hx hb dX10_free_71 (lv_at hl 5 rfl) ?_
            obtain ⟨g46, h⟩ := h
            refine j_lald hx hb hK hG (n := 400) (kf_10_8 ka0) (by decide) g46 dX10_free_73 ?_
            refine lv_ldc2 (v := JL 400) hx hb hown (show (Cond.constantLong RX10 368 (JL 400)).before args s = true from w_cl_RX10_368) dX10_free_74 ?_
            obtain ⟨g47, h⟩ := h
            refine j_ldiv hx hb dX10_free_77 g47 (by decide) ?_
            refine j_l2i hx hb dX10_free_78 ?_
            refine lv_sipush (v := J (-2000)) hx hb dX10_free_79 (by decide) ?_
            refine j_iadd hx hb dX10_free_82 ?_
            refine j_topi (fun x48 ex48 => ?_)
            have h := h x48 ex48
            refine lv_istore (lv' := [(7, .int (J x48)), (0, .ref (rA o a0)), (2, .int (J a2)), (3, .int (J a3)), (4, .int (J z25)), (5, .int (J x29)), (6, .int (J x30))]) hx hb dX10_free_83 hl (by decide) rfl (fun ls hl => ?_)
            refine lv_aload_n hx hb dX10_free_85 rfl (lv_at hl 1 rfl) ?_
            refine j_getr hx hb hts hown hK hG (k := a0) (fun w h => List.mem_cons_of_mem _ (u_X10 w h)) (ci := 9) rfl ka0 8 (k2 := a0 + 607) (by decide) (by show a0 + (607 : Int) = a0 + 607; omega) w_fl_RX10_62 dX10_free_86 ?_
            refine lv_iload hx hb dX10_free_89 (lv_at hl 6 rfl) ?_
            refine j_lald hx hb hK hG (n := 400) (kf_10_8 ka0) (by decide) g46 dX10_free_91 ?_
            refine lv_ldc2 (v := JL 400) hx hb hown (show (Cond.constantLong RX10 368 (JL 400)).before args s = true from w_cl_RX10_368) dX10_free_92 ?_
            refine j_lrem hx hb dX10_free_95 g47 (by decide) ?_
            refine j_l2i hx hb dX10_free_96 ?_
            refine lv_bipush (v := J 40) hx hb dX10_free_97 (by decide) ?_
            obtain ⟨g49, h⟩ := h
            refine j_idiv hx hb dX10_free_99 g49 (by decide) ?_
            refine j_topi (fun x50 ex50 => ?_)
            have h := h x50 ex50
            refine lv_istore (lv' := [(8, .int (J x50)), (7, .int (J x48)), (0, .ref (rA o a0)), (2, .int (J a2)), (3, .int (J a3)), (4, .int (J z25)), (5, .int (J x29)), (6, .int (J x30))]) hx hb dX10_free_100 hl (by decide) rfl (fun ls hl => ?_)
            refine lv_iload hx hb dX10_free_102 (lv_at hl 1 rfl) ?_
            refine lv_iload hx hb dX10_free_104 (lv_at hl 6 rfl) ?_
            refine lv_iload_n hx hb dX10_free_106 rfl (lv_at hl 4 rfl) ?_
            refine j_iadd hx hb dX10_free_107 ?_
            obtain ⟨K60, hK60, h⟩ := h
            have jK60 : ∀ (x59 : Int), K60 x59 → ∀ (H : Heap) (locs : List Loc), GM D cy o M28 s.heap H locs → ∀ ls : Array Slot, lv_has ls 9 [(0, .ref (rA o a0)), (2, .int (J a2)), (3, .int (J a3)), (4, .int (J z25)), (5, .int (J x59)), (6, .int (J x30))] → W p l e rm_X10_free s m args below meth c H locs 0 0 Qf (F0 m 134 ls []) := by
              intro x59 hcK60 H locs hG ls hl
              have h := hK60 x59 hcK60
              refine j_iinc hx hb dX10_free_134 hl (k := 5) rfl (by decide) (fun x61 ex61 ls hl => ?_)
              have h := h x61 ex61
              have hl : lv_has ls 9 [(6, .int (J x61)), (0, .ref (rA o a0)), (2, .int (J a2)), (3, .int (J a3)), (4, .int (J z25)), (5, .int (J x59))] := hl
              refine lv_goto (tgt := 60) hx hb dX10_free_137 (by decide) ?_
              obtain ⟨n62, ln62, iI31⟩ := h
              exact rI31 n62 ln62 x59 x61 iI31 H locs hG ls (lv_sub hl [1, 2, 3, 4, 5, 0] rfl)
            obtain ⟨g64, h⟩ := h
            obtain ⟨g65, h⟩ := h
            refine j_icmp_ge (tgt := 134) hx hb dX10_free_108 (by decide) g64 g65 (fun c63 => ?_) (fun c63 => ?_)
            · have h := h.1 c63
              exact jK60 x29 h H locs hG ls (lv_sub hl [2, 3, 4, 5, 6, 7] rfl)
            · have h := h.2 c63
              refine lv_iload hx hb dX10_free_111 (lv_at hl 6 rfl) ?_
              refine lv_iload hx hb dX10_free_113 (lv_at hl 1 rfl) ?_
              refine lv_aload_n hx hb dX10_free_115 rfl (lv_at hl 2 rfl) ?_
              refine j_getr hx hb hts hown hK hG (k := a0) (fun w h => List.mem_cons_of_mem _ (u_X10 w h)) (ci := 9) rfl ka0 0 (k2 := a0 + 1) (by decide) (by show a0 + (1 : Int) = a0 + 1; omega) w_fl_RX10_12 dX10_free_116 ?_
              refine j_getr hx hb hts hown hK hG (k := a0 + 1) (fun w h => List.mem_cons_of_mem _ (u_X0 w h)) (ci := 0) rfl (kf_10_0 ka0) 3 (k2 := a0 + 3) (by decide) (by show (a0 + 1) + (2 : Int) = a0 + 3; omega) w_fl_RX10_269 dX10_free_119 ?_
              refine lv_iload hx hb dX10_free_122 (lv_at hl 0 rfl) ?_
              obtain ⟨g66, h⟩ := h
              refine j_aald hx hb hK hG (t := 21) (t0 := 4) (k2 := a0 + 2 * x50 + 28) (show kd (a0 + 3) = 21 from (show (a0 + 1) + 2 = a0 + 3 from by omega) ▸ (kf_1_3 (kf_10_0 ka0))) (by decide) rfl g66 (by simp only [ra_21]; omega) dX10_free_124 ?_
              have k67 : kd (a0 + 2 * x50 + 28) = 4 := by have q9 := (ka_21 (show kd (a0 + 3) = 21 from (show (a0 + 1) + 2 = a0 + 3 from by omega) ▸ (kf_1_3 (kf_10_0 ka0))) g66); rwa [show (a0 + 3) + 25 + 2 * x50 = a0 + 2 * x50 + 28 from by omega] at q9
              refine j_geti hx hb hts hown hK hG (k := a0 + 2 * x50 + 28) (fun w h => List.mem_cons_of_mem _ (u_X4 w h)) (ci := 3) rfl k67 3 (by decide) (jz := 3) rfl w_fl_RX10_320 dX10_free_125 ?_
              refine j_iadd hx hb dX10_free_128 ?_
              obtain ⟨g68, h⟩ := h
              obtain ⟨g69, h⟩ := h
              refine j_mmax hx hb (hml.trans hl.1.symm) hown (hts _ (List.mem_cons_of_mem _ ml_RX10_375)) (hts _ (List.mem_cons_of_mem _ i_mmax)) (hts _ (List.mem_cons_of_mem _ n_Math)) (hts _ (List.mem_cons_of_mem _ k_mmax)) (by exact Nat.le_of_ble_eq_true rfl) (by exact Nat.le_of_ble_eq_true rfl) (by exact Nat.le_of_ble_eq_true rfl) (by exact Nat.le_of_ble_eq_true rfl) g68 g69 dX10_free_129 ?_
              refine j_topi (fun x70 ex70 => ?_)
              have h := h x70 ex70
              refine lv_istore (lv' := [(5, .int (J x70)), (8, .int (J x50)), (7, .int (J x48)), (0, .ref (rA o a0)), (2, .int (J a2)), (3, .int (J a3)), (4, .int (J z25)), (6, .int (J x30))]) hx hb dX10_free_132 hl (by decide) rfl (fun ls hl => ?_)
              exact jK60 x70 h H locs hG ls (lv_sub hl [3, 4, 5, 6, 0, 7] rfl)
      exact lI31 n32s a1 0 iI31 H locs hG ls (lv_sub hl [3, 5, 6, 2, 1, 0] rfl)
    · refine j_contxv (vx_runS (As := [.int (J x21)]) (rest := []) ⟨hx, hb, hml, hown, hts⟩ (A_X10_needArgument l hst h) (va_cwS 1 hts (gj_S ml_RX10_72 i_X10_needArgument n_RX10 k_X10_needArgument) rfl rfl rfl (by decide +kernel) ⟨by exact Nat.le_of_ble_eq_true rfl, by exact Nat.le_of_ble_eq_true rfl⟩) (j_preS hK hSX hG) rfl rfl hl.1 rfl (lv_room (Nat.le_of_ble_eq_true rfl)) dX10_free_31 ⟨by exact Nat.le_of_ble_eq_true rfl, by exact Nat.le_of_ble_eq_true rfl⟩) hG (c2 := 1) (s2 := 6) ⟨by exact Nat.le_of_ble_eq_true rfl, by exact Nat.le_of_ble_eq_true rfl⟩ (fun x M h ce q H locs hG h1 h2 h3 => ?_) (fun M h H locs hG => h.elim)
      rw [hQf]
      exact j_xout hlocks hout hG h h1 h2 h3 (by decide)
  obtain ⟨K79, hK79, h⟩ := h
  have jK79 : K79 → ∀ (H : Heap) (locs : List Loc), GM D cy o M s.heap H locs → ∀ ls : Array Slot, lv_has ls 9 [(0, .ref (rA o a0)), (1, .int (J a1)), (2, .int (J a2)), (3, .int (J a3))] → W p l e rm_X10_free s m args below meth c H locs 0 0 Qf (F0 m 30 ls []) := by
    intro hcK79 H locs hG ls hl
    have h := hK79 hcK79
    refine lv_iconst (v := J 0) hx hb dX10_free_30 (by decide) ?_
    exact jK22 0 h H locs hG ls (lv_sub hl [0, 1, 2, 3] rfl)
  refine j_if_eq_b (tgt := 30) hx hb dX10_free_4 (by decide) (fun c80 => ?_) (fun c80 => ?_)
  · have h := h.1 c80
    exact jK79 h H locs hG ls (lv_sub hl [0, 1, 2, 3] rfl)
  · have h := h.2 c80
    refine lv_iload_n hx hb dX10_free_7 rfl (lv_at hl 2 rfl) ?_
    obtain ⟨g81, h⟩ := h
    refine j_conti (va_runS (As := [.int (J a2)]) (rest := []) ⟨hx, hb, hml, hown, hts⟩ (A_X10_isInstant l g81) (va_cwS 1 hts (gj_S ml_RX10_206 i_X10_isInstant n_RX10 k_X10_isInstant) rfl rfl rfl (by decide +kernel) ⟨by exact Nat.le_of_ble_eq_true rfl, by exact Nat.le_of_ble_eq_true rfl⟩) (j_preS hK hSX hG) rfl rfl hl.1 rfl (lv_room (Nat.le_of_ble_eq_true rfl)) dX10_free_8 ⟨by exact Nat.le_of_ble_eq_true rfl, by exact Nat.le_of_ble_eq_true rfl⟩) hG (c2 := 0) (s2 := 0) ⟨by exact Nat.le_of_ble_eq_true rfl, by exact Nat.le_of_ble_eq_true rfl⟩ (fun z82 M83 ez82 H locs hG => ?_)
    obtain ⟨ez82, eM83⟩ := ez82
    subst ez82
    rw [eM83] at hG
    refine j_if_eq_b (tgt := 30) hx hb dX10_free_11 (by decide) (fun c84 => ?_) (fun c84 => ?_)
    · have h := h.1 c84
      exact jK79 h H locs hG ls (lv_sub hl [0, 1, 2, 3] rfl)
    · have h := h.2 c84
      refine lv_iload_n hx hb dX10_free_14 rfl (lv_at hl 3 rfl) ?_
      refine lv_iconst (v := J 1) hx hb dX10_free_15 (by decide) ?_
      obtain ⟨g86, h⟩ := h
      refine j_icmp_lt (tgt := 30) hx hb dX10_free_16 (by decide) g86 (by decide) (fun c85 => ?_) (fun c85 => ?_)
      · have h := h.1 c85
        exact jK79 h H locs hG ls (lv_sub hl [0, 1, 2, 3] rfl)
      · have h := h.2 c85
        refine lv_iload_n hx hb dX10_free_19 rfl (lv_at hl 3 rfl) ?_
        refine lv_sipush (v := J 1440) hx hb dX10_free_20 (by decide) ?_
        refine j_icmp_gt (tgt := 30) hx hb dX10_free_23 (by decide) g86 (by decide) (fun c87 => ?_) (fun c87 => ?_)
        · have h := h.1 c87
          exact jK79 h H locs hG ls (lv_sub hl [0, 1, 2, 3] rfl)
        · have h := h.2 c87
          refine lv_iconst (v := J 1) hx hb dX10_free_26 (by decide) ?_
          refine lv_goto (tgt := 31) hx hb dX10_free_27 (by decide) ?_
          exact jK22 1 h H locs hG ls (lv_sub hl [0, 1, 2, 3] rfl)

abbrev rm_X6_put : Room := { frames := 0, cells := 0, slots := 0, locals := 0 }
set_option maxRecDepth 100000 in
set_option maxHeartbeats 4000000 in
theorem A_X6_put (l : Launch) {D : va_G} {cy : Nat → ClassId} {o : Nat} {sK sV : Nat → Nat} {M : jT} {a0 : Int} {a1 : Int} (ka0 : kd a0 = 6) {Q : jT → Prop} (h : wp_X6_put M a0 a1 Q) : CoV l yX6_put (wj yX6_put cX6_put 2 none) rm_X6_put D cy o sK sV M [.ref (rA o a0), .int (J a1)] Q := by
  refine j_ofW (cc := cX6_put) (maxL := 2) (ret := none) (by decide) rfl (Nat.le_of_ble_eq_true rfl) ?_
  intro p e s m args below meth c hx hb hr hlocks hml hown hts hK hSX H locs hG ls hl Qf hQf
  have hown : s.vm.findClass RX6 = some m.cls := hown
  have hl : lv_has ls 2 [(0, .ref (rA o a0)), (1, .int (J a1))] := hl
  have w_fl_RX6_23 := hts _ (List.mem_cons_of_mem _ fl_RX6_23)
  have w_fl_RX6_15 := hts _ (List.mem_cons_of_mem _ fl_RX6_15)
  unfold wp_X6_put at h
  refine lv_iload_n hx hb dX6_put_0 rfl (lv_at hl 1 rfl) ?_
  obtain ⟨K10, hK10, h⟩ := h
  have jK10 : ∀ (M9 : jT), K10 M9 → ∀ (H : Heap) (locs : List Loc), GM D cy o M9 s.heap H locs → ∀ ls : Array Slot, lv_has ls 2 [] → W p l e rm_X6_put s m args below meth c H locs 0 0 Qf (F0 m 36 ls []) := by
    intro M9 hcK10 H locs hG ls hl
    have h := hK10 M9 hcK10
    rw [hQf]
    exact j_vret hx hb hr hlocks hG h (by decide) dX6_put_36
  obtain ⟨g12, h⟩ := h
  refine j_if_eq (tgt := 36) hx hb dX6_put_1 (by decide) g12 (fun c11 => ?_) (fun c11 => ?_)
  · have h := h.1 c11
    exact jK10 M h H locs hG ls (lv_sub hl [] rfl)
  · have h := h.2 c11
    refine lv_aload_n hx hb dX6_put_4 rfl (lv_at hl 0 rfl) ?_
    refine j_geti hx hb hts hown hK hG (k := a0) (fun w h => List.mem_cons_of_mem _ (u_X6 w h)) (ci := 5) rfl ka0 0 (by decide) (jz := 0) rfl w_fl_RX6_23 dX6_put_5 ?_
    refine lv_aload_n hx hb dX6_put_8 rfl (lv_at hl 0 rfl) ?_
    refine j_getr hx hb hts hown hK hG (k := a0) (fun w h => List.mem_cons_of_mem _ (u_X6 w h)) (ci := 5) rfl ka0 4 (k2 := a0 + 1) (by decide) (by show a0 + (1 : Int) = a0 + 1; omega) w_fl_RX6_15 dX6_put_9 ?_
    refine j_alenz_c hx hb hK hG (n := 60) (nz := 60) rfl (kf_6_4 ka0) (by decide) dX6_put_12 ?_
    obtain ⟨g14, h⟩ := h
    refine j_icmp_ge (tgt := 36) hx hb dX6_put_13 (by decide) g14 (by decide) (fun c13 => ?_) (fun c13 => ?_)
    · have h := h.1 c13
      exact jK10 M h H locs hG ls (lv_sub hl [] rfl)
    · have h := h.2 c13
      refine lv_aload_n hx hb dX6_put_16 rfl (lv_at hl 0 rfl) ?_
      refine j_getr hx hb hts hown hK hG (k := a0) (fun w h => List.mem_cons_of_mem _ (u_X6 w h)) (ci := 5) rfl ka0 4 (k2 := a0 + 1) (by decide) (by show a0 + (1 : Int) = a0 + 1; omega) w_fl_RX6_15 dX6_put_17 ?_
      refine lv_aload_n hx hb dX6_put_20 rfl (lv_at hl 0 rfl) ?_
      refine j_geti hx hb hts hown hK hG (k := a0) (fun w h => List.mem_cons_of_mem _ (u_X6 w h)) (ci := 5) rfl ka0 0 (by decide) (jz := 0) rfl w_fl_RX6_23 dX6_put_21 ?_
      refine lv_iload_n hx hb dX6_put_24 rfl (lv_at hl 1 rfl) ?_
      obtain ⟨g15, h⟩ := h
      obtain ⟨g16, h⟩ := h
      refine j_cast hx hb hK hG (n := 60) (kf_6_4 ka0) (by decide) g15 g16 dX6_put_25 (fun M17 eM17 H locs hG => ?_)
      have h := h M17 eM17
      refine lv_aload_n hx hb dX6_put_26 rfl (lv_at hl 0 rfl) ?_
      refine lv_dup hx hb dX6_put_27 rfl ?_
      refine j_geti hx hb hts hown hK hG (k := a0) (fun w h => List.mem_cons_of_mem _ (u_X6 w h)) (ci := 5) rfl ka0 0 (by decide) (jz := 0) rfl w_fl_RX6_23 dX6_put_28 ?_
      refine lv_iconst (v := J 1) hx hb dX6_put_31 (by decide) ?_
      refine j_iadd hx hb dX6_put_32 ?_
      refine j_puti hx hb hts hown hK hG (k := a0) (fun w h => List.mem_cons_of_mem _ (u_X6 w h)) tyX6 tyX6_ok nmX6 (ci := 5) rfl ka0 0 (by decide) (jz := 0) rfl w_fl_RX6_23 (hd := rfl) (hn := rfl) (hfit := rfl) (hdg := dX6_put_33) (fun M18 eM18 H locs hG => ?_)
      have h := h M18 eM18
      exact jK10 M18 h H locs hG ls (lv_sub hl [] rfl)

abbrev rom_X10_append : Room := { frames := 2, cells := 0, slots := 0, locals := 40 }
set_option maxRecDepth 100000 in
set_option maxHeartbeats 4000000 in
theorem Ao_X10_append (l : Launch) {D : va_G} {cy : Nat → ClassId} {o : Nat} {sK sV : Nat → Nat} {M : jT} {a0 : Int} {a1 : Int} (ka0 : kd a0 = 10) {Q : Int → jT → Prop} (h : wo_X10_append M a0 a1 Q) : CoI l yX10_append (wj yX10_append cX10_append 5 (some .int)) rom_X10_append D cy o sK sV M [.ref (rA o a0), .int (J a1)] Q := by
  refine j_ofW (cc := cX10_append) (maxL := 5) (ret := (some .int)) (by decide) rfl (Nat.le_of_ble_eq_true rfl) ?_
  intro p e s m args below meth c hx hb hr hlocks hml hown hts hK hSX H locs hG ls hl Qf hQf
  have hown : s.vm.findClass RX10 = some m.cls := hown
  have hl : lv_has ls 5 [(0, .ref (rA o a0)), (1, .int (J a1))] := hl
  have w_fl_RX10_47 := hts _ (List.mem_cons_of_mem _ fl_RX10_47)
  have w_fl_RX10_378 := hts _ (List.mem_cons_of_mem _ fl_RX10_378)
  unfold wo_X10_append at h
  refine lv_iconst (v := J 0) hx hb dX10_append_0 (by decide) ?_
  refine lv_istore_n (lv' := [(2, .int (J 0)), (0, .ref (rA o a0)), (1, .int (J a1))]) hx hb dX10_append_1 rfl hl (by decide) rfl (fun ls hl => ?_)
  refine lv_bipush (v := J 24) hx hb dX10_append_2 (by decide) ?_
  refine lv_istore_n (lv' := [(3, .int (J 24)), (2, .int (J 0)), (0, .ref (rA o a0)), (1, .int (J a1))]) hx hb dX10_append_4 rfl hl (by decide) rfl (fun ls hl => ?_)
  obtain ⟨I3, ⟨n4s, iI3⟩, qI3⟩ := h
  have lI3 : ∀ (n4 : Nat) (x1 : Int) (x2 : Int), I3 n4 x1 x2 → ∀ (H : Heap) (locs : List Loc), GM D cy o M s.heap H locs → ∀ ls : Array Slot, lv_has ls 5 [(0, .ref (rA o a0)), (1, .int (J a1)), (2, .int (J x1)), (3, .int (J x2))] → W p l e rom_X10_append s m args below meth c H locs 0 0 Qf (F0 m 5 ls []) := by
    intro n4
    induction n4 using Nat.strongRecOn with
    | ind n4 rI3 =>
      intro x1 x2 iI3 H locs hG ls hl
      have h := qI3 n4 x1 x2 iI3
      refine lv_iload_n hx hb dX10_append_5 rfl (lv_at hl 3 rfl) ?_
      obtain ⟨g6, h⟩ := h
      refine j_if_lt (tgt := 64) hx hb dX10_append_6 (by decide) g6 (fun c5 => ?_) (fun c5 => ?_)
      · have h := h.1 c5
        refine lv_aload_n hx hb dX10_append_64 rfl (lv_at hl 0 rfl) ?_
        refine j_getr hx hb hts hown hK hG (k := a0) (fun w h => List.mem_cons_of_mem _ (u_X10 w h)) (ci := 9) rfl ka0 5 (k2 := a0 + 601) (by decide) (by show a0 + (601 : Int) = a0 + 601; omega) w_fl_RX10_47 dX10_append_65 ?_
        refine j_geti hx hb hts hown hK hG (k := a0 + 601) (fun w h => List.mem_cons_of_mem _ (u_X6 w h)) (ci := 5) rfl (kf_10_5 ka0) 0 (by decide) (jz := 0) rfl w_fl_RX10_378 dX10_append_68 ?_
        refine lv_iload_n hx hb dX10_append_71 rfl (lv_at hl 2 rfl) ?_
        refine j_iadd hx hb dX10_append_72 ?_
        refine lv_bipush (v := J 60) hx hb dX10_append_73 (by decide) ?_
        obtain ⟨hg, h⟩ := h
        have jK10 : ∀ x9 : Int, (60 < (M (a0 + 601) 0) + x1 → x9 = 3) → ((M (a0 + 601) 0) + x1 ≤ 60 → x9 = 0) → ∀ (H : Heap) (locs : List Loc), GM D cy o M s.heap H locs → ∀ ls : Array Slot, lv_has ls 5 [(0, .ref (rA o a0)), (1, .int (J a1))] → W p l e rom_X10_append s m args below meth c H locs 0 0 Qf (F0 m 83 ls [.int (J x9)]) := by
          intro x9 qx9_0 qx9_1 H locs hG ls hl
          have h := h x9 qx9_0 qx9_1
          refine j_contv (va_runS (As := [.int (J x9)]) (rest := []) ⟨hx, hb, hml, hown, hts⟩ (Ao_X10_refuse l h) (va_cwS 1 hts (gj_S ml_RX10_107 i_X10_refuse n_RX10 k_X10_refuse) rfl rfl rfl (by decide +kernel) ⟨by exact Nat.le_of_ble_eq_true rfl, by exact Nat.le_of_ble_eq_true rfl⟩) (j_preS hK hSX hG) rfl rfl hl.1 rfl (lv_room (Nat.le_of_ble_eq_true rfl)) dX10_append_83 ⟨by exact Nat.le_of_ble_eq_true rfl, by exact Nat.le_of_ble_eq_true rfl⟩) hG (c2 := 0) (s2 := 0) ⟨by exact Nat.le_of_ble_eq_true rfl, by exact Nat.le_of_ble_eq_true rfl⟩ (fun M14 h H locs hG => ?_)
          obtain ⟨h, eM14⟩ := h
          rw [eM14] at hG
          refine lv_bipush (v := J 24) hx hb dX10_append_86 (by decide) ?_
          refine lv_istore_n (lv' := [(3, .int (J 24)), (0, .ref (rA o a0)), (1, .int (J a1))]) hx hb dX10_append_88 rfl hl (by decide) rfl (fun ls hl => ?_)
          obtain ⟨I17, ⟨n18s, iI17⟩, qI17⟩ := h
          have lI17 : ∀ (n18 : Nat) (x15 : Int) (M16 : jT), I17 n18 x15 M16 → ∀ (H : Heap) (locs : List Loc), GM D cy o M16 s.heap H locs → ∀ ls : Array Slot, lv_has ls 5 [(0, .ref (rA o a0)), (1, .int (J a1)), (3, .int (J x15))] → W p l e rom_X10_append s m args below meth c H locs 0 0 Qf (F0 m 89 ls []) := by
            intro n18
            induction n18 using Nat.strongRecOn with
            | ind n18 rI17 =>
              intro x15 M16 iI17 H locs hG ls hl
              have h := qI17 n18 x15 M16 iI17
              refine lv_iload_n hx hb dX10_append_89 rfl (lv_at hl 2 rfl) ?_
              obtain ⟨g20, h⟩ := h
              refine j_if_lt (tgt := 114) hx hb dX10_append_90 (by decide) g20 (fun c19 => ?_) (fun c19 => ?_)
              · have h := h.1 c19
                refine lv_aload_n hx hb dX10_append_114 rfl (lv_at hl 0 rfl) ?_
                refine j_getr hx hb hts hown hK hG (k := a0) (fun w h => List.mem_cons_of_mem _ (u_X10 w h)) (ci := 9) rfl ka0 5 (k2 := a0 + 601) (by decide) (by show a0 + (601 : Int) = a0 + 601; omega) w_fl_RX10_47 dX10_append_115 ?_
                refine j_geti hx hb hts hown hK hG (k := a0 + 601) (fun w h => List.mem_cons_of_mem _ (u_X6 w h)) (ci := 5) rfl (kf_10_5 ka0) 0 (by decide) (jz := 0) rfl w_fl_RX10_378 dX10_append_118 ?_
                rw [hQf]
                exact j_ireti hx hb hr hlocks hG h (by decide) dX10_append_121
              · have h := h.2 c19
                refine lv_aload_n hx hb dX10_append_93 rfl (lv_at hl 0 rfl) ?_
                refine j_getr hx hb hts hown hK hG (k := a0) (fun w h => List.mem_cons_of_mem _ (u_X10 w h)) (ci := 9) rfl ka0 5 (k2 := a0 + 601) (by decide) (by show a0 + (601 : Int) = a0 + 601; omega) w_fl_RX10_47 dX10_append_94 ?_
                refine lv_iload_n hx hb dX10_append_97 rfl (lv_at hl 1 rfl) ?_
                refine lv_iload_n hx hb dX10_append_98 rfl (lv_at hl 2 rfl) ?_
                obtain ⟨g21, h⟩ := h
                obtain ⟨g22, h⟩ := h
                refine j_ishr hx hb x15.toNat (by omega) dX10_append_99 g22 (by omega) ?_
                refine lv_sipush (v := J 255) hx hb dX10_append_100 (by decide) ?_
                refine j_iand hx hb 8 (by decide) dX10_append_103 (by decide) ?_
                obtain ⟨g23, h⟩ := h
                refine j_i2c hx hb dX10_append_104 g23 ?_
                refine j_contv (va_runV (As := [.int (J ((a1 / 2 ^ x15.toNat) % 256))]) (rest := []) ⟨hx, hb, hml, hown, hts⟩ (A_X6_put l (kf_10_5 ka0) h) (cwV 1 hts (gj_V ml_RX10_381 i_X6_put s_X6_put n_RX6 k_X6_put) rfl rfl rfl (by decide +kernel) ⟨by exact Nat.le_of_ble_eq_true rfl, by exact Nat.le_of_ble_eq_true rfl⟩) (j_preV hK hSX hG (ci := 5) rfl (kf_10_5 ka0) (by decide)) rfl rfl hl.1 rfl (lv_room (Nat.le_of_ble_eq_true rfl)) dX10_append_105 ⟨by exact Nat.le_of_ble_eq_true rfl, by exact Nat.le_of_ble_eq_true rfl⟩) hG (c2 := 0) (s2 := 0) ⟨by exact Nat.le_of_ble_eq_true rfl, by exact Nat.le_of_ble_eq_true rfl⟩ (fun M25 h H locs hG => ?_)
                refine j_iinc hx hb dX10_append_108 hl (k := 2) rfl (by decide) (fun x26 ex26 ls hl => ?_)
                have h := h x26 ex26
                have hl : lv_has ls 5 [(3, .int (J x26)), (0, .ref (rA o a0)), (1, .int (J a1))] := hl
                refine lv_goto (tgt := 89) hx hb dX10_append_111 (by decide) ?_
                obtain ⟨n27, ln27, iI17⟩ := h
                exact rI17 n27 ln27 x26 M25 iI17 H locs hG ls (lv_sub hl [1, 2, 0] rfl)
          exact lI17 n18s 24 M iI17 H locs hG ls (lv_sub hl [1, 2, 0] rfl)
        have h := hg
        obtain ⟨g12, h⟩ := h
        refine j_icmp_gt (tgt := 82) hx hb dX10_append_75 (by decide) g12 (by decide) (fun c11 => ?_) (fun c11 => ?_)
        · have h := h.1 c11
          refine lv_iconst (v := J 3) hx hb dX10_append_82 (by decide) ?_
          exact jK10 3 (fun _ => rfl) (fun q => absurd q (by omega)) H locs hG ls (lv_sub hl [0, 1] rfl)
        · have h := h.2 c11
          refine lv_iconst (v := J 0) hx hb dX10_append_78 (by decide) ?_
          refine lv_goto (tgt := 83) hx hb dX10_append_79 (by decide) ?_
          exact jK10 0 (fun q => absurd q (by omega)) (fun _ => rfl) H locs hG ls (lv_sub hl [0, 1] rfl)
      · have h := h.2 c5
        refine lv_iload_n hx hb dX10_append_9 rfl (lv_at hl 1 rfl) ?_
        refine lv_iload_n hx hb dX10_append_10 rfl (lv_at hl 3 rfl) ?_
        obtain ⟨g28, h⟩ := h
        obtain ⟨g29, h⟩ := h
        refine j_ishr hx hb x2.toNat (by omega) dX10_append_11 g29 (by omega) ?_
        refine lv_sipush (v := J 255) hx hb dX10_append_12 (by decide) ?_
        refine j_iand hx hb 8 (by decide) dX10_append_15 (by decide) ?_
        refine j_topi (fun x30 ex30 => ?_)
        have h := h x30 ex30
        refine lv_istore (lv' := [(4, .int (J x30)), (0, .ref (rA o a0)), (1, .int (J a1)), (2, .int (J x1)), (3, .int (J x2))]) hx hb dX10_append_16 hl (by decide) rfl (fun ls hl => ?_)
        refine lv_iload hx hb dX10_append_18 (lv_at hl 0 rfl) ?_
        obtain ⟨K47, hK47, h⟩ := h
        have jK47 : ∀ (x46 : Int), K47 x46 → ∀ (H : Heap) (locs : List Loc), GM D cy o M s.heap H locs → ∀ ls : Array Slot, lv_has ls 5 [(0, .ref (rA o a0)), (1, .int (J a1)), (2, .int (J x1)), (3, .int (J x2)), (4, .int (J x30))] → W p l e rom_X10_append s m args below meth c H locs 0 0 Qf (F0 m 42 ls [.int (J x46)]) := by
          intro x46 hcK47 H locs hG ls hl
          have h := hK47 x46 hcK47
          refine j_contv (va_runS (As := [.int (J x46)]) (rest := []) ⟨hx, hb, hml, hown, hts⟩ (Ao_X10_needArgument l h) (va_cwS 1 hts (gj_S ml_RX10_72 i_X10_needArgument n_RX10 k_X10_needArgument) rfl rfl rfl (by decide +kernel) ⟨by exact Nat.le_of_ble_eq_true rfl, by exact Nat.le_of_ble_eq_true rfl⟩) (j_preS hK hSX hG) rfl rfl hl.1 rfl (lv_room (Nat.le_of_ble_eq_true rfl)) dX10_append_42 ⟨by exact Nat.le_of_ble_eq_true rfl, by exact Nat.le_of_ble_eq_true rfl⟩) hG (c2 := 0) (s2 := 0) ⟨by exact Nat.le_of_ble_eq_true rfl, by exact Nat.le_of_ble_eq_true rfl⟩ (fun M49 h H locs hG => ?_)
          obtain ⟨h, eM49⟩ := h
          rw [eM49] at hG
          refine lv_iload_n hx hb dX10_append_45 rfl (lv_at hl 2 rfl) ?_
          refine lv_iload hx hb dX10_append_46 (lv_at hl 4 rfl) ?_
          obtain ⟨hg, h⟩ := h
          have jK53 : ∀ x52 : Int, x52 = b2i (x30 ≠ 0) → ∀ (H : Heap) (locs : List Loc), GM D cy o M s.heap H locs → ∀ ls : Array Slot, lv_has ls 5 [(0, .ref (rA o a0)), (1, .int (J a1)), (3, .int (J x2))] → W p l e rom_X10_append s m args below meth c H locs 0 0 Qf (F0 m 56 ls [.int (J x52), .int (J x1)]) := by
            intro x52 ex52 H locs hG ls hl
            subst ex52
            refine j_iadd hx hb dX10_append_56 ?_
            refine j_topi (fun x56 ex56 => ?_)
            have h := h x56 ex56
            refine lv_istore_n (lv' := [(2, .int (J x56)), (0, .ref (rA o a0)), (1, .int (J a1)), (3, .int (J x2))]) hx hb dX10_append_57 rfl hl (by decide) rfl (fun ls hl => ?_)
            refine j_iinc hx hb dX10_append_58 hl (k := 3) rfl (by decide) (fun x57 ex57 ls hl => ?_)
            have h := h x57 ex57
            have hl : lv_has ls 5 [(3, .int (J x57)), (2, .int (J x56)), (0, .ref (rA o a0)), (1, .int (J a1))] := hl
            refine lv_goto (tgt := 5) hx hb dX10_append_61 (by decide) ?_
            obtain ⟨n58, ln58, iI3⟩ := h
            exact rI3 n58 ln58 x56 x57 iI3 H locs hG ls (lv_sub hl [2, 3, 1, 0] rfl)
          have h := hg
          obtain ⟨g55, h⟩ := h
          refine j_if_ne (tgt := 55) hx hb dX10_append_48 (by decide) g55 (fun c54 => ?_) (fun c54 => ?_)
          · have h := h.1 c54
            refine lv_iconst (v := J 1) hx hb dX10_append_55 (by decide) ?_
            exact jK53 1 (b2i_iff1 (iff_of_true c54 trivial)) H locs hG ls (lv_sub hl [0, 1, 3] rfl)
          · have h := h.2 c54
            refine lv_iconst (v := J 0) hx hb dX10_append_51 (by decide) ?_
            refine lv_goto (tgt := 56) hx hb dX10_append_52 (by decide) ?_
            exact jK53 0 (b2i_iff0 (iff_of_false (show ¬ (x30 ≠ 0) from by omega) id)) H locs hG ls (lv_sub hl [0, 1, 3] rfl)
        obtain ⟨K66, hK66, h⟩ := h
        have jK66 : K66 → ∀ (H : Heap) (locs : List Loc), GM D cy o M s.heap H locs → ∀ ls : Array Slot, lv_has ls 5 [(0, .ref (rA o a0)), (1, .int (J a1)), (2, .int (J x1)), (3, .int (J x2)), (4, .int (J x30))] → W p l e rom_X10_append s m args below meth c H locs 0 0 Qf (F0 m 37 ls []) := by
          intro hcK66 H locs hG ls hl
          have h := hK66 hcK66
          refine lv_iconst (v := J 1) hx hb dX10_append_37 (by decide) ?_
          refine lv_goto (tgt := 42) hx hb dX10_append_38 (by decide) ?_
          exact jK47 1 h H locs hG ls (lv_sub hl [0, 1, 2, 3, 4] rfl)
        obtain ⟨g68, h⟩ := h
        refine j_if_eq (tgt := 37) hx hb dX10_append_20 (by decide) g68 (fun c67 => ?_) (fun c67 => ?_)
        · have h := h.1 c67
          exact jK66 h H locs hG ls (lv_sub hl [1, 2, 3, 4, 0] rfl)
        · have h := h.2 c67
          refine lv_iload hx hb dX10_append_23 (lv_at hl 0 rfl) ?_
          refine lv_bipush (v := J 33) hx hb dX10_append_25 (by decide) ?_
          obtain ⟨K71, hK71, h⟩ := h
          have jK71 : K71 → ∀ (H : Heap) (locs : List Loc), GM D cy o M s.heap H locs → ∀ ls : Array Slot, lv_has ls 5 [(0, .ref (rA o a0)), (1, .int (J a1)), (2, .int (J x1)), (3, .int (J x2)), (4, .int (J x30))] → W p l e rom_X10_append s m args below meth c H locs 0 0 Qf (F0 m 41 ls []) := by
            intro hcK71 H locs hG ls hl
            have h := hK71 hcK71
            refine lv_iconst (v := J 0) hx hb dX10_append_41 (by decide) ?_
            exact jK47 0 h H locs hG ls (lv_sub hl [0, 1, 2, 3, 4] rfl)
          refine j_icmp_lt (tgt := 41) hx hb dX10_append_27 (by decide) g68 (by decide) (fun c72 => ?_) (fun c72 => ?_)
          · have h := h.1 c72
            exact jK71 h H locs hG ls (lv_sub hl [1, 2, 3, 4, 0] rfl)
          · have h := h.2 c72
            refine lv_iload hx hb dX10_append_30 (lv_at hl 0 rfl) ?_
            refine lv_bipush (v := J 126) hx hb dX10_append_32 (by decide) ?_
            refine j_icmp_gt (tgt := 41) hx hb dX10_append_34 (by decide) g68 (by decide) (fun c73 => ?_) (fun c73 => ?_)
            · have h := h.1 c73
              exact jK71 h H locs hG ls (lv_sub hl [1, 2, 3, 4, 0] rfl)
            · have h := h.2 c73
              exact jK66 h H locs hG ls (lv_sub hl [1, 2, 3, 4, 0] rfl)
  exact lI3 n4s 0 24 iI3 H locs hG ls (lv_sub hl [2, 3, 1, 0] rfl)
abbrev rm_X10_append : Room := { frames := 8, cells := 1, slots := 6, locals := 130 }
set_option maxRecDepth 100000 in
set_option maxHeartbeats 4000000 in
theorem A_X10_append (l : Launch) (hst : l.stackTraces = false) {D : va_G} {cy : Nat → ClassId} {o : Nat} {sK sV : Nat → Nat} {M : jT} {a0 : Int} {a1 : Int} (ka0 : kd a0 = 10) {Q : Int → jT → Prop} {X : Nat → jT → Prop} (h : wp_X10_append M a0 a1 Q X) : CxI l yX10_append (wj yX10_append cX10_append 5 (some .int)) rm_X10_append D cy o sK sV M [.ref (rA o a0), .int (J a1)] Q X := by
  refine j_ofWx (cc := cX10_append) (maxL := 5) (ret := (some .int)) (by decide) rfl (Nat.le_of_ble_eq_true rfl) ?_
  intro p e s m args below meth c hx hb hr hlocks hout hml hown hts hK hSX H locs hsz hG ls hl Qf hQf
  have hown : s.vm.findClass RX10 = some m.cls := hown
  have hl : lv_has ls 5 [(0, .ref (rA o a0)), (1, .int (J a1))] := hl
  have w_fl_RX10_47 := hts _ (List.mem_cons_of_mem _ fl_RX10_47)
  have w_fl_RX10_378 := hts _ (List.mem_cons_of_mem _ fl_RX10_378)
  unfold wp_X10_append at h
  refine lv_iconst (v := J 0) hx hb dX10_append_0 (by decide) ?_
  refine lv_istore_n (lv' := [(2, .int (J 0)), (0, .ref (rA o a0)), (1, .int (J a1))]) hx hb dX10_append_1 rfl hl (by decide) rfl (fun ls hl => ?_)
  refine lv_bipush (v := J 24) hx hb dX10_append_2 (by decide) ?_
  refine lv_istore_n (lv' := [(3, .int (J 24)), (2, .int (J 0)), (0, .ref (rA o a0)), (1, .int (J a1))]) hx hb dX10_append_4 rfl hl (by decide) rfl (fun ls hl => ?_)
  obtain ⟨I3, ⟨n4s, iI3⟩, qI3⟩ := h
  have lI3 : ∀ (n4 : Nat) (x1 : Int) (x2 : Int), I3 n4 x1 x2 → ∀ (H : Heap) (locs : List Loc), GM D cy o M s.heap H locs → ∀ ls : Array Slot, lv_has ls 5 [(0, .ref (rA o a0)), (1, .int (J a1)), (2, .int (J x1)), (3, .int (J x2))] → W p l e rm_X10_append s m args below meth c H locs 0 0 Qf (F0 m 5 ls []) := by
    intro n4
    induction n4 using Nat.strongRecOn with
    | ind n4 rI3 =>
      intro x1 x2 iI3 H locs hG ls hl
      have h := qI3 n4 x1 x2 iI3
      refine lv_iload_n hx hb dX10_append_5 rfl (lv_at hl 3 rfl) ?_
      obtain ⟨g6, h⟩ := h
      refine j_if_lt (tgt := 64) hx hb dX10_append_6 (by decide) g6 (fun c5 => ?_) (fun c5 => ?_)
      · have h := h.1 c5
        refine lv_aload_n hx hb dX10_append_64 rfl (lv_at hl 0 rfl) ?_
        refine j_getr hx hb hts hown hK hG (k := a0) (fun w h => List.mem_cons_of_mem _ (u_X10 w h)) (ci := 9) rfl ka0 5 (k2 := a0 + 601) (by decide) (by show a0 + (601 : Int) = a0 + 601; omega) w_fl_RX10_47 dX10_append_65 ?_
        refine j_geti hx hb hts hown hK hG (k := a0 + 601) (fun w h => List.mem_cons_of_mem _ (u_X6 w h)) (ci := 5) rfl (kf_10_5 ka0) 0 (by decide) (jz := 0) rfl w_fl_RX10_378 dX10_append_68 ?_
        refine lv_iload_n hx hb dX10_append_71 rfl (lv_at hl 2 rfl) ?_
        refine j_iadd hx hb dX10_append_72 ?_
        refine lv_bipush (v := J 60) hx hb dX10_append_73 (by decide) ?_
        obtain ⟨hg, h⟩ := h
        have jK10 : ∀ x9 : Int, (60 < (M (a0 + 601) 0) + x1 → x9 = 3) → ((M (a0 + 601) 0) + x1 ≤ 60 → x9 = 0) → ∀ (H : Heap) (locs : List Loc), GM D cy o M s.heap H locs → ∀ ls : Array Slot, lv_has ls 5 [(0, .ref (rA o a0)), (1, .int (J a1))] → W p l e rm_X10_append s m args below meth c H locs 0 0 Qf (F0 m 83 ls [.int (J x9)]) := by
          intro x9 qx9_0 qx9_1 H locs hG ls hl
          have h := h x9 qx9_0 qx9_1
          rcases h with h | h
          · refine j_contv (va_runS (As := [.int (J x9)]) (rest := []) ⟨hx, hb, hml, hown, hts⟩ (Ao_X10_refuse l h) (va_cwS 1 hts (gj_S ml_RX10_107 i_X10_refuse n_RX10 k_X10_refuse) rfl rfl rfl (by decide +kernel) ⟨by exact Nat.le_of_ble_eq_true rfl, by exact Nat.le_of_ble_eq_true rfl⟩) (j_preS hK hSX hG) rfl rfl hl.1 rfl (lv_room (Nat.le_of_ble_eq_true rfl)) dX10_append_83 ⟨by exact Nat.le_of_ble_eq_true rfl, by exact Nat.le_of_ble_eq_true rfl⟩) hG (c2 := 0) (s2 := 0) ⟨by exact Nat.le_of_ble_eq_true rfl, by exact Nat.le_of_ble_eq_true rfl⟩ (fun M14 h H locs hG => ?_)
            obtain ⟨h, eM14⟩ := h
            rw [eM14] at hG
            refine lv_bipush (v := J 24) hx hb dX10_append_86 (by decide) ?_
            refine lv_istore_n (lv' := [(3, .int (J 24)), (0, .ref (rA o a0)), (1, .int (J a1))]) hx hb dX10_append_88 rfl hl (by decide) rfl (fun ls hl => ?_)
            obtain ⟨I17, ⟨n18s, iI17⟩, qI17⟩ := h
            have lI17 : ∀ (n18 : Nat) (x15 : Int) (M16 : jT), I17 n18 x15 M16 → ∀ (H : Heap) (locs : List Loc), GM D cy o M16 s.heap H locs → ∀ ls : Array Slot, lv_has ls 5 [(0, .ref (rA o a0)), (1, .int (J a1)), (3, .int (J x15))] → W p l e rm_X10_append s m args below meth c H locs 0 0 Qf (F0 m 89 ls []) := by
              intro n18
              induction n18 using Nat.strongRecOn with
              | ind n18 rI17 =>
                intro x15 M16 iI17 H locs hG ls hl
                have h := qI17 n18 x15 M16 iI17
                refine lv_iload_n hx hb dX10_append_89 rfl (lv_at hl 2 rfl) ?_
                obtain ⟨g20, h⟩ := h
                refine j_if_lt (tgt := 114) hx hb dX10_append_90 (by decide) g20 (fun c19 => ?_) (fun c19 => ?_)
                · have h := h.1 c19
                  refine lv_aload_n hx hb dX10_append_114 rfl (lv_at hl 0 rfl) ?_
                  refine j_getr hx hb hts hown hK hG (k := a0) (fun w h => List.mem_cons_of_mem _ (u_X10 w h)) (ci := 9) rfl ka0 5 (k2 := a0 + 601) (by decide) (by show a0 + (601 : Int) = a0 + 601; omega) w_fl_RX10_47 dX10_append_115 ?_
                  refine j_geti hx hb hts hown hK hG (k := a0 + 601) (fun w h => List.mem_cons_of_mem _ (u_X6 w h)) (ci := 5) rfl (kf_10_5 ka0) 0 (by decide) (jz := 0) rfl w_fl_RX10_378 dX10_append_118 ?_
                  rw [hQf]
                  exact vx_ret (j_ireti hx hb hr hlocks hG h (by decide) dX10_append_121)
                · have h := h.2 c19
                  refine lv_aload_n hx hb dX10_append_93 rfl (lv_at hl 0 rfl) ?_
                  refine j_getr hx hb hts hown hK hG (k := a0) (fun w h => List.mem_cons_of_mem _ (u_X10 w h)) (ci := 9) rfl ka0 5 (k2 := a0 + 601) (by decide) (by show a0 + (601 : Int) = a0 + 601; omega) w_fl_RX10_47 dX10_append_94 ?_
                  refine lv_iload_n hx hb dX10_append_97 rfl (lv_at hl 1 rfl) ?_
                  refine lv_iload_n hx hb dX10_append_98 rfl (lv_at hl 2 rfl) ?_
                  obtain ⟨g21, h⟩ := h
                  obtain ⟨g22, h⟩ := h
                  refine j_ishr hx hb x15.toNat (by omega) dX10_append_99 g22 (by omega) ?_
                  refine lv_sipush (v := J 255) hx hb dX10_append_100 (by decide) ?_
                  refine j_iand hx hb 8 (by decide) dX10_append_103 (by decide) ?_
                  obtain ⟨g23, h⟩ := h
                  refine j_i2c hx hb dX10_append_104 g23 ?_
                  refine j_contv (va_runV (As := [.int (J ((a1 / 2 ^ x15.toNat) % 256))]) (rest := []) ⟨hx, hb, hml, hown, hts⟩ (A_X6_put l (kf_10_5 ka0) h) (cwV 1 hts (gj_V ml_RX10_381 i_X6_put s_X6_put n_RX6 k_X6_put) rfl rfl rfl (by decide +kernel) ⟨by exact Nat.le_of_ble_eq_true rfl, by exact Nat.le_of_ble_eq_true rfl⟩) (j_preV hK hSX hG (ci := 5) rfl (kf_10_5 ka0) (by decide)) rfl rfl hl.1 rfl (lv_room (Nat.le_of_ble_eq_true rfl)) dX10_append_105 ⟨by exact Nat.le_of_ble_eq_true rfl, by exact Nat.le_of_ble_eq_true rfl⟩) hG (c2 := 0) (s2 := 0) ⟨by exact Nat.le_of_ble_eq_true rfl, by exact Nat.le_of_ble_eq_true rfl⟩ (fun M25 h H locs hG => ?_)
                  refine j_iinc hx hb dX10_append_108 hl (k := 2) rfl (by decide) (fun x26 ex26 ls hl => ?_)
                  have h := h x26 ex26
                  have hl : lv_has ls 5 [(3, .int (J x26)), (0, .ref (rA o a0)), (1, .int (J a1))] := hl
                  refine lv_goto (tgt := 89) hx hb dX10_append_111 (by decide) ?_
                  obtain ⟨n27, ln27, iI17⟩ := h
                  exact rI17 n27 ln27 x26 M25 iI17 H locs hG ls (lv_sub hl [1, 2, 0] rfl)
            exact lI17 n18s 24 M iI17 H locs hG ls (lv_sub hl [1, 2, 0] rfl)
          · refine j_contxv (vx_runS (As := [.int (J x9)]) (rest := []) ⟨hx, hb, hml, hown, hts⟩ (A_X10_refuse l hst h) (va_cwS 1 hts (gj_S ml_RX10_107 i_X10_refuse n_RX10 k_X10_refuse) rfl rfl rfl (by decide +kernel) ⟨by exact Nat.le_of_ble_eq_true rfl, by exact Nat.le_of_ble_eq_true rfl⟩) (j_preS hK hSX hG) rfl rfl hl.1 rfl (lv_room (Nat.le_of_ble_eq_true rfl)) dX10_append_83 ⟨by exact Nat.le_of_ble_eq_true rfl, by exact Nat.le_of_ble_eq_true rfl⟩) hG (c2 := 1) (s2 := 6) ⟨by exact Nat.le_of_ble_eq_true rfl, by exact Nat.le_of_ble_eq_true rfl⟩ (fun x M h ce q H locs hG h1 h2 h3 => ?_) (fun M h H locs hG => h.elim)
            rw [hQf]
            exact j_xout hlocks hout hG h h1 h2 h3 (by decide)
        have h := hg
        obtain ⟨g12, h⟩ := h
        refine j_icmp_gt (tgt := 82) hx hb dX10_append_75 (by decide) g12 (by decide) (fun c11 => ?_) (fun c11 => ?_)
        · have h := h.1 c11
          refine lv_iconst (v := J 3) hx hb dX10_append_82 (by decide) ?_
          exact jK10 3 (fun _ => rfl) (fun q => absurd q (by omega)) H locs hG ls (lv_sub hl [0, 1] rfl)
        · have h := h.2 c11
          refine lv_iconst (v := J 0) hx hb dX10_append_78 (by decide) ?_
          refine lv_goto (tgt := 83) hx hb dX10_append_79 (by decide) ?_
          exact jK10 0 (fun q => absurd q (by omega)) (fun _ => rfl) H locs hG ls (lv_sub hl [0, 1] rfl)
      · have h := h.2 c5
        refine lv_iload_n hx hb dX10_append_9 rfl (lv_at hl 1 rfl) ?_
        refine lv_iload_n hx hb dX10_append_10 rfl (lv_at hl 3 rfl) ?_
        obtain ⟨g28, h⟩ := h
        obtain ⟨g29, h⟩ := h
        refine j_ishr hx hb x2.toNat (by omega) dX10_append_11 g29 (by omega) ?_
        refine lv_sipush (v := J 255) hx hb dX10_append_12 (by decide) ?_
        refine j_iand hx hb 8 (by decide) dX10_append_15 (by decide) ?_
        refine j_topi (fun x30 ex30 => ?_)
        have h := h x30 ex30
        refine lv_istore (lv' := [(4, .int (J x30)), (0, .ref (rA o a0)), (1, .int (J a1)), (2, .int (J x1)), (3, .int (J x2))]) hx hb dX10_append_16 hl (by decide) rfl (fun ls hl => ?_)
        refine lv_iload hx hb dX10_append_18 (lv_at hl 0 rfl) ?_
        obtain ⟨K47, hK47, h⟩ := h
        have jK47 : ∀ (x46 : Int), K47 x46 → ∀ (H : Heap) (locs : List Loc), GM D cy o M s.heap H locs → ∀ ls : Array Slot, lv_has ls 5 [(0, .ref (rA o a0)), (1, .int (J a1)), (2, .int (J x1)), (3, .int (J x2)), (4, .int (J x30))] → W p l e rm_X10_append s m args below meth c H locs 0 0 Qf (F0 m 42 ls [.int (J x46)]) := by
          intro x46 hcK47 H locs hG ls hl
          have h := hK47 x46 hcK47
          rcases h with h | h
          · refine j_contv (va_runS (As := [.int (J x46)]) (rest := []) ⟨hx, hb, hml, hown, hts⟩ (Ao_X10_needArgument l h) (va_cwS 1 hts (gj_S ml_RX10_72 i_X10_needArgument n_RX10 k_X10_needArgument) rfl rfl rfl (by decide +kernel) ⟨by exact Nat.le_of_ble_eq_true rfl, by exact Nat.le_of_ble_eq_true rfl⟩) (j_preS hK hSX hG) rfl rfl hl.1 rfl (lv_room (Nat.le_of_ble_eq_true rfl)) dX10_append_42 ⟨by exact Nat.le_of_ble_eq_true rfl, by exact Nat.le_of_ble_eq_true rfl⟩) hG (c2 := 0) (s2 := 0) ⟨by exact Nat.le_of_ble_eq_true rfl, by exact Nat.le_of_ble_eq_true rfl⟩ (fun M49 h H locs hG => ?_)
            obtain ⟨h, eM49⟩ := h
            rw [eM49] at hG
            refine lv_iload_n hx hb dX10_append_45 rfl (lv_at hl 2 rfl) ?_
            refine lv_iload hx hb dX10_append_46 (lv_at hl 4 rfl) ?_
            obtain ⟨hg, h⟩ := h
            have jK53 : ∀ x52 : Int, x52 = b2i (x30 ≠ 0) → ∀ (H : Heap) (locs : List Loc), GM D cy o M s.heap H locs → ∀ ls : Array Slot, lv_has ls 5 [(0, .ref (rA o a0)), (1, .int (J a1)), (3, .int (J x2))] → W p l e rm_X10_append s m args below meth c H locs 0 0 Qf (F0 m 56 ls [.int (J x52), .int (J x1)]) := by
              intro x52 ex52 H locs hG ls hl
              subst ex52
              refine j_iadd hx hb dX10_append_56 ?_
              refine j_topi (fun x56 ex56 => ?_)
              have h := h x56 ex56
              refine lv_istore_n (lv' := [(2, .int (J x56)), (0, .ref (rA o a0)), (1, .int (J a1)), (3, .int (J x2))]) hx hb dX10_append_57 rfl hl (by decide) rfl (fun ls hl => ?_)
              refine j_iinc hx hb dX10_append_58 hl (k := 3) rfl (by decide) (fun x57 ex57 ls hl => ?_)
              have h := h x57 ex57
              have hl : lv_has ls 5 [(3, .int (J x57)), (2, .int (J x56)), (0, .ref (rA o a0)), (1, .int (J a1))] := hl
              refine lv_goto (tgt := 5) hx hb dX10_append_61 (by decide) ?_
              obtain ⟨n58, ln58, iI3⟩ := h
              exact rI3 n58 ln58 x56 x57 iI3 H locs hG ls (lv_sub hl [2, 3, 1, 0] rfl)
            have h := hg
            obtain ⟨g55, h⟩ := h
            refine j_if_ne (tgt := 55) hx hb dX10_append_48 (by decide) g55 (fun c54 => ?_) (fun c54 => ?_)
            · have h := h.1 c54
              refine lv_iconst (v := J 1) hx hb dX10_append_55 (by decide) ?_
              exact jK53 1 (b2i_iff1 (iff_of_true c54 trivial)) H locs hG ls (lv_sub hl [0, 1, 3] rfl)
            · have h := h.2 c54
              refine lv_iconst (v := J 0) hx hb dX10_append_51 (by decide) ?_
              refine lv_goto (tgt := 56) hx hb dX10_append_52 (by decide) ?_
              exact jK53 0 (b2i_iff0 (iff_of_false (show ¬ (x30 ≠ 0) from by omega) id)) H locs hG ls (lv_sub hl [0, 1, 3] rfl)
          · refine j_contxv (vx_runS (As := [.int (J x46)]) (rest := []) ⟨hx, hb, hml, hown, hts⟩ (A_X10_needArgument l hst h) (va_cwS 1 hts (gj_S ml_RX10_72 i_X10_needArgument n_RX10 k_X10_needArgument) rfl rfl rfl (by decide +kernel) ⟨by exact Nat.le_of_ble_eq_true rfl, by exact Nat.le_of_ble_eq_true rfl⟩) (j_preS hK hSX hG) rfl rfl hl.1 rfl (lv_room (Nat.le_of_ble_eq_true rfl)) dX10_append_42 ⟨by exact Nat.le_of_ble_eq_true rfl, by exact Nat.le_of_ble_eq_true rfl⟩) hG (c2 := 1) (s2 := 6) ⟨by exact Nat.le_of_ble_eq_true rfl, by exact Nat.le_of_ble_eq_true rfl⟩ (fun x M h ce q H locs hG h1 h2 h3 => ?_) (fun M h H locs hG => h.elim)
            rw [hQf]
            exact j_xout hlocks hout hG h h1 h2 h3 (by decide)
        obtain ⟨K66, hK66, h⟩ := h
        have jK66 : K66 → ∀ (H : Heap) (locs : List Loc), GM D cy o M s.heap H locs → ∀ ls : Array Slot, lv_has ls 5 [(0, .ref (rA o a0)), (1, .int (J a1)), (2, .int (J x1)), (3, .int (J x2)), (4, .int (J x30))] → W p l e rm_X10_append s m args below meth c H locs 0 0 Qf (F0 m 37 ls []) := by
          intro hcK66 H locs hG ls hl
          have h := hK66 hcK66
          refine lv_iconst (v := J 1) hx hb dX10_append_37 (by decide) ?_
          refine lv_goto (tgt := 42) hx hb dX10_append_38 (by decide) ?_
          exact jK47 1 h H locs hG ls (lv_sub hl [0, 1, 2, 3, 4] rfl)
        obtain ⟨g68, h⟩ := h
        refine j_if_eq (tgt := 37) hx hb dX10_append_20 (by decide) g68 (fun c67 => ?_) (fun c67 => ?_)
        · have h := h.1 c67
          exact jK66 h H locs hG ls (lv_sub hl [1, 2, 3, 4, 0] rfl)
        · have h := h.2 c67
          refine lv_iload hx hb dX10_append_23 (lv_at hl 0 rfl) ?_
          refine lv_bipush (v := J 33) hx hb dX10_append_25 (by decide) ?_
          obtain ⟨K71, hK71, h⟩ := h
          have jK71 : K71 → ∀ (H : Heap) (locs : List Loc), GM D cy o M s.heap H locs → ∀ ls : Array Slot, lv_has ls 5 [(0, .ref (rA o a0)), (1, .int (J a1)), (2, .int (J x1)), (3, .int (J x2)), (4, .int (J x30))] → W p l e rm_X10_append s m args below meth c H locs 0 0 Qf (F0 m 41 ls []) := by
            intro hcK71 H locs hG ls hl
            have h := hK71 hcK71
            refine lv_iconst (v := J 0) hx hb dX10_append_41 (by decide) ?_
            exact jK47 0 h H locs hG ls (lv_sub hl [0, 1, 2, 3, 4] rfl)
          refine j_icmp_lt (tgt := 41) hx hb dX10_append_27 (by decide) g68 (by decide) (fun c72 => ?_) (fun c72 => ?_)
          · have h := h.1 c72
            exact jK71 h H locs hG ls (lv_sub hl [1, 2, 3, 4, 0] rfl)
          · have h := h.2 c72
            refine lv_iload hx hb dX10_append_30 (lv_at hl 0 rfl) ?_
            refine lv_bipush (v := J 126) hx hb dX10_append_32 (by decide) ?_
            refine j_icmp_gt (tgt := 41) hx hb dX10_append_34 (by decide) g68 (by decide) (fun c73 => ?_) (fun c73 => ?_)
            · have h := h.1 c73
              exact jK71 h H locs hG ls (lv_sub hl [1, 2, 3, 4, 0] rfl)
            · have h := h.2 c73
              exact jK66 h H locs hG ls (lv_sub hl [1, 2, 3, 4, 0] rfl)
  exact lI3 n4s 0 24 iI3 H locs hG ls (lv_sub hl [2, 3, 1, 0] rfl)
