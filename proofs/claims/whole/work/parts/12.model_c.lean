abbrev rm_X11_offset : Room := { frames := 5, cells := 0, slots := 0, locals := 123 }
set_option maxRecDepth 100000 in
set_option maxHeartbeats 4000000 in
theorem A_X11_offset (l : Launch) {D : va_G} {cy : Nat → ClassId} {o : Nat} {sK sV : Nat → Nat} {M : jT} {a0 : Int} {a1 : Int} {a2 : Int} (ka0 : kd a0 = 11) {Q : Int → jT → Prop} (h : wp_X11_offset M a0 a1 a2 Q) : CoI l yX11_offset (wj yX11_offset cX11_offset 3 (some .int)) rm_X11_offset D cy o sK sV M [.ref (rA o a0), .int (J a1), .int (J a2)] Q := by
  refine j_ofW (cc := cX11_offset) (maxL := 3) (ret := (some .int)) (by decide) rfl (Nat.le_of_ble_eq_true rfl) ?_
  intro p e s m args below meth c hx hb hr hlocks hml hown hts hK hSX H locs hG ls hl Qf hQf
  have hown : s.vm.findClass RX11 = some m.cls := hown
  have hl : lv_has ls 3 [(0, .ref (rA o a0)), (1, .int (J a1)), (2, .int (J a2))] := hl
  have w_fl_RX11_80 := hts _ (List.mem_cons_of_mem _ fl_RX11_80)
  unfold wp_X11_offset at h
  refine lv_aload_n hx hb dX11_offset_0 rfl (lv_at hl 0 rfl) ?_
  refine lv_iconst (v := J 0) hx hb dX11_offset_1 (by decide) ?_
  refine j_puti hx hb hts hown hK hG (k := a0) (fun w h => List.mem_cons_of_mem _ (u_X11 w h)) tyX11 tyX11_ok nmX11 (ci := 10) rfl ka0 0 (by decide) (jz := 0) rfl w_fl_RX11_80 (hd := rfl) (hn := rfl) (hfit := rfl) (hdg := dX11_offset_2) (fun M1 eM1 H locs hG => ?_)
  have h := h M1 eM1
  refine lv_aload_n hx hb dX11_offset_5 rfl (lv_at hl 0 rfl) ?_
  refine lv_iload_n hx hb dX11_offset_6 rfl (lv_at hl 1 rfl) ?_
  obtain ⟨g2, h⟩ := h
  refine j_conti (va_runV (As := [.int (J a1)]) (rest := []) ⟨hx, hb, hml, hown, hts⟩ (A_X11_isZone l ka0 g2) (cwV 1 hts (gj_V ml_RX11_126 i_X11_isZone s_X11_isZone n_RX11 k_X11_isZone) rfl rfl rfl (by decide +kernel) ⟨by exact Nat.le_of_ble_eq_true rfl, by exact Nat.le_of_ble_eq_true rfl⟩) (j_preV hK hSX hG (ci := 10) rfl ka0 (by decide)) rfl rfl hl.1 rfl (lv_room (Nat.le_of_ble_eq_true rfl)) dX11_offset_7 ⟨by exact Nat.le_of_ble_eq_true rfl, by exact Nat.le_of_ble_eq_true rfl⟩) hG (c2 := 0) (s2 := 0) ⟨by exact Nat.le_of_ble_eq_true rfl, by exact Nat.le_of_ble_eq_true rfl⟩ (fun z3 M4 ez3 H locs hG => ?_)
  obtain ⟨ez3, eM4⟩ := ez3
  subst ez3
  rw [eM4] at hG
  refine j_if_ne_b (tgt := 19) hx hb dX11_offset_10 (by decide) (fun c5 => ?_) (fun c5 => ?_)
  · have h := h.1 c5
    refine lv_iload_n hx hb dX11_offset_19 rfl (lv_at hl 2 rfl) ?_
    obtain ⟨g6, h⟩ := h
    refine j_conti (va_runS (As := [.int (J a2)]) (rest := []) ⟨hx, hb, hml, hown, hts⟩ (A_X11_isInstant l g6) (va_cwS 1 hts (gj_S ml_RX11_203 i_X11_isInstant n_RX11 k_X11_isInstant) rfl rfl rfl (by decide +kernel) ⟨by exact Nat.le_of_ble_eq_true rfl, by exact Nat.le_of_ble_eq_true rfl⟩) (j_preS hK hSX hG) rfl rfl hl.1 rfl (lv_room (Nat.le_of_ble_eq_true rfl)) dX11_offset_20 ⟨by exact Nat.le_of_ble_eq_true rfl, by exact Nat.le_of_ble_eq_true rfl⟩) hG (c2 := 0) (s2 := 0) ⟨by exact Nat.le_of_ble_eq_true rfl, by exact Nat.le_of_ble_eq_true rfl⟩ (fun z7 M8 ez7 H locs hG => ?_)
    obtain ⟨ez7, eM8⟩ := ez7
    subst ez7
    rw [eM8] at hG
    obtain ⟨K16, hK16, h⟩ := h
    have jK16 : ∀ (x14 : Int) (M15 : jT), K16 x14 M15 → ∀ (H : Heap) (locs : List Loc), GM D cy o M15 s.heap H locs → ∀ ls : Array Slot, lv_has ls 3 [] → W p l e rm_X11_offset s m args below meth c H locs 0 0 Qf (F0 m 40 ls [.int (J x14)]) := by
      intro x14 M15 hcK16 H locs hG ls hl
      have h := hK16 x14 M15 hcK16
      rw [hQf]
      exact j_ireti hx hb hr hlocks hG h (by decide) dX11_offset_40
    refine j_if_eq_b (tgt := 35) hx hb dX11_offset_23 (by decide) (fun c17 => ?_) (fun c17 => ?_)
    · have h := h.1 c17
      refine lv_aload_n hx hb dX11_offset_35 rfl (lv_at hl 0 rfl) ?_
      refine lv_iconst (v := J 2) hx hb dX11_offset_36 (by decide) ?_
      refine j_conti (va_runV (As := [.int (J 2)]) (rest := []) ⟨hx, hb, hml, hown, hts⟩ (A_X11_raises l ka0 h) (cwV 1 hts (gj_V ml_RX11_110 i_X11_raises s_X11_raises n_RX11 k_X11_raises) rfl rfl rfl (by decide +kernel) ⟨by exact Nat.le_of_ble_eq_true rfl, by exact Nat.le_of_ble_eq_true rfl⟩) (j_preV hK hSX hG (ci := 10) rfl ka0 (by decide)) rfl rfl hl.1 rfl (lv_room (Nat.le_of_ble_eq_true rfl)) dX11_offset_37 ⟨by exact Nat.le_of_ble_eq_true rfl, by exact Nat.le_of_ble_eq_true rfl⟩) hG (c2 := 0) (s2 := 0) ⟨by exact Nat.le_of_ble_eq_true rfl, by exact Nat.le_of_ble_eq_true rfl⟩ (fun z18 M19 h H locs hG => ?_)
      exact jK16 z18 M19 h H locs hG ls (lv_sub hl [] rfl)
    · have h := h.2 c17
      refine lv_aload_n hx hb dX11_offset_26 rfl (lv_at hl 0 rfl) ?_
      refine lv_iload_n hx hb dX11_offset_27 rfl (lv_at hl 1 rfl) ?_
      refine lv_iload_n hx hb dX11_offset_28 rfl (lv_at hl 2 rfl) ?_
      refine j_conti (va_runV (As := [.int (J a1), .int (J a2)]) (rest := []) ⟨hx, hb, hml, hown, hts⟩ (A_X11_offsetAt l ka0 h) (cwV 2 hts (gj_V ml_RX11_206 i_X11_offsetAt s_X11_offsetAt n_RX11 k_X11_offsetAt) rfl rfl rfl (by decide +kernel) ⟨by exact Nat.le_of_ble_eq_true rfl, by exact Nat.le_of_ble_eq_true rfl⟩) (j_preV hK hSX hG (ci := 10) rfl ka0 (by decide)) rfl rfl hl.1 rfl (lv_room (Nat.le_of_ble_eq_true rfl)) dX11_offset_29 ⟨by exact Nat.le_of_ble_eq_true rfl, by exact Nat.le_of_ble_eq_true rfl⟩) hG (c2 := 0) (s2 := 0) ⟨by exact Nat.le_of_ble_eq_true rfl, by exact Nat.le_of_ble_eq_true rfl⟩ (fun z20 M21 h H locs hG => ?_)
      refine lv_goto (tgt := 40) hx hb dX11_offset_32 (by decide) ?_
      exact jK16 z20 M21 h H locs hG ls (lv_sub hl [] rfl)
  · have h := h.2 c5
    refine lv_aload_n hx hb dX11_offset_13 rfl (lv_at hl 0 rfl) ?_
    refine lv_iconst (v := J 1) hx hb dX11_offset_14 (by decide) ?_
    refine j_conti (va_runV (As := [.int (J 1)]) (rest := []) ⟨hx, hb, hml, hown, hts⟩ (A_X11_raises l ka0 h) (cwV 1 hts (gj_V ml_RX11_110 i_X11_raises s_X11_raises n_RX11 k_X11_raises) rfl rfl rfl (by decide +kernel) ⟨by exact Nat.le_of_ble_eq_true rfl, by exact Nat.le_of_ble_eq_true rfl⟩) (j_preV hK hSX hG (ci := 10) rfl ka0 (by decide)) rfl rfl hl.1 rfl (lv_room (Nat.le_of_ble_eq_true rfl)) dX11_offset_15 ⟨by exact Nat.le_of_ble_eq_true rfl, by exact Nat.le_of_ble_eq_true rfl⟩) hG (c2 := 0) (s2 := 0) ⟨by exact Nat.le_of_ble_eq_true rfl, by exact Nat.le_of_ble_eq_true rfl⟩ (fun z22 M23 h H locs hG => ?_)
    rw [hQf]
    exact j_ireti hx hb hr hlocks hG h (by decide) dX11_offset_18

abbrev rm_X11_offsetAgain : Room := { frames := 5, cells := 0, slots := 0, locals := 123 }
set_option maxRecDepth 100000 in
set_option maxHeartbeats 4000000 in
theorem A_X11_offsetAgain (l : Launch) {D : va_G} {cy : Nat → ClassId} {o : Nat} {sK sV : Nat → Nat} {M : jT} {a0 : Int} {a1 : Int} {a2 : Int} (ka0 : kd a0 = 11) {Q : Int → jT → Prop} (h : wp_X11_offsetAgain M a0 a1 a2 Q) : CoI l yX11_offsetAgain (wj yX11_offsetAgain cX11_offsetAgain 3 (some .int)) rm_X11_offsetAgain D cy o sK sV M [.ref (rA o a0), .int (J a1), .int (J a2)] Q := by
  refine j_ofW (cc := cX11_offsetAgain) (maxL := 3) (ret := (some .int)) (by decide) rfl (Nat.le_of_ble_eq_true rfl) ?_
  intro p e s m args below meth c hx hb hr hlocks hml hown hts hK hSX H locs hG ls hl Qf hQf
  have hown : s.vm.findClass RX11 = some m.cls := hown
  have hl : lv_has ls 3 [(0, .ref (rA o a0)), (1, .int (J a1)), (2, .int (J a2))] := hl
  have w_fl_RX11_80 := hts _ (List.mem_cons_of_mem _ fl_RX11_80)
  unfold wp_X11_offsetAgain at h
  refine lv_aload_n hx hb dX11_offsetAgain_0 rfl (lv_at hl 0 rfl) ?_
  refine lv_iconst (v := J 0) hx hb dX11_offsetAgain_1 (by decide) ?_
  refine j_puti hx hb hts hown hK hG (k := a0) (fun w h => List.mem_cons_of_mem _ (u_X11 w h)) tyX11 tyX11_ok nmX11 (ci := 10) rfl ka0 0 (by decide) (jz := 0) rfl w_fl_RX11_80 (hd := rfl) (hn := rfl) (hfit := rfl) (hdg := dX11_offsetAgain_2) (fun M1 eM1 H locs hG => ?_)
  have h := h M1 eM1
  refine lv_aload_n hx hb dX11_offsetAgain_5 rfl (lv_at hl 0 rfl) ?_
  refine lv_iload_n hx hb dX11_offsetAgain_6 rfl (lv_at hl 1 rfl) ?_
  obtain ⟨g2, h⟩ := h
  refine j_conti (va_runV (As := [.int (J a1)]) (rest := []) ⟨hx, hb, hml, hown, hts⟩ (A_X11_isZone l ka0 g2) (cwV 1 hts (gj_V ml_RX11_126 i_X11_isZone s_X11_isZone n_RX11 k_X11_isZone) rfl rfl rfl (by decide +kernel) ⟨by exact Nat.le_of_ble_eq_true rfl, by exact Nat.le_of_ble_eq_true rfl⟩) (j_preV hK hSX hG (ci := 10) rfl ka0 (by decide)) rfl rfl hl.1 rfl (lv_room (Nat.le_of_ble_eq_true rfl)) dX11_offsetAgain_7 ⟨by exact Nat.le_of_ble_eq_true rfl, by exact Nat.le_of_ble_eq_true rfl⟩) hG (c2 := 0) (s2 := 0) ⟨by exact Nat.le_of_ble_eq_true rfl, by exact Nat.le_of_ble_eq_true rfl⟩ (fun z3 M4 ez3 H locs hG => ?_)
  obtain ⟨ez3, eM4⟩ := ez3
  subst ez3
  rw [eM4] at hG
  refine j_if_ne_b (tgt := 19) hx hb dX11_offsetAgain_10 (by decide) (fun c5 => ?_) (fun c5 => ?_)
  · have h := h.1 c5
    refine lv_iload_n hx hb dX11_offsetAgain_19 rfl (lv_at hl 2 rfl) ?_
    obtain ⟨g6, h⟩ := h
    refine j_conti (va_runS (As := [.int (J a2)]) (rest := []) ⟨hx, hb, hml, hown, hts⟩ (A_X11_isInstant l g6) (va_cwS 1 hts (gj_S ml_RX11_203 i_X11_isInstant n_RX11 k_X11_isInstant) rfl rfl rfl (by decide +kernel) ⟨by exact Nat.le_of_ble_eq_true rfl, by exact Nat.le_of_ble_eq_true rfl⟩) (j_preS hK hSX hG) rfl rfl hl.1 rfl (lv_room (Nat.le_of_ble_eq_true rfl)) dX11_offsetAgain_20 ⟨by exact Nat.le_of_ble_eq_true rfl, by exact Nat.le_of_ble_eq_true rfl⟩) hG (c2 := 0) (s2 := 0) ⟨by exact Nat.le_of_ble_eq_true rfl, by exact Nat.le_of_ble_eq_true rfl⟩ (fun z7 M8 ez7 H locs hG => ?_)
    obtain ⟨ez7, eM8⟩ := ez7
    subst ez7
    rw [eM8] at hG
    obtain ⟨K16, hK16, h⟩ := h
    have jK16 : ∀ (x14 : Int) (M15 : jT), K16 x14 M15 → ∀ (H : Heap) (locs : List Loc), GM D cy o M15 s.heap H locs → ∀ ls : Array Slot, lv_has ls 3 [] → W p l e rm_X11_offsetAgain s m args below meth c H locs 0 0 Qf (F0 m 40 ls [.int (J x14)]) := by
      intro x14 M15 hcK16 H locs hG ls hl
      have h := hK16 x14 M15 hcK16
      rw [hQf]
      exact j_ireti hx hb hr hlocks hG h (by decide) dX11_offsetAgain_40
    refine j_if_eq_b (tgt := 35) hx hb dX11_offsetAgain_23 (by decide) (fun c17 => ?_) (fun c17 => ?_)
    · have h := h.1 c17
      refine lv_aload_n hx hb dX11_offsetAgain_35 rfl (lv_at hl 0 rfl) ?_
      refine lv_iconst (v := J 2) hx hb dX11_offsetAgain_36 (by decide) ?_
      refine j_conti (va_runV (As := [.int (J 2)]) (rest := []) ⟨hx, hb, hml, hown, hts⟩ (A_X11_raises l ka0 h) (cwV 1 hts (gj_V ml_RX11_110 i_X11_raises s_X11_raises n_RX11 k_X11_raises) rfl rfl rfl (by decide +kernel) ⟨by exact Nat.le_of_ble_eq_true rfl, by exact Nat.le_of_ble_eq_true rfl⟩) (j_preV hK hSX hG (ci := 10) rfl ka0 (by decide)) rfl rfl hl.1 rfl (lv_room (Nat.le_of_ble_eq_true rfl)) dX11_offsetAgain_37 ⟨by exact Nat.le_of_ble_eq_true rfl, by exact Nat.le_of_ble_eq_true rfl⟩) hG (c2 := 0) (s2 := 0) ⟨by exact Nat.le_of_ble_eq_true rfl, by exact Nat.le_of_ble_eq_true rfl⟩ (fun z18 M19 h H locs hG => ?_)
      exact jK16 z18 M19 h H locs hG ls (lv_sub hl [] rfl)
    · have h := h.2 c17
      refine lv_aload_n hx hb dX11_offsetAgain_26 rfl (lv_at hl 0 rfl) ?_
      refine lv_iload_n hx hb dX11_offsetAgain_27 rfl (lv_at hl 1 rfl) ?_
      refine lv_iload_n hx hb dX11_offsetAgain_28 rfl (lv_at hl 2 rfl) ?_
      refine j_conti (va_runV (As := [.int (J a1), .int (J a2)]) (rest := []) ⟨hx, hb, hml, hown, hts⟩ (A_X11_offsetAt l ka0 h) (cwV 2 hts (gj_V ml_RX11_206 i_X11_offsetAt s_X11_offsetAt n_RX11 k_X11_offsetAt) rfl rfl rfl (by decide +kernel) ⟨by exact Nat.le_of_ble_eq_true rfl, by exact Nat.le_of_ble_eq_true rfl⟩) (j_preV hK hSX hG (ci := 10) rfl ka0 (by decide)) rfl rfl hl.1 rfl (lv_room (Nat.le_of_ble_eq_true rfl)) dX11_offsetAgain_29 ⟨by exact Nat.le_of_ble_eq_true rfl, by exact Nat.le_of_ble_eq_true rfl⟩) hG (c2 := 0) (s2 := 0) ⟨by exact Nat.le_of_ble_eq_true rfl, by exact Nat.le_of_ble_eq_true rfl⟩ (fun z20 M21 h H locs hG => ?_)
      refine lv_goto (tgt := 40) hx hb dX11_offsetAgain_32 (by decide) ?_
      exact jK16 z20 M21 h H locs hG ls (lv_sub hl [] rfl)
  · have h := h.2 c5
    refine lv_aload_n hx hb dX11_offsetAgain_13 rfl (lv_at hl 0 rfl) ?_
    refine lv_iconst (v := J 1) hx hb dX11_offsetAgain_14 (by decide) ?_
    refine j_conti (va_runV (As := [.int (J 1)]) (rest := []) ⟨hx, hb, hml, hown, hts⟩ (A_X11_raises l ka0 h) (cwV 1 hts (gj_V ml_RX11_110 i_X11_raises s_X11_raises n_RX11 k_X11_raises) rfl rfl rfl (by decide +kernel) ⟨by exact Nat.le_of_ble_eq_true rfl, by exact Nat.le_of_ble_eq_true rfl⟩) (j_preV hK hSX hG (ci := 10) rfl ka0 (by decide)) rfl rfl hl.1 rfl (lv_room (Nat.le_of_ble_eq_true rfl)) dX11_offsetAgain_15 ⟨by exact Nat.le_of_ble_eq_true rfl, by exact Nat.le_of_ble_eq_true rfl⟩) hG (c2 := 0) (s2 := 0) ⟨by exact Nat.le_of_ble_eq_true rfl, by exact Nat.le_of_ble_eq_true rfl⟩ (fun z22 M23 h H locs hG => ?_)
    rw [hQf]
    exact j_ireti hx hb hr hlocks hG h (by decide) dX11_offsetAgain_18

abbrev rm_X11_isLocal : Room := { frames := 1, cells := 0, slots := 0, locals := 22 }
set_option maxRecDepth 100000 in
set_option maxHeartbeats 4000000 in
theorem A_X11_isLocal (l : Launch) {D : va_G} {cy : Nat → ClassId} {o : Nat} {sK sV : Nat → Nat} {M : jT} {a0 : Int} (h : pg_X11_isLocal a0) : CoI l yX11_isLocal (wj yX11_isLocal cX11_isLocal 1 (some .boolean)) rm_X11_isLocal D cy o sK sV M [.int (J a0)] (fun z M9 => z = b2i (pb_X11_isLocal a0) ∧ M9 = M) := by
  refine j_ofW (cc := cX11_isLocal) (maxL := 1) (ret := (some .boolean)) (by decide) rfl (Nat.le_of_ble_eq_true rfl) ?_
  intro p e s m args below meth c hx hb hr hlocks hml hown hts hK hSX H locs hG ls hl Qf hQf
  have hown : s.vm.findClass RX11 = some m.cls := hown
  have hl : lv_has ls 1 [(0, .int (J a0))] := hl
  have w_ck_RX11_209 := hts _ (List.mem_cons_of_mem _ ck_RX11_209)
  unfold pg_X11_isLocal at h
  refine lv_iload_n hx hb dX11_isLocal_0 rfl (lv_at hl 0 rfl) ?_
  refine lv_iconst (v := J 0) hx hb dX11_isLocal_1 (by decide) ?_
  refine lv_ldc (v := J 16830719) hx hb hown (show (Cond.constant RX11 209 (J 16830719)).before args s = true from w_ck_RX11_209) dX11_isLocal_2 ?_
  obtain ⟨g1, h⟩ := h
  refine j_conti (va_runS (As := [.int (J a0), .int (J 0), .int (J 16830719)]) (rest := []) ⟨hx, hb, hml, hown, hts⟩ (A_X11_in l g1) (va_cwS 3 hts (gj_S ml_RX11_106 i_X11_in n_RX11 k_X11_in) rfl rfl rfl (by decide +kernel) ⟨by exact Nat.le_of_ble_eq_true rfl, by exact Nat.le_of_ble_eq_true rfl⟩) (j_preS hK hSX hG) rfl rfl hl.1 rfl (lv_room (Nat.le_of_ble_eq_true rfl)) dX11_isLocal_4 ⟨by exact Nat.le_of_ble_eq_true rfl, by exact Nat.le_of_ble_eq_true rfl⟩) hG (c2 := 0) (s2 := 0) ⟨by exact Nat.le_of_ble_eq_true rfl, by exact Nat.le_of_ble_eq_true rfl⟩ (fun z2 M3 ez2 H locs hG => ?_)
  obtain ⟨ez2, eM3⟩ := ez2
  subst ez2
  rw [eM3] at hG
  rw [hQf]
  exact j_iretn hx hb hr hlocks (nar_b (b2i_rng _)) hG ⟨(b2i_iff Iff.rfl), rfl⟩ (by decide) dX11_isLocal_7

abbrev rm_X11_finds : Room := { frames := 4, cells := 0, slots := 0, locals := 100 }
set_option maxRecDepth 100000 in
set_option maxHeartbeats 4000000 in
theorem A_X11_finds (l : Launch) {D : va_G} {cy : Nat → ClassId} {o : Nat} {sK sV : Nat → Nat} {M : jT} {a0 : Int} {a1 : Int} {a2 : Int} (ka0 : kd a0 = 11) {Q : jT → Prop} (h : wp_X11_finds M a0 a1 a2 Q) : CoV l yX11_finds (wj yX11_finds cX11_finds 5 none) rm_X11_finds D cy o sK sV M [.ref (rA o a0), .int (J a1), .int (J a2)] Q := by
  refine j_ofW (cc := cX11_finds) (maxL := 5) (ret := none) (by decide) rfl (Nat.le_of_ble_eq_true rfl) ?_
  intro p e s m args below meth c hx hb hr hlocks hml hown hts hK hSX H locs hG ls hl Qf hQf
  have hown : s.vm.findClass RX11 = some m.cls := hown
  have hl : lv_has ls 5 [(0, .ref (rA o a0)), (1, .int (J a1)), (2, .int (J a2))] := hl
  have w_fl_RX11_210 := hts _ (List.mem_cons_of_mem _ fl_RX11_210)
  have w_fl_RX11_181 := hts _ (List.mem_cons_of_mem _ fl_RX11_181)
  have w_fl_RX11_44 := hts _ (List.mem_cons_of_mem _ fl_RX11_44)
  have w_fl_RX11_213 := hts _ (List.mem_cons_of_mem _ fl_RX11_213)
  have w_fl_RX11_216 := hts _ (List.mem_cons_of_mem _ fl_RX11_216)
  unfold wp_X11_finds at h
  refine lv_aload_n hx hb dX11_finds_0 rfl (lv_at hl 0 rfl) ?_
  refine lv_iload_n hx hb dX11_finds_1 rfl (lv_at hl 1 rfl) ?_
  refine j_contv (va_runV (As := [.int (J a1)]) (rest := []) ⟨hx, hb, hml, hown, hts⟩ (A_X11_compiles l ka0 h) (cwV 1 hts (gj_V ml_RX11_187 i_X11_compiles s_X11_compiles n_RX11 k_X11_compiles) rfl rfl rfl (by decide +kernel) ⟨by exact Nat.le_of_ble_eq_true rfl, by exact Nat.le_of_ble_eq_true rfl⟩) (j_preV hK hSX hG (ci := 10) rfl ka0 (by decide)) rfl rfl hl.1 rfl (lv_room (Nat.le_of_ble_eq_true rfl)) dX11_finds_2 ⟨by exact Nat.le_of_ble_eq_true rfl, by exact Nat.le_of_ble_eq_true rfl⟩) hG (c2 := 0) (s2 := 0) ⟨by exact Nat.le_of_ble_eq_true rfl, by exact Nat.le_of_ble_eq_true rfl⟩ (fun M2 h H locs hG => ?_)
  refine lv_aload_n hx hb dX11_finds_5 rfl (lv_at hl 0 rfl) ?_
  refine lv_iconst (v := J 0) hx hb dX11_finds_6 (by decide) ?_
  refine j_puti hx hb hts hown hK hG (k := a0) (fun w h => List.mem_cons_of_mem _ (u_X11 w h)) tyX11 tyX11_ok nmX11 (ci := 10) rfl ka0 30 (by decide) (jz := 30) rfl w_fl_RX11_210 (hd := rfl) (hn := rfl) (hfit := rfl) (hdg := dX11_finds_7) (fun M3 eM3 H locs hG => ?_)
  have h := h M3 eM3
  refine lv_iconst (v := J 0) hx hb dX11_finds_10 (by decide) ?_
  refine lv_istore_n (lv' := [(3, .int (J 0)), (0, .ref (rA o a0)), (1, .int (J a1)), (2, .int (J a2))]) hx hb dX11_finds_11 rfl hl (by decide) rfl (fun ls hl => ?_)
  obtain ⟨I6, ⟨n7s, iI6⟩, qI6⟩ := h
  have lI6 : ∀ (n7 : Nat) (x4 : Int) (M5 : jT), I6 n7 x4 M5 → ∀ (H : Heap) (locs : List Loc), GM D cy o M5 s.heap H locs → ∀ ls : Array Slot, lv_has ls 5 [(0, .ref (rA o a0)), (1, .int (J a1)), (2, .int (J a2)), (3, .int (J x4))] → W p l e rm_X11_finds s m args below meth c H locs 0 0 Qf (F0 m 12 ls []) := by
    intro n7
    induction n7 using Nat.strongRecOn with
    | ind n7 rI6 =>
      intro x4 M5 iI6 H locs hG ls hl
      have h := qI6 n7 x4 M5 iI6
      refine lv_iload_n hx hb dX11_finds_12 rfl (lv_at hl 3 rfl) ?_
      refine lv_aload_n hx hb dX11_finds_13 rfl (lv_at hl 0 rfl) ?_
      refine j_geti hx hb hts hown hK hG (k := a0) (fun w h => List.mem_cons_of_mem _ (u_X11 w h)) (ci := 10) rfl ka0 18 (by decide) (jz := 18) rfl w_fl_RX11_181 dX11_finds_14 ?_
      obtain ⟨g9, h⟩ := h
      obtain ⟨g10, h⟩ := h
      refine j_icmp_gt (tgt := 104) hx hb dX11_finds_17 (by decide) g9 g10 (fun c8 => ?_) (fun c8 => ?_)
      · have h := h.1 c8
        rw [hQf]
        exact j_vret hx hb hr hlocks hG h (by decide) dX11_finds_104
      · have h := h.2 c8
        refine lv_iload_n hx hb dX11_finds_20 rfl (lv_at hl 2 rfl) ?_
        refine lv_aload_n hx hb dX11_finds_21 rfl (lv_at hl 0 rfl) ?_
        refine lv_iload_n hx hb dX11_finds_22 rfl (lv_at hl 1 rfl) ?_
        refine lv_iload_n hx hb dX11_finds_23 rfl (lv_at hl 3 rfl) ?_
        obtain ⟨g11, h⟩ := h
        refine j_conti (va_runV (As := [.int (J a1), .int (J x4)]) (rest := [.int (J a2)]) ⟨hx, hb, hml, hown, hts⟩ (A_X11_offsetIn l ka0 g11) (cwV 2 hts (gj_V ml_RX11_191 i_X11_offsetIn s_X11_offsetIn n_RX11 k_X11_offsetIn) rfl rfl rfl (by decide +kernel) ⟨by exact Nat.le_of_ble_eq_true rfl, by exact Nat.le_of_ble_eq_true rfl⟩) (j_preV hK hSX hG (ci := 10) rfl ka0 (by decide)) rfl rfl hl.1 rfl (lv_room (Nat.le_of_ble_eq_true rfl)) dX11_finds_24 ⟨by exact Nat.le_of_ble_eq_true rfl, by exact Nat.le_of_ble_eq_true rfl⟩) hG (c2 := 0) (s2 := 0) ⟨by exact Nat.le_of_ble_eq_true rfl, by exact Nat.le_of_ble_eq_true rfl⟩ (fun z12 M13 ez12 H locs hG => ?_)
        obtain ⟨ez12, eM13⟩ := ez12
        subst ez12
        rw [eM13] at hG
        refine j_isub hx hb dX11_finds_27 ?_
        refine j_topi (fun x14 ex14 => ?_)
        have h := h x14 ex14
        refine lv_istore (lv' := [(4, .int (J x14)), (0, .ref (rA o a0)), (1, .int (J a1)), (2, .int (J a2)), (3, .int (J x4))]) hx hb dX11_finds_28 hl (by decide) rfl (fun ls hl => ?_)
        refine lv_iload_n hx hb dX11_finds_30 rfl (lv_at hl 4 rfl) ?_
        obtain ⟨K48, hK48, h⟩ := h
        have jK48 : ∀ (M47 : jT), K48 M47 → ∀ (H : Heap) (locs : List Loc), GM D cy o M47 s.heap H locs → ∀ ls : Array Slot, lv_has ls 5 [(0, .ref (rA o a0)), (1, .int (J a1)), (2, .int (J a2)), (3, .int (J x4))] → W p l e rm_X11_finds s m args below meth c H locs 0 0 Qf (F0 m 98 ls []) := by
          intro M47 hcK48 H locs hG ls hl
          have h := hK48 M47 hcK48
          refine j_iinc hx hb dX11_finds_98 hl (k := 3) rfl (by decide) (fun x49 ex49 ls hl => ?_)
          have h := h x49 ex49
          have hl : lv_has ls 5 [(3, .int (J x49)), (0, .ref (rA o a0)), (1, .int (J a1)), (2, .int (J a2))] := hl
          refine lv_goto (tgt := 12) hx hb dX11_finds_101 (by decide) ?_
          obtain ⟨n50, ln50, iI6⟩ := h
          exact rI6 n50 ln50 x49 M47 iI6 H locs hG ls (lv_sub hl [1, 2, 3, 0] rfl)
        obtain ⟨K56, hK56, h⟩ := h
        have jK56 : K56 → ∀ (H : Heap) (locs : List Loc), GM D cy o M5 s.heap H locs → ∀ ls : Array Slot, lv_has ls 5 [(0, .ref (rA o a0)), (1, .int (J a1)), (2, .int (J a2)), (3, .int (J x4)), (4, .int (J x14))] → W p l e rm_X11_finds s m args below meth c H locs 0 0 Qf (F0 m 47 ls []) := by
          intro hcK56 H locs hG ls hl
          have h := hK56 hcK56
          refine lv_iload_n hx hb dX11_finds_47 rfl (lv_at hl 3 rfl) ?_
          refine lv_aload_n hx hb dX11_finds_48 rfl (lv_at hl 0 rfl) ?_
          refine j_geti hx hb hts hown hK hG (k := a0) (fun w h => List.mem_cons_of_mem _ (u_X11 w h)) (ci := 10) rfl ka0 18 (by decide) (jz := 18) rfl w_fl_RX11_181 dX11_finds_49 ?_
          obtain ⟨K62, hK62, h⟩ := h
          have jK62 : K62 → ∀ (H : Heap) (locs : List Loc), GM D cy o M5 s.heap H locs → ∀ ls : Array Slot, lv_has ls 5 [(0, .ref (rA o a0)), (1, .int (J a1)), (2, .int (J a2)), (3, .int (J x4)), (4, .int (J x14))] → W p l e rm_X11_finds s m args below meth c H locs 0 0 Qf (F0 m 69 ls []) := by
            intro hcK62 H locs hG ls hl
            have h := hK62 hcK62
            refine lv_aload_n hx hb dX11_finds_69 rfl (lv_at hl 0 rfl) ?_
            refine j_geti hx hb hts hown hK hG (k := a0) (fun w h => List.mem_cons_of_mem _ (u_X11 w h)) (ci := 10) rfl ka0 30 (by decide) (jz := 30) rfl w_fl_RX11_210 dX11_finds_70 ?_
            obtain ⟨K67, hK67, h⟩ := h
            have jK67 : ∀ (M66 : jT), K67 M66 → ∀ (H : Heap) (locs : List Loc), GM D cy o M66 s.heap H locs → ∀ ls : Array Slot, lv_has ls 5 [(0, .ref (rA o a0)), (1, .int (J a1)), (2, .int (J a2)), (3, .int (J x4)), (4, .int (J x14))] → W p l e rm_X11_finds s m args below meth c H locs 0 0 Qf (F0 m 82 ls []) := by
              intro M66 hcK67 H locs hG ls hl
              have h := hK67 M66 hcK67
              refine lv_aload_n hx hb dX11_finds_82 rfl (lv_at hl 0 rfl) ?_
              refine lv_iload hx hb dX11_finds_83 (lv_at hl 4 rfl) ?_
              refine j_puti hx hb hts hown hK hG (k := a0) (fun w h => List.mem_cons_of_mem _ (u_X11 w h)) tyX11 tyX11_ok nmX11 (ci := 10) rfl ka0 29 (by decide) (jz := 29) rfl w_fl_RX11_216 (hd := rfl) (hn := rfl) (hfit := rfl) (hdg := dX11_finds_85) (fun M68 eM68 H locs hG => ?_)
              have h := h M68 eM68
              refine lv_aload_n hx hb dX11_finds_88 rfl (lv_at hl 0 rfl) ?_
              refine lv_dup hx hb dX11_finds_89 rfl ?_
              refine j_geti hx hb hts hown hK hG (k := a0) (fun w h => List.mem_cons_of_mem _ (u_X11 w h)) (ci := 10) rfl ka0 30 (by decide) (jz := 30) rfl w_fl_RX11_210 dX11_finds_90 ?_
              refine lv_iconst (v := J 1) hx hb dX11_finds_93 (by decide) ?_
              refine j_iadd hx hb dX11_finds_94 ?_
              refine j_puti hx hb hts hown hK hG (k := a0) (fun w h => List.mem_cons_of_mem _ (u_X11 w h)) tyX11 tyX11_ok nmX11 (ci := 10) rfl ka0 30 (by decide) (jz := 30) rfl w_fl_RX11_210 (hd := rfl) (hn := rfl) (hfit := rfl) (hdg := dX11_finds_95) (fun M69 eM69 H locs hG => ?_)
              have h := h M69 eM69
              exact jK48 M69 h H locs hG ls (lv_sub hl [0, 1, 2, 3] rfl)
            obtain ⟨g71, h⟩ := h
            refine j_if_ne (tgt := 82) hx hb dX11_finds_73 (by decide) g71 (fun c70 => ?_) (fun c70 => ?_)
            · have h := h.1 c70
              exact jK67 M5 h H locs hG ls (lv_sub hl [0, 1, 2, 3, 4] rfl)
            · have h := h.2 c70
              refine lv_aload_n hx hb dX11_finds_76 rfl (lv_at hl 0 rfl) ?_
              refine lv_iload hx hb dX11_finds_77 (lv_at hl 4 rfl) ?_
              refine j_puti hx hb hts hown hK hG (k := a0) (fun w h => List.mem_cons_of_mem _ (u_X11 w h)) tyX11 tyX11_ok nmX11 (ci := 10) rfl ka0 28 (by decide) (jz := 28) rfl w_fl_RX11_213 (hd := rfl) (hn := rfl) (hfit := rfl) (hdg := dX11_finds_79) (fun M72 eM72 H locs hG => ?_)
              have h := h M72 eM72
              exact jK67 M72 h H locs hG ls (lv_sub hl [0, 1, 2, 3, 4] rfl)
          refine j_icmp_ge (tgt := 69) hx hb dX11_finds_52 (by decide) g9 g10 (fun c73 => ?_) (fun c73 => ?_)
          · have h := h.1 c73
            exact jK62 h H locs hG ls (lv_sub hl [0, 1, 2, 3, 4] rfl)
          · have h := h.2 c73
            refine lv_iload hx hb dX11_finds_55 (lv_at hl 4 rfl) ?_
            refine lv_aload_n hx hb dX11_finds_57 rfl (lv_at hl 0 rfl) ?_
            refine j_getr hx hb hts hown hK hG (k := a0) (fun w h => List.mem_cons_of_mem _ (u_X11 w h)) (ci := 10) rfl ka0 19 (k2 := a0 + 10) (by decide) (by show a0 + (10 : Int) = a0 + 10; omega) w_fl_RX11_44 dX11_finds_58 ?_
            refine lv_iload_n hx hb dX11_finds_61 rfl (lv_at hl 3 rfl) ?_
            obtain ⟨g74, h⟩ := h
            refine j_iald hx hb hK hG (n := 261) (kf_11_19 ka0) (by decide) g74 dX11_finds_62 ?_
            obtain ⟨g76, h⟩ := h
            obtain ⟨g77, h⟩ := h
            refine j_icmp_lt (tgt := 69) hx hb dX11_finds_63 (by decide) g76 g77 (fun c75 => ?_) (fun c75 => ?_)
            · have h := h.1 c75
              exact jK62 h H locs hG ls (lv_sub hl [0, 1, 2, 3, 4] rfl)
            · have h := h.2 c75
              refine lv_goto (tgt := 98) hx hb dX11_finds_66 (by decide) ?_
              exact jK48 M5 h H locs hG ls (lv_sub hl [0, 1, 2, 3] rfl)
        refine j_if_le (tgt := 47) hx hb dX11_finds_31 (by decide) g9 (fun c78 => ?_) (fun c78 => ?_)
        · have h := h.1 c78
          exact jK56 h H locs hG ls (lv_sub hl [1, 2, 3, 4, 0] rfl)
        · have h := h.2 c78
          refine lv_iload hx hb dX11_finds_34 (lv_at hl 0 rfl) ?_
          refine lv_aload_n hx hb dX11_finds_36 rfl (lv_at hl 1 rfl) ?_
          refine j_getr hx hb hts hown hK hG (k := a0) (fun w h => List.mem_cons_of_mem _ (u_X11 w h)) (ci := 10) rfl ka0 19 (k2 := a0 + 10) (by decide) (by show a0 + (10 : Int) = a0 + 10; omega) w_fl_RX11_44 dX11_finds_37 ?_
          refine lv_iload_n hx hb dX11_finds_40 rfl (lv_at hl 4 rfl) ?_
          refine lv_iconst (v := J 1) hx hb dX11_finds_41 (by decide) ?_
          refine j_isub hx hb dX11_finds_42 ?_
          obtain ⟨g79, h⟩ := h
          refine j_iald hx hb hK hG (n := 261) (kf_11_19 ka0) (by decide) g79 dX11_finds_43 ?_
          obtain ⟨g81, h⟩ := h
          obtain ⟨g82, h⟩ := h
          refine j_icmp_lt (tgt := 98) hx hb dX11_finds_44 (by decide) g81 g82 (fun c80 => ?_) (fun c80 => ?_)
          · have h := h.1 c80
            exact jK48 M5 h H locs hG ls (lv_sub hl [1, 2, 3, 4] rfl)
          · have h := h.2 c80
            exact jK56 h H locs hG ls (lv_sub hl [1, 2, 3, 4, 0] rfl)
  exact lI6 n7s 0 M3 iI6 H locs hG ls (lv_sub hl [1, 2, 3, 0] rfl)

abbrev rm_X11_causeOf : Room := { frames := 5, cells := 0, slots := 0, locals := 124 }
set_option maxRecDepth 100000 in
set_option maxHeartbeats 4000000 in
theorem A_X11_causeOf (l : Launch) {D : va_G} {cy : Nat → ClassId} {o : Nat} {sK sV : Nat → Nat} {M : jT} {a0 : Int} {a1 : Int} {a2 : Int} (ka0 : kd a0 = 11) {Q : Int → jT → Prop} (h : wp_X11_causeOf M a0 a1 a2 Q) : CoI l yX11_causeOf (wj yX11_causeOf cX11_causeOf 5 (some .int)) rm_X11_causeOf D cy o sK sV M [.ref (rA o a0), .int (J a1), .int (J a2)] Q := by
  refine j_ofW (cc := cX11_causeOf) (maxL := 5) (ret := (some .int)) (by decide) rfl (Nat.le_of_ble_eq_true rfl) ?_
  intro p e s m args below meth c hx hb hr hlocks hml hown hts hK hSX H locs hG ls hl Qf hQf
  have hown : s.vm.findClass RX11 = some m.cls := hown
  have hl : lv_has ls 5 [(0, .ref (rA o a0)), (1, .int (J a1)), (2, .int (J a2))] := hl
  have w_fl_RX11_210 := hts _ (List.mem_cons_of_mem _ fl_RX11_210)
  have w_fl_RX11_181 := hts _ (List.mem_cons_of_mem _ fl_RX11_181)
  have w_fl_RX11_44 := hts _ (List.mem_cons_of_mem _ fl_RX11_44)
  have w_fl_RX11_213 := hts _ (List.mem_cons_of_mem _ fl_RX11_213)
  have w_fl_RX11_216 := hts _ (List.mem_cons_of_mem _ fl_RX11_216)
  have w_fl_RX11_47 := hts _ (List.mem_cons_of_mem _ fl_RX11_47)
  have w_fl_RX11_50 := hts _ (List.mem_cons_of_mem _ fl_RX11_50)
  unfold wp_X11_causeOf at h
  refine lv_aload_n hx hb dX11_causeOf_0 rfl (lv_at hl 0 rfl) ?_
  refine lv_iload_n hx hb dX11_causeOf_1 rfl (lv_at hl 1 rfl) ?_
  refine lv_iload_n hx hb dX11_causeOf_2 rfl (lv_at hl 2 rfl) ?_
  refine j_contv (va_runV (As := [.int (J a1), .int (J a2)]) (rest := []) ⟨hx, hb, hml, hown, hts⟩ (A_X11_finds l ka0 h) (cwV 2 hts (gj_V ml_RX11_219 i_X11_finds s_X11_finds n_RX11 k_X11_finds) rfl rfl rfl (by decide +kernel) ⟨by exact Nat.le_of_ble_eq_true rfl, by exact Nat.le_of_ble_eq_true rfl⟩) (j_preV hK hSX hG (ci := 10) rfl ka0 (by decide)) rfl rfl hl.1 rfl (lv_room (Nat.le_of_ble_eq_true rfl)) dX11_causeOf_3 ⟨by exact Nat.le_of_ble_eq_true rfl, by exact Nat.le_of_ble_eq_true rfl⟩) hG (c2 := 0) (s2 := 0) ⟨by exact Nat.le_of_ble_eq_true rfl, by exact Nat.le_of_ble_eq_true rfl⟩ (fun M2 h H locs hG => ?_)
  refine lv_aload_n hx hb dX11_causeOf_6 rfl (lv_at hl 0 rfl) ?_
  refine j_geti hx hb hts hown hK hG (k := a0) (fun w h => List.mem_cons_of_mem _ (u_X11 w h)) (ci := 10) rfl ka0 30 (by decide) (jz := 30) rfl w_fl_RX11_210 dX11_causeOf_7 ?_
  refine lv_iconst (v := J 1) hx hb dX11_causeOf_10 (by decide) ?_
  obtain ⟨g4, h⟩ := h
  refine j_icmp_ne (tgt := 16) hx hb dX11_causeOf_11 (by decide) g4 (by decide) (fun c3 => ?_) (fun c3 => ?_)
  · have h := h.1 c3
    refine lv_iconst (v := J 0) hx hb dX11_causeOf_16 (by decide) ?_
    refine lv_istore_n (lv' := [(3, .int (J 0)), (0, .ref (rA o a0)), (1, .int (J a1)), (2, .int (J a2))]) hx hb dX11_causeOf_17 rfl hl (by decide) rfl (fun ls hl => ?_)
    obtain ⟨I6, ⟨n7s, iI6⟩, qI6⟩ := h
    have lI6 : ∀ (n7 : Nat) (x5 : Int), I6 n7 x5 → ∀ (H : Heap) (locs : List Loc), GM D cy o M2 s.heap H locs → ∀ ls : Array Slot, lv_has ls 5 [(0, .ref (rA o a0)), (2, .int (J a2)), (3, .int (J x5))] → W p l e rm_X11_causeOf s m args below meth c H locs 0 0 Qf (F0 m 18 ls []) := by
      intro n7
      induction n7 using Nat.strongRecOn with
      | ind n7 rI6 =>
        intro x5 iI6 H locs hG ls hl
        have h := qI6 n7 x5 iI6
        refine lv_iload_n hx hb dX11_causeOf_18 rfl (lv_at hl 2 rfl) ?_
        refine lv_aload_n hx hb dX11_causeOf_19 rfl (lv_at hl 0 rfl) ?_
        refine j_geti hx hb hts hown hK hG (k := a0) (fun w h => List.mem_cons_of_mem _ (u_X11 w h)) (ci := 10) rfl ka0 18 (by decide) (jz := 18) rfl w_fl_RX11_181 dX11_causeOf_20 ?_
        obtain ⟨g9, h⟩ := h
        obtain ⟨g10, h⟩ := h
        refine j_icmp_ge (tgt := 121) hx hb dX11_causeOf_23 (by decide) g9 g10 (fun c8 => ?_) (fun c8 => ?_)
        · have h := h.1 c8
          refine lv_iconst (v := J (-1)) hx hb dX11_causeOf_121 (by decide) ?_
          rw [hQf]
          exact j_ireti hx hb hr hlocks hG h (by decide) dX11_causeOf_122
        · have h := h.2 c8
          refine lv_aload_n hx hb dX11_causeOf_26 rfl (lv_at hl 0 rfl) ?_
          refine j_geti hx hb hts hown hK hG (k := a0) (fun w h => List.mem_cons_of_mem _ (u_X11 w h)) (ci := 10) rfl ka0 30 (by decide) (jz := 30) rfl w_fl_RX11_210 dX11_causeOf_27 ?_
          obtain ⟨hg, h⟩ := h
          have jK25 : ∀ x24 : Int, x24 = b2i ((M2 a0 30 ≠ 0 ∧ M2 a0 28 < M2 (a0 + 10) x5 ∧ M2 (a0 + 10) x5 ≤ M2 a0 29) ∨ (M2 a0 30 = 0 ∧ (M2 (a0 + 10) x5) + (M2 (a0 + 11) x5) ≤ a2 ∧ a2 < (M2 (a0 + 10) x5) + (M2 (a0 + 12) x5))) → ∀ (H : Heap) (locs : List Loc), GM D cy o M2 s.heap H locs → ∀ ls : Array Slot, lv_has ls 5 [(0, .ref (rA o a0)), (2, .int (J a2)), (3, .int (J x5))] → W p l e rm_X11_causeOf s m args below meth c H locs 0 0 Qf (F0 m 106 ls [.int (J x24)]) := by
            intro x24 ex24 H locs hG ls hl
            subst ex24
            refine lv_istore (lv' := [(4, .int (J (b2i ((M2 a0 30 ≠ 0 ∧ M2 a0 28 < M2 (a0 + 10) x5 ∧ M2 (a0 + 10) x5 ≤ M2 a0 29) ∨ (M2 a0 30 = 0 ∧ (M2 (a0 + 10) x5) + (M2 (a0 + 11) x5) ≤ a2 ∧ a2 < (M2 (a0 + 10) x5) + (M2 (a0 + 12) x5)))))), (0, .ref (rA o a0)), (2, .int (J a2)), (3, .int (J x5))]) hx hb dX11_causeOf_106 hl (by decide) rfl (fun ls hl => ?_)
            refine lv_iload hx hb dX11_causeOf_108 (lv_at hl 0 rfl) ?_
            refine j_if_eq_b (tgt := 115) hx hb dX11_causeOf_110 (by decide) (fun c39 => ?_) (fun c39 => ?_)
            · have h := h.1 c39
              refine j_iinc hx hb dX11_causeOf_115 hl (k := 3) rfl (by decide) (fun x40 ex40 ls hl => ?_)
              have h := h x40 ex40
              have hl : lv_has ls 5 [(3, .int (J x40)), (4, .int (J (b2i ((M2 a0 30 ≠ 0 ∧ M2 a0 28 < M2 (a0 + 10) x5 ∧ M2 (a0 + 10) x5 ≤ M2 a0 29) ∨ (M2 a0 30 = 0 ∧ (M2 (a0 + 10) x5) + (M2 (a0 + 11) x5) ≤ a2 ∧ a2 < (M2 (a0 + 10) x5) + (M2 (a0 + 12) x5)))))), (0, .ref (rA o a0)), (2, .int (J a2))] := hl
              refine lv_goto (tgt := 18) hx hb dX11_causeOf_118 (by decide) ?_
              obtain ⟨n41, ln41, iI6⟩ := h
              exact rI6 n41 ln41 x40 iI6 H locs hG ls (lv_sub hl [2, 3, 0] rfl)
            · have h := h.2 c39
              refine lv_iload_n hx hb dX11_causeOf_113 rfl (lv_at hl 3 rfl) ?_
              rw [hQf]
              exact j_ireti hx hb hr hlocks hG h (by decide) dX11_causeOf_114
          have h := hg
          refine j_if_ne (tgt := 75) hx hb dX11_causeOf_30 (by decide) g4 (fun c26 => ?_) (fun c26 => ?_)
          · have h := h.1 c26
            refine lv_aload_n hx hb dX11_causeOf_75 rfl (lv_at hl 0 rfl) ?_
            refine j_getr hx hb hts hown hK hG (k := a0) (fun w h => List.mem_cons_of_mem _ (u_X11 w h)) (ci := 10) rfl ka0 19 (k2 := a0 + 10) (by decide) (by show a0 + (10 : Int) = a0 + 10; omega) w_fl_RX11_44 dX11_causeOf_76 ?_
            refine lv_iload_n hx hb dX11_causeOf_79 rfl (lv_at hl 2 rfl) ?_
            obtain ⟨g27, h⟩ := h
            refine j_iald hx hb hK hG (n := 261) (kf_11_19 ka0) (by decide) g27 dX11_causeOf_80 ?_
            refine lv_aload_n hx hb dX11_causeOf_81 rfl (lv_at hl 0 rfl) ?_
            refine j_geti hx hb hts hown hK hG (k := a0) (fun w h => List.mem_cons_of_mem _ (u_X11 w h)) (ci := 10) rfl ka0 28 (by decide) (jz := 28) rfl w_fl_RX11_213 dX11_causeOf_82 ?_
            obtain ⟨g29, h⟩ := h
            obtain ⟨g30, h⟩ := h
            refine j_icmp_le (tgt := 105) hx hb dX11_causeOf_85 (by decide) g29 g30 (fun c28 => ?_) (fun c28 => ?_)
            · have h := h.1 c28
              refine lv_iconst (v := J 0) hx hb dX11_causeOf_105 (by decide) ?_
              exact jK25 0 (b2i_iff0 ((pj_t c26 (show ¬ (M2 a0 30 = 0) from by omega)).trans (iff_of_false (fun q8 => (show ¬ (M2 a0 28 < M2 (a0 + 10) x5) from by omega) q8.1) id))) H locs hG ls (lv_sub hl [0, 1, 2] rfl)
            · have h := h.2 c28
              refine lv_aload_n hx hb dX11_causeOf_88 rfl (lv_at hl 0 rfl) ?_
              refine j_getr hx hb hts hown hK hG (k := a0) (fun w h => List.mem_cons_of_mem _ (u_X11 w h)) (ci := 10) rfl ka0 19 (k2 := a0 + 10) (by decide) (by show a0 + (10 : Int) = a0 + 10; omega) w_fl_RX11_44 dX11_causeOf_89 ?_
              refine lv_iload_n hx hb dX11_causeOf_92 rfl (lv_at hl 2 rfl) ?_
              refine j_iald hx hb hK hG (n := 261) (kf_11_19 ka0) (by decide) g27 dX11_causeOf_93 ?_
              refine lv_aload_n hx hb dX11_causeOf_94 rfl (lv_at hl 0 rfl) ?_
              refine j_geti hx hb hts hown hK hG (k := a0) (fun w h => List.mem_cons_of_mem _ (u_X11 w h)) (ci := 10) rfl ka0 29 (by decide) (jz := 29) rfl w_fl_RX11_216 dX11_causeOf_95 ?_
              obtain ⟨g32, h⟩ := h
              refine j_icmp_gt (tgt := 105) hx hb dX11_causeOf_98 (by decide) g29 g32 (fun c31 => ?_) (fun c31 => ?_)
              · have h := h.1 c31
                refine lv_iconst (v := J 0) hx hb dX11_causeOf_105 (by decide) ?_
                exact jK25 0 (b2i_iff0 ((pj_t c26 (show ¬ (M2 a0 30 = 0) from by omega)).trans ((and_iff_right c28).trans (iff_of_false (show ¬ (M2 (a0 + 10) x5 ≤ M2 a0 29) from by omega) id)))) H locs hG ls (lv_sub hl [0, 1, 2] rfl)
              · have h := h.2 c31
                refine lv_iconst (v := J 1) hx hb dX11_causeOf_101 (by decide) ?_
                refine lv_goto (tgt := 106) hx hb dX11_causeOf_102 (by decide) ?_
                exact jK25 1 (b2i_iff1 ((pj_t c26 (show ¬ (M2 a0 30 = 0) from by omega)).trans ((and_iff_right c28).trans (iff_of_true c31 trivial)))) H locs hG ls (lv_sub hl [0, 1, 2] rfl)
          · have h := h.2 c26
            refine lv_aload_n hx hb dX11_causeOf_33 rfl (lv_at hl 0 rfl) ?_
            refine j_getr hx hb hts hown hK hG (k := a0) (fun w h => List.mem_cons_of_mem _ (u_X11 w h)) (ci := 10) rfl ka0 19 (k2 := a0 + 10) (by decide) (by show a0 + (10 : Int) = a0 + 10; omega) w_fl_RX11_44 dX11_causeOf_34 ?_
            refine lv_iload_n hx hb dX11_causeOf_37 rfl (lv_at hl 2 rfl) ?_
            obtain ⟨g33, h⟩ := h
            refine j_iald hx hb hK hG (n := 261) (kf_11_19 ka0) (by decide) g33 dX11_causeOf_38 ?_
            refine lv_aload_n hx hb dX11_causeOf_39 rfl (lv_at hl 0 rfl) ?_
            refine j_getr hx hb hts hown hK hG (k := a0) (fun w h => List.mem_cons_of_mem _ (u_X11 w h)) (ci := 10) rfl ka0 20 (k2 := a0 + 11) (by decide) (by show a0 + (11 : Int) = a0 + 11; omega) w_fl_RX11_47 dX11_causeOf_40 ?_
            refine lv_iload_n hx hb dX11_causeOf_43 rfl (lv_at hl 2 rfl) ?_
            refine j_iald hx hb hK hG (n := 261) (kf_11_20 ka0) (by decide) g33 dX11_causeOf_44 ?_
            refine j_iadd hx hb dX11_causeOf_45 ?_
            refine lv_iload_n hx hb dX11_causeOf_46 rfl (lv_at hl 1 rfl) ?_
            obtain ⟨g35, h⟩ := h
            obtain ⟨g36, h⟩ := h
            refine j_icmp_gt (tgt := 71) hx hb dX11_causeOf_47 (by decide) g35 g36 (fun c34 => ?_) (fun c34 => ?_)
            · have h := h.1 c34
              refine lv_iconst (v := J 0) hx hb dX11_causeOf_71 (by decide) ?_
              refine lv_goto (tgt := 106) hx hb dX11_causeOf_72 (by decide) ?_
              exact jK25 0 (b2i_iff0 ((pj_f (show ¬ (M2 a0 30 ≠ 0) from by omega) c26).trans (iff_of_false (fun q8 => (show ¬ ((M2 (a0 + 10) x5) + (M2 (a0 + 11) x5) ≤ a2) from by omega) q8.1) id))) H locs hG ls (lv_sub hl [0, 1, 2] rfl)
            · have h := h.2 c34
              refine lv_aload_n hx hb dX11_causeOf_50 rfl (lv_at hl 0 rfl) ?_
              refine j_getr hx hb hts hown hK hG (k := a0) (fun w h => List.mem_cons_of_mem _ (u_X11 w h)) (ci := 10) rfl ka0 19 (k2 := a0 + 10) (by decide) (by show a0 + (10 : Int) = a0 + 10; omega) w_fl_RX11_44 dX11_causeOf_51 ?_
              refine lv_iload_n hx hb dX11_causeOf_54 rfl (lv_at hl 2 rfl) ?_
              refine j_iald hx hb hK hG (n := 261) (kf_11_19 ka0) (by decide) g33 dX11_causeOf_55 ?_
              refine lv_aload_n hx hb dX11_causeOf_56 rfl (lv_at hl 0 rfl) ?_
              refine j_getr hx hb hts hown hK hG (k := a0) (fun w h => List.mem_cons_of_mem _ (u_X11 w h)) (ci := 10) rfl ka0 21 (k2 := a0 + 12) (by decide) (by show a0 + (12 : Int) = a0 + 12; omega) w_fl_RX11_50 dX11_causeOf_57 ?_
              refine lv_iload_n hx hb dX11_causeOf_60 rfl (lv_at hl 2 rfl) ?_
              refine j_iald hx hb hK hG (n := 261) (kf_11_21 ka0) (by decide) g33 dX11_causeOf_61 ?_
              refine j_iadd hx hb dX11_causeOf_62 ?_
              refine lv_iload_n hx hb dX11_causeOf_63 rfl (lv_at hl 1 rfl) ?_
              obtain ⟨g38, h⟩ := h
              refine j_icmp_le (tgt := 71) hx hb dX11_causeOf_64 (by decide) g38 g36 (fun c37 => ?_) (fun c37 => ?_)
              · have h := h.1 c37
                refine lv_iconst (v := J 0) hx hb dX11_causeOf_71 (by decide) ?_
                refine lv_goto (tgt := 106) hx hb dX11_causeOf_72 (by decide) ?_
                exact jK25 0 (b2i_iff0 ((pj_f (show ¬ (M2 a0 30 ≠ 0) from by omega) c26).trans ((and_iff_right c34).trans (iff_of_false (show ¬ (a2 < (M2 (a0 + 10) x5) + (M2 (a0 + 12) x5)) from by omega) id)))) H locs hG ls (lv_sub hl [0, 1, 2] rfl)
              · have h := h.2 c37
                refine lv_iconst (v := J 1) hx hb dX11_causeOf_67 (by decide) ?_
                refine lv_goto (tgt := 106) hx hb dX11_causeOf_68 (by decide) ?_
                exact jK25 1 (b2i_iff1 ((pj_f (show ¬ (M2 a0 30 ≠ 0) from by omega) c26).trans ((and_iff_right c34).trans (iff_of_true c37 trivial)))) H locs hG ls (lv_sub hl [0, 1, 2] rfl)
    exact lI6 n7s 0 iI6 H locs hG ls (lv_sub hl [1, 3, 0] rfl)
  · have h := h.2 c3
    refine lv_iconst (v := J (-1)) hx hb dX11_causeOf_14 (by decide) ?_
    rw [hQf]
    exact j_ireti hx hb hr hlocks hG h (by decide) dX11_causeOf_15

abbrev rm_X11_tells : Room := { frames := 6, cells := 0, slots := 0, locals := 148 }
set_option maxRecDepth 100000 in
set_option maxHeartbeats 4000000 in
theorem A_X11_tells (l : Launch) {D : va_G} {cy : Nat → ClassId} {o : Nat} {sK sV : Nat → Nat} {M : jT} {a0 : Int} {a1 : Int} {a2 : Int} {a3 : Int} (ka0 : kd a0 = 11) {Q : Int → jT → Prop} (h : wp_X11_tells M a0 a1 a2 a3 Q) : CoI l yX11_tells (wj yX11_tells cX11_tells 5 (some .boolean)) rm_X11_tells D cy o sK sV M [.ref (rA o a0), .int (J a1), .int (J a2), .int (J a3)] Q := by
  refine j_ofW (cc := cX11_tells) (maxL := 5) (ret := (some .boolean)) (by decide) rfl (Nat.le_of_ble_eq_true rfl) ?_
  intro p e s m args below meth c hx hb hr hlocks hml hown hts hK hSX H locs hG ls hl Qf hQf
  have hown : s.vm.findClass RX11 = some m.cls := hown
  have hl : lv_has ls 5 [(0, .ref (rA o a0)), (1, .int (J a1)), (2, .int (J a2)), (3, .int (J a3))] := hl
  have w_fl_RX11_210 := hts _ (List.mem_cons_of_mem _ fl_RX11_210)
  have w_fl_RX11_216 := hts _ (List.mem_cons_of_mem _ fl_RX11_216)
  have w_fl_RX11_213 := hts _ (List.mem_cons_of_mem _ fl_RX11_213)
  have w_fl_RX11_44 := hts _ (List.mem_cons_of_mem _ fl_RX11_44)
  have w_fl_RX11_50 := hts _ (List.mem_cons_of_mem _ fl_RX11_50)
  have w_fl_RX11_47 := hts _ (List.mem_cons_of_mem _ fl_RX11_47)
  unfold wp_X11_tells at h
  refine lv_aload_n hx hb dX11_tells_0 rfl (lv_at hl 0 rfl) ?_
  refine lv_iload_n hx hb dX11_tells_1 rfl (lv_at hl 1 rfl) ?_
  refine lv_iload_n hx hb dX11_tells_2 rfl (lv_at hl 2 rfl) ?_
  refine j_conti (va_runV (As := [.int (J a1), .int (J a2)]) (rest := []) ⟨hx, hb, hml, hown, hts⟩ (A_X11_causeOf l ka0 h) (cwV 2 hts (gj_V ml_RX11_222 i_X11_causeOf s_X11_causeOf n_RX11 k_X11_causeOf) rfl rfl rfl (by decide +kernel) ⟨by exact Nat.le_of_ble_eq_true rfl, by exact Nat.le_of_ble_eq_true rfl⟩) (j_preV hK hSX hG (ci := 10) rfl ka0 (by decide)) rfl rfl hl.1 rfl (lv_room (Nat.le_of_ble_eq_true rfl)) dX11_tells_3 ⟨by exact Nat.le_of_ble_eq_true rfl, by exact Nat.le_of_ble_eq_true rfl⟩) hG (c2 := 0) (s2 := 0) ⟨by exact Nat.le_of_ble_eq_true rfl, by exact Nat.le_of_ble_eq_true rfl⟩ (fun z1 M2 h H locs hG => ?_)
  refine lv_istore (lv' := [(4, .int (J z1)), (0, .ref (rA o a0)), (1, .int (J a1)), (2, .int (J a2)), (3, .int (J a3))]) hx hb dX11_tells_6 hl (by decide) rfl (fun ls hl => ?_)
  refine lv_iload_n hx hb dX11_tells_8 rfl (lv_at hl 4 rfl) ?_
  refine lv_iconst (v := J 3) hx hb dX11_tells_9 (by decide) ?_
  obtain ⟨K7, hK7, h⟩ := h
  have jK7 : K7 → ∀ (H : Heap) (locs : List Loc), GM D cy o M2 s.heap H locs → ∀ ls : Array Slot, lv_has ls 5 [(0, .ref (rA o a0)), (2, .int (J a2)), (3, .int (J a3)), (4, .int (J z1))] → W p l e rm_X11_tells s m args below meth c H locs 0 0 Qf (F0 m 23 ls []) := by
    intro hcK7 H locs hG ls hl
    have h := hK7 hcK7
    refine lv_aload_n hx hb dX11_tells_23 rfl (lv_at hl 0 rfl) ?_
    refine j_geti hx hb hts hown hK hG (k := a0) (fun w h => List.mem_cons_of_mem _ (u_X11 w h)) (ci := 10) rfl ka0 30 (by decide) (jz := 30) rfl w_fl_RX11_210 dX11_tells_24 ?_
    obtain ⟨K29, hK29, h⟩ := h
    have jK29 : ∀ (M28 : jT), K29 M28 → ∀ (H : Heap) (locs : List Loc), GM D cy o M28 s.heap H locs → ∀ ls : Array Slot, lv_has ls 5 [] → W p l e rm_X11_tells s m args below meth c H locs 0 0 Qf (F0 m 90 ls []) := by
      intro M28 hcK29 H locs hG ls hl
      have h := hK29 M28 hcK29
      refine lv_iconst (v := J 1) hx hb dX11_tells_90 (by decide) ?_
      rw [hQf]
      exact j_iretn hx hb hr hlocks (nar_b (by decide)) hG h (by decide) dX11_tells_91
    obtain ⟨g31, h⟩ := h
    refine j_if_ne (tgt := 77) hx hb dX11_tells_27 (by decide) g31 (fun c30 => ?_) (fun c30 => ?_)
    · have h := h.1 c30
      refine lv_iload_n hx hb dX11_tells_77 rfl (lv_at hl 2 rfl) ?_
      refine lv_iconst (v := J 1) hx hb dX11_tells_78 (by decide) ?_
      obtain ⟨g33, h⟩ := h
      refine j_icmp_ne (tgt := 90) hx hb dX11_tells_79 (by decide) g33 (by decide) (fun c32 => ?_) (fun c32 => ?_)
      · have h := h.1 c32
        exact jK29 M2 h H locs hG ls (lv_sub hl [] rfl)
      · have h := h.2 c32
        refine lv_aload_n hx hb dX11_tells_82 rfl (lv_at hl 0 rfl) ?_
        refine lv_aload_n hx hb dX11_tells_83 rfl (lv_at hl 0 rfl) ?_
        refine j_geti hx hb hts hown hK hG (k := a0) (fun w h => List.mem_cons_of_mem _ (u_X11 w h)) (ci := 10) rfl ka0 29 (by decide) (jz := 29) rfl w_fl_RX11_216 dX11_tells_84 ?_
        refine j_puti hx hb hts hown hK hG (k := a0) (fun w h => List.mem_cons_of_mem _ (u_X11 w h)) tyX11 tyX11_ok nmX11 (ci := 10) rfl ka0 28 (by decide) (jz := 28) rfl w_fl_RX11_213 (hd := rfl) (hn := rfl) (hfit := rfl) (hdg := dX11_tells_87) (fun M34 eM34 H locs hG => ?_)
        have h := h M34 eM34
        exact jK29 M34 h H locs hG ls (lv_sub hl [] rfl)
    · have h := h.2 c30
      refine lv_aload_n hx hb dX11_tells_30 rfl (lv_at hl 0 rfl) ?_
      refine lv_iload_n hx hb dX11_tells_31 rfl (lv_at hl 2 rfl) ?_
      obtain ⟨hg, h⟩ := h
      have jK42 : ∀ x41 : Int, (a3 ≠ 0 ∧ a3 ≠ 1 → x41 = M2 (a0 + 10) z1) → (a3 ≠ 0 ∧ a3 = 1 → x41 = a2 - (M2 (a0 + 12) z1)) → (a3 = 0 → x41 = a2 - (M2 (a0 + 11) z1)) → ∀ (H : Heap) (locs : List Loc), GM D cy o M2 s.heap H locs → ∀ ls : Array Slot, lv_has ls 5 [] → W p l e rm_X11_tells s m args below meth c H locs 0 0 Qf (F0 m 71 ls [.int (J x41), .ref (rA o a0)]) := by
        intro x41 qx41_0 qx41_1 qx41_2 H locs hG ls hl
        have h := h x41 qx41_0 qx41_1 qx41_2
        refine j_puti hx hb hts hown hK hG (k := a0) (fun w h => List.mem_cons_of_mem _ (u_X11 w h)) tyX11 tyX11_ok nmX11 (ci := 10) rfl ka0 28 (by decide) (jz := 28) rfl w_fl_RX11_213 (hd := rfl) (hn := rfl) (hfit := rfl) (hdg := dX11_tells_71) (fun M49 eM49 H locs hG => ?_)
        have h := h M49 eM49
        refine lv_goto (tgt := 90) hx hb dX11_tells_74 (by decide) ?_
        exact jK29 M49 h H locs hG ls (lv_sub hl [] rfl)
      have h := hg
      obtain ⟨g44, h⟩ := h
      refine j_if_ne (tgt := 47) hx hb dX11_tells_32 (by decide) g44 (fun c43 => ?_) (fun c43 => ?_)
      · have h := h.1 c43
        refine lv_iload_n hx hb dX11_tells_47 rfl (lv_at hl 2 rfl) ?_
        refine lv_iconst (v := J 1) hx hb dX11_tells_48 (by decide) ?_
        refine j_icmp_ne (tgt := 64) hx hb dX11_tells_49 (by decide) g44 (by decide) (fun c45 => ?_) (fun c45 => ?_)
        · have h := h.1 c45
          refine lv_aload_n hx hb dX11_tells_64 rfl (lv_at hl 0 rfl) ?_
          refine j_getr hx hb hts hown hK hG (k := a0) (fun w h => List.mem_cons_of_mem _ (u_X11 w h)) (ci := 10) rfl ka0 19 (k2 := a0 + 10) (by decide) (by show a0 + (10 : Int) = a0 + 10; omega) w_fl_RX11_44 dX11_tells_65 ?_
          refine lv_iload hx hb dX11_tells_68 (lv_at hl 3 rfl) ?_
          obtain ⟨g46, h⟩ := h
          refine j_iald hx hb hK hG (n := 261) (kf_11_19 ka0) (by decide) g46 dX11_tells_70 ?_
          exact jK42 (M2 (a0 + 10) z1) (fun _ => rfl) (fun q => absurd q.2 (by omega)) (fun q => absurd q (by omega)) H locs hG ls (lv_sub hl [] rfl)
        · have h := h.2 c45
          refine lv_iload_n hx hb dX11_tells_52 rfl (lv_at hl 1 rfl) ?_
          refine lv_aload_n hx hb dX11_tells_53 rfl (lv_at hl 0 rfl) ?_
          refine j_getr hx hb hts hown hK hG (k := a0) (fun w h => List.mem_cons_of_mem _ (u_X11 w h)) (ci := 10) rfl ka0 21 (k2 := a0 + 12) (by decide) (by show a0 + (12 : Int) = a0 + 12; omega) w_fl_RX11_50 dX11_tells_54 ?_
          refine lv_iload hx hb dX11_tells_57 (lv_at hl 3 rfl) ?_
          obtain ⟨g47, h⟩ := h
          refine j_iald hx hb hK hG (n := 261) (kf_11_21 ka0) (by decide) g47 dX11_tells_59 ?_
          refine j_isub hx hb dX11_tells_60 ?_
          refine lv_goto (tgt := 71) hx hb dX11_tells_61 (by decide) ?_
          exact jK42 (a2 - (M2 (a0 + 12) z1)) (fun q => absurd q.2 (by omega)) (fun _ => rfl) (fun q => absurd q (by omega)) H locs hG ls (lv_sub hl [] rfl)
      · have h := h.2 c43
        refine lv_iload_n hx hb dX11_tells_35 rfl (lv_at hl 1 rfl) ?_
        refine lv_aload_n hx hb dX11_tells_36 rfl (lv_at hl 0 rfl) ?_
        refine j_getr hx hb hts hown hK hG (k := a0) (fun w h => List.mem_cons_of_mem _ (u_X11 w h)) (ci := 10) rfl ka0 20 (k2 := a0 + 11) (by decide) (by show a0 + (11 : Int) = a0 + 11; omega) w_fl_RX11_47 dX11_tells_37 ?_
        refine lv_iload hx hb dX11_tells_40 (lv_at hl 3 rfl) ?_
        obtain ⟨g48, h⟩ := h
        refine j_iald hx hb hK hG (n := 261) (kf_11_20 ka0) (by decide) g48 dX11_tells_42 ?_
        refine j_isub hx hb dX11_tells_43 ?_
        refine lv_goto (tgt := 71) hx hb dX11_tells_44 (by decide) ?_
        exact jK42 (a2 - (M2 (a0 + 11) z1)) (fun q => absurd q.1 (by omega)) (fun q => absurd q.1 (by omega)) (fun _ => rfl) H locs hG ls (lv_sub hl [] rfl)
  obtain ⟨g51, h⟩ := h
  refine j_icmp_ne (tgt := 23) hx hb dX11_tells_10 (by decide) g51 (by decide) (fun c50 => ?_) (fun c50 => ?_)
  · have h := h.1 c50
    exact jK7 h H locs hG ls (lv_sub hl [1, 3, 4, 0] rfl)
  · have h := h.2 c50
    refine lv_aload_n hx hb dX11_tells_13 rfl (lv_at hl 1 rfl) ?_
    refine j_geti hx hb hts hown hK hG (k := a0) (fun w h => List.mem_cons_of_mem _ (u_X11 w h)) (ci := 10) rfl ka0 30 (by decide) (jz := 30) rfl w_fl_RX11_210 dX11_tells_14 ?_
    refine lv_iconst (v := J 1) hx hb dX11_tells_17 (by decide) ?_
    obtain ⟨g53, h⟩ := h
    refine j_icmp_eq (tgt := 23) hx hb dX11_tells_18 (by decide) g53 (by decide) (fun c52 => ?_) (fun c52 => ?_)
    · have h := h.1 c52
      exact jK7 h H locs hG ls (lv_sub hl [1, 3, 4, 0] rfl)
    · have h := h.2 c52
      refine lv_iconst (v := J 0) hx hb dX11_tells_21 (by decide) ?_
      rw [hQf]
      exact j_iretn hx hb hr hlocks (nar_b (by decide)) hG h (by decide) dX11_tells_22

abbrev rm_X11_toLocal : Room := { frames := 5, cells := 0, slots := 0, locals := 123 }
set_option maxRecDepth 100000 in
set_option maxHeartbeats 4000000 in
theorem A_X11_toLocal (l : Launch) {D : va_G} {cy : Nat → ClassId} {o : Nat} {sK sV : Nat → Nat} {M : jT} {a0 : Int} {a1 : Int} {a2 : Int} (ka0 : kd a0 = 11) {Q : Int → jT → Prop} (h : wp_X11_toLocal M a0 a1 a2 Q) : CoI l yX11_toLocal (wj yX11_toLocal cX11_toLocal 3 (some .int)) rm_X11_toLocal D cy o sK sV M [.ref (rA o a0), .int (J a1), .int (J a2)] Q := by
  refine j_ofW (cc := cX11_toLocal) (maxL := 3) (ret := (some .int)) (by decide) rfl (Nat.le_of_ble_eq_true rfl) ?_
  intro p e s m args below meth c hx hb hr hlocks hml hown hts hK hSX H locs hG ls hl Qf hQf
  have hown : s.vm.findClass RX11 = some m.cls := hown
  have hl : lv_has ls 3 [(0, .ref (rA o a0)), (1, .int (J a1)), (2, .int (J a2))] := hl
  have w_fl_RX11_80 := hts _ (List.mem_cons_of_mem _ fl_RX11_80)
  unfold wp_X11_toLocal at h
  refine lv_aload_n hx hb dX11_toLocal_0 rfl (lv_at hl 0 rfl) ?_
  refine lv_iconst (v := J 0) hx hb dX11_toLocal_1 (by decide) ?_
  refine j_puti hx hb hts hown hK hG (k := a0) (fun w h => List.mem_cons_of_mem _ (u_X11 w h)) tyX11 tyX11_ok nmX11 (ci := 10) rfl ka0 0 (by decide) (jz := 0) rfl w_fl_RX11_80 (hd := rfl) (hn := rfl) (hfit := rfl) (hdg := dX11_toLocal_2) (fun M1 eM1 H locs hG => ?_)
  have h := h M1 eM1
  refine lv_aload_n hx hb dX11_toLocal_5 rfl (lv_at hl 0 rfl) ?_
  refine lv_iload_n hx hb dX11_toLocal_6 rfl (lv_at hl 1 rfl) ?_
  obtain ⟨g2, h⟩ := h
  refine j_conti (va_runV (As := [.int (J a1)]) (rest := []) ⟨hx, hb, hml, hown, hts⟩ (A_X11_isZone l ka0 g2) (cwV 1 hts (gj_V ml_RX11_126 i_X11_isZone s_X11_isZone n_RX11 k_X11_isZone) rfl rfl rfl (by decide +kernel) ⟨by exact Nat.le_of_ble_eq_true rfl, by exact Nat.le_of_ble_eq_true rfl⟩) (j_preV hK hSX hG (ci := 10) rfl ka0 (by decide)) rfl rfl hl.1 rfl (lv_room (Nat.le_of_ble_eq_true rfl)) dX11_toLocal_7 ⟨by exact Nat.le_of_ble_eq_true rfl, by exact Nat.le_of_ble_eq_true rfl⟩) hG (c2 := 0) (s2 := 0) ⟨by exact Nat.le_of_ble_eq_true rfl, by exact Nat.le_of_ble_eq_true rfl⟩ (fun z3 M4 ez3 H locs hG => ?_)
  obtain ⟨ez3, eM4⟩ := ez3
  subst ez3
  rw [eM4] at hG
  refine j_if_ne_b (tgt := 19) hx hb dX11_toLocal_10 (by decide) (fun c5 => ?_) (fun c5 => ?_)
  · have h := h.1 c5
    refine lv_iload_n hx hb dX11_toLocal_19 rfl (lv_at hl 2 rfl) ?_
    obtain ⟨g6, h⟩ := h
    refine j_conti (va_runS (As := [.int (J a2)]) (rest := []) ⟨hx, hb, hml, hown, hts⟩ (A_X11_isInstant l g6) (va_cwS 1 hts (gj_S ml_RX11_203 i_X11_isInstant n_RX11 k_X11_isInstant) rfl rfl rfl (by decide +kernel) ⟨by exact Nat.le_of_ble_eq_true rfl, by exact Nat.le_of_ble_eq_true rfl⟩) (j_preS hK hSX hG) rfl rfl hl.1 rfl (lv_room (Nat.le_of_ble_eq_true rfl)) dX11_toLocal_20 ⟨by exact Nat.le_of_ble_eq_true rfl, by exact Nat.le_of_ble_eq_true rfl⟩) hG (c2 := 0) (s2 := 0) ⟨by exact Nat.le_of_ble_eq_true rfl, by exact Nat.le_of_ble_eq_true rfl⟩ (fun z7 M8 ez7 H locs hG => ?_)
    obtain ⟨ez7, eM8⟩ := ez7
    subst ez7
    rw [eM8] at hG
    obtain ⟨K16, hK16, h⟩ := h
    have jK16 : ∀ (x14 : Int) (M15 : jT), K16 x14 M15 → ∀ (H : Heap) (locs : List Loc), GM D cy o M15 s.heap H locs → ∀ ls : Array Slot, lv_has ls 3 [] → W p l e rm_X11_toLocal s m args below meth c H locs 0 0 Qf (F0 m 42 ls [.int (J x14)]) := by
      intro x14 M15 hcK16 H locs hG ls hl
      have h := hK16 x14 M15 hcK16
      rw [hQf]
      exact j_ireti hx hb hr hlocks hG h (by decide) dX11_toLocal_42
    refine j_if_eq_b (tgt := 37) hx hb dX11_toLocal_23 (by decide) (fun c17 => ?_) (fun c17 => ?_)
    · have h := h.1 c17
      refine lv_aload_n hx hb dX11_toLocal_37 rfl (lv_at hl 0 rfl) ?_
      refine lv_iconst (v := J 2) hx hb dX11_toLocal_38 (by decide) ?_
      refine j_conti (va_runV (As := [.int (J 2)]) (rest := []) ⟨hx, hb, hml, hown, hts⟩ (A_X11_raises l ka0 h) (cwV 1 hts (gj_V ml_RX11_110 i_X11_raises s_X11_raises n_RX11 k_X11_raises) rfl rfl rfl (by decide +kernel) ⟨by exact Nat.le_of_ble_eq_true rfl, by exact Nat.le_of_ble_eq_true rfl⟩) (j_preV hK hSX hG (ci := 10) rfl ka0 (by decide)) rfl rfl hl.1 rfl (lv_room (Nat.le_of_ble_eq_true rfl)) dX11_toLocal_39 ⟨by exact Nat.le_of_ble_eq_true rfl, by exact Nat.le_of_ble_eq_true rfl⟩) hG (c2 := 0) (s2 := 0) ⟨by exact Nat.le_of_ble_eq_true rfl, by exact Nat.le_of_ble_eq_true rfl⟩ (fun z18 M19 h H locs hG => ?_)
      exact jK16 z18 M19 h H locs hG ls (lv_sub hl [] rfl)
    · have h := h.2 c17
      refine lv_iload_n hx hb dX11_toLocal_26 rfl (lv_at hl 2 rfl) ?_
      refine lv_aload_n hx hb dX11_toLocal_27 rfl (lv_at hl 0 rfl) ?_
      refine lv_iload_n hx hb dX11_toLocal_28 rfl (lv_at hl 1 rfl) ?_
      refine lv_iload_n hx hb dX11_toLocal_29 rfl (lv_at hl 2 rfl) ?_
      refine j_conti (va_runV (As := [.int (J a1), .int (J a2)]) (rest := [.int (J a2)]) ⟨hx, hb, hml, hown, hts⟩ (A_X11_offsetAt l ka0 h) (cwV 2 hts (gj_V ml_RX11_206 i_X11_offsetAt s_X11_offsetAt n_RX11 k_X11_offsetAt) rfl rfl rfl (by decide +kernel) ⟨by exact Nat.le_of_ble_eq_true rfl, by exact Nat.le_of_ble_eq_true rfl⟩) (j_preV hK hSX hG (ci := 10) rfl ka0 (by decide)) rfl rfl hl.1 rfl (lv_room (Nat.le_of_ble_eq_true rfl)) dX11_toLocal_30 ⟨by exact Nat.le_of_ble_eq_true rfl, by exact Nat.le_of_ble_eq_true rfl⟩) hG (c2 := 0) (s2 := 0) ⟨by exact Nat.le_of_ble_eq_true rfl, by exact Nat.le_of_ble_eq_true rfl⟩ (fun z20 M21 h H locs hG => ?_)
      refine j_iadd hx hb dX11_toLocal_33 ?_
      refine lv_goto (tgt := 42) hx hb dX11_toLocal_34 (by decide) ?_
      exact jK16 (a2 + z20) M21 h H locs hG ls (lv_sub hl [] rfl)
  · have h := h.2 c5
    refine lv_aload_n hx hb dX11_toLocal_13 rfl (lv_at hl 0 rfl) ?_
    refine lv_iconst (v := J 1) hx hb dX11_toLocal_14 (by decide) ?_
    refine j_conti (va_runV (As := [.int (J 1)]) (rest := []) ⟨hx, hb, hml, hown, hts⟩ (A_X11_raises l ka0 h) (cwV 1 hts (gj_V ml_RX11_110 i_X11_raises s_X11_raises n_RX11 k_X11_raises) rfl rfl rfl (by decide +kernel) ⟨by exact Nat.le_of_ble_eq_true rfl, by exact Nat.le_of_ble_eq_true rfl⟩) (j_preV hK hSX hG (ci := 10) rfl ka0 (by decide)) rfl rfl hl.1 rfl (lv_room (Nat.le_of_ble_eq_true rfl)) dX11_toLocal_15 ⟨by exact Nat.le_of_ble_eq_true rfl, by exact Nat.le_of_ble_eq_true rfl⟩) hG (c2 := 0) (s2 := 0) ⟨by exact Nat.le_of_ble_eq_true rfl, by exact Nat.le_of_ble_eq_true rfl⟩ (fun z22 M23 h H locs hG => ?_)
    rw [hQf]
    exact j_ireti hx hb hr hlocks hG h (by decide) dX11_toLocal_18

abbrev rm_X11_instants : Room := { frames := 5, cells := 0, slots := 0, locals := 124 }
set_option maxRecDepth 100000 in
set_option maxHeartbeats 4000000 in
theorem A_X11_instants (l : Launch) {D : va_G} {cy : Nat → ClassId} {o : Nat} {sK sV : Nat → Nat} {M : jT} {a0 : Int} {a1 : Int} {a2 : Int} (ka0 : kd a0 = 11) {Q : Int → jT → Prop} (h : wp_X11_instants M a0 a1 a2 Q) : CoI l yX11_instants (wj yX11_instants cX11_instants 3 (some .int)) rm_X11_instants D cy o sK sV M [.ref (rA o a0), .int (J a1), .int (J a2)] Q := by
  refine j_ofW (cc := cX11_instants) (maxL := 3) (ret := (some .int)) (by decide) rfl (Nat.le_of_ble_eq_true rfl) ?_
  intro p e s m args below meth c hx hb hr hlocks hml hown hts hK hSX H locs hG ls hl Qf hQf
  have hown : s.vm.findClass RX11 = some m.cls := hown
  have hl : lv_has ls 3 [(0, .ref (rA o a0)), (1, .int (J a1)), (2, .int (J a2))] := hl
  have w_fl_RX11_80 := hts _ (List.mem_cons_of_mem _ fl_RX11_80)
  have w_fl_RX11_210 := hts _ (List.mem_cons_of_mem _ fl_RX11_210)
  unfold wp_X11_instants at h
  refine lv_aload_n hx hb dX11_instants_0 rfl (lv_at hl 0 rfl) ?_
  refine lv_iconst (v := J 0) hx hb dX11_instants_1 (by decide) ?_
  refine j_puti hx hb hts hown hK hG (k := a0) (fun w h => List.mem_cons_of_mem _ (u_X11 w h)) tyX11 tyX11_ok nmX11 (ci := 10) rfl ka0 0 (by decide) (jz := 0) rfl w_fl_RX11_80 (hd := rfl) (hn := rfl) (hfit := rfl) (hdg := dX11_instants_2) (fun M1 eM1 H locs hG => ?_)
  have h := h M1 eM1
  refine lv_aload_n hx hb dX11_instants_5 rfl (lv_at hl 0 rfl) ?_
  refine lv_iload_n hx hb dX11_instants_6 rfl (lv_at hl 1 rfl) ?_
  obtain ⟨g2, h⟩ := h
  refine j_conti (va_runV (As := [.int (J a1)]) (rest := []) ⟨hx, hb, hml, hown, hts⟩ (A_X11_isZone l ka0 g2) (cwV 1 hts (gj_V ml_RX11_126 i_X11_isZone s_X11_isZone n_RX11 k_X11_isZone) rfl rfl rfl (by decide +kernel) ⟨by exact Nat.le_of_ble_eq_true rfl, by exact Nat.le_of_ble_eq_true rfl⟩) (j_preV hK hSX hG (ci := 10) rfl ka0 (by decide)) rfl rfl hl.1 rfl (lv_room (Nat.le_of_ble_eq_true rfl)) dX11_instants_7 ⟨by exact Nat.le_of_ble_eq_true rfl, by exact Nat.le_of_ble_eq_true rfl⟩) hG (c2 := 0) (s2 := 0) ⟨by exact Nat.le_of_ble_eq_true rfl, by exact Nat.le_of_ble_eq_true rfl⟩ (fun z3 M4 ez3 H locs hG => ?_)
  obtain ⟨ez3, eM4⟩ := ez3
  subst ez3
  rw [eM4] at hG
  refine j_if_ne_b (tgt := 19) hx hb dX11_instants_10 (by decide) (fun c5 => ?_) (fun c5 => ?_)
  · have h := h.1 c5
    refine lv_iload_n hx hb dX11_instants_19 rfl (lv_at hl 2 rfl) ?_
    obtain ⟨g6, h⟩ := h
    refine j_conti (va_runS (As := [.int (J a2)]) (rest := []) ⟨hx, hb, hml, hown, hts⟩ (A_X11_isLocal l g6) (va_cwS 1 hts (gj_S ml_RX11_225 i_X11_isLocal n_RX11 k_X11_isLocal) rfl rfl rfl (by decide +kernel) ⟨by exact Nat.le_of_ble_eq_true rfl, by exact Nat.le_of_ble_eq_true rfl⟩) (j_preS hK hSX hG) rfl rfl hl.1 rfl (lv_room (Nat.le_of_ble_eq_true rfl)) dX11_instants_20 ⟨by exact Nat.le_of_ble_eq_true rfl, by exact Nat.le_of_ble_eq_true rfl⟩) hG (c2 := 0) (s2 := 0) ⟨by exact Nat.le_of_ble_eq_true rfl, by exact Nat.le_of_ble_eq_true rfl⟩ (fun z7 M8 ez7 H locs hG => ?_)
    obtain ⟨ez7, eM8⟩ := ez7
    subst ez7
    rw [eM8] at hG
    refine j_if_ne_b (tgt := 32) hx hb dX11_instants_23 (by decide) (fun c9 => ?_) (fun c9 => ?_)
    · have h := h.1 c9
      refine lv_aload_n hx hb dX11_instants_32 rfl (lv_at hl 0 rfl) ?_
      refine lv_iload_n hx hb dX11_instants_33 rfl (lv_at hl 1 rfl) ?_
      refine lv_iload_n hx hb dX11_instants_34 rfl (lv_at hl 2 rfl) ?_
      refine j_contv (va_runV (As := [.int (J a1), .int (J a2)]) (rest := []) ⟨hx, hb, hml, hown, hts⟩ (A_X11_finds l ka0 h) (cwV 2 hts (gj_V ml_RX11_219 i_X11_finds s_X11_finds n_RX11 k_X11_finds) rfl rfl rfl (by decide +kernel) ⟨by exact Nat.le_of_ble_eq_true rfl, by exact Nat.le_of_ble_eq_true rfl⟩) (j_preV hK hSX hG (ci := 10) rfl ka0 (by decide)) rfl rfl hl.1 rfl (lv_room (Nat.le_of_ble_eq_true rfl)) dX11_instants_35 ⟨by exact Nat.le_of_ble_eq_true rfl, by exact Nat.le_of_ble_eq_true rfl⟩) hG (c2 := 0) (s2 := 0) ⟨by exact Nat.le_of_ble_eq_true rfl, by exact Nat.le_of_ble_eq_true rfl⟩ (fun M11 h H locs hG => ?_)
      refine lv_aload_n hx hb dX11_instants_38 rfl (lv_at hl 0 rfl) ?_
      refine j_geti hx hb hts hown hK hG (k := a0) (fun w h => List.mem_cons_of_mem _ (u_X11 w h)) (ci := 10) rfl ka0 30 (by decide) (jz := 30) rfl w_fl_RX11_210 dX11_instants_39 ?_
      rw [hQf]
      exact j_ireti hx hb hr hlocks hG h (by decide) dX11_instants_42
    · have h := h.2 c9
      refine lv_aload_n hx hb dX11_instants_26 rfl (lv_at hl 0 rfl) ?_
      refine lv_iconst (v := J 2) hx hb dX11_instants_27 (by decide) ?_
      refine j_conti (va_runV (As := [.int (J 2)]) (rest := []) ⟨hx, hb, hml, hown, hts⟩ (A_X11_raises l ka0 h) (cwV 1 hts (gj_V ml_RX11_110 i_X11_raises s_X11_raises n_RX11 k_X11_raises) rfl rfl rfl (by decide +kernel) ⟨by exact Nat.le_of_ble_eq_true rfl, by exact Nat.le_of_ble_eq_true rfl⟩) (j_preV hK hSX hG (ci := 10) rfl ka0 (by decide)) rfl rfl hl.1 rfl (lv_room (Nat.le_of_ble_eq_true rfl)) dX11_instants_28 ⟨by exact Nat.le_of_ble_eq_true rfl, by exact Nat.le_of_ble_eq_true rfl⟩) hG (c2 := 0) (s2 := 0) ⟨by exact Nat.le_of_ble_eq_true rfl, by exact Nat.le_of_ble_eq_true rfl⟩ (fun z12 M13 h H locs hG => ?_)
      rw [hQf]
      exact j_ireti hx hb hr hlocks hG h (by decide) dX11_instants_31
  · have h := h.2 c5
    refine lv_aload_n hx hb dX11_instants_13 rfl (lv_at hl 0 rfl) ?_
    refine lv_iconst (v := J 1) hx hb dX11_instants_14 (by decide) ?_
    refine j_conti (va_runV (As := [.int (J 1)]) (rest := []) ⟨hx, hb, hml, hown, hts⟩ (A_X11_raises l ka0 h) (cwV 1 hts (gj_V ml_RX11_110 i_X11_raises s_X11_raises n_RX11 k_X11_raises) rfl rfl rfl (by decide +kernel) ⟨by exact Nat.le_of_ble_eq_true rfl, by exact Nat.le_of_ble_eq_true rfl⟩) (j_preV hK hSX hG (ci := 10) rfl ka0 (by decide)) rfl rfl hl.1 rfl (lv_room (Nat.le_of_ble_eq_true rfl)) dX11_instants_15 ⟨by exact Nat.le_of_ble_eq_true rfl, by exact Nat.le_of_ble_eq_true rfl⟩) hG (c2 := 0) (s2 := 0) ⟨by exact Nat.le_of_ble_eq_true rfl, by exact Nat.le_of_ble_eq_true rfl⟩ (fun z14 M15 h H locs hG => ?_)
    rw [hQf]
    exact j_ireti hx hb hr hlocks hG h (by decide) dX11_instants_18

abbrev rm_X11_instantsAgain : Room := { frames := 5, cells := 0, slots := 0, locals := 124 }
set_option maxRecDepth 100000 in
set_option maxHeartbeats 4000000 in
theorem A_X11_instantsAgain (l : Launch) {D : va_G} {cy : Nat → ClassId} {o : Nat} {sK sV : Nat → Nat} {M : jT} {a0 : Int} {a1 : Int} {a2 : Int} (ka0 : kd a0 = 11) {Q : Int → jT → Prop} (h : wp_X11_instantsAgain M a0 a1 a2 Q) : CoI l yX11_instantsAgain (wj yX11_instantsAgain cX11_instantsAgain 3 (some .int)) rm_X11_instantsAgain D cy o sK sV M [.ref (rA o a0), .int (J a1), .int (J a2)] Q := by
  refine j_ofW (cc := cX11_instantsAgain) (maxL := 3) (ret := (some .int)) (by decide) rfl (Nat.le_of_ble_eq_true rfl) ?_
  intro p e s m args below meth c hx hb hr hlocks hml hown hts hK hSX H locs hG ls hl Qf hQf
  have hown : s.vm.findClass RX11 = some m.cls := hown
  have hl : lv_has ls 3 [(0, .ref (rA o a0)), (1, .int (J a1)), (2, .int (J a2))] := hl
  have w_fl_RX11_80 := hts _ (List.mem_cons_of_mem _ fl_RX11_80)
  have w_fl_RX11_210 := hts _ (List.mem_cons_of_mem _ fl_RX11_210)
  unfold wp_X11_instantsAgain at h
  refine lv_aload_n hx hb dX11_instantsAgain_0 rfl (lv_at hl 0 rfl) ?_
  refine lv_iconst (v := J 0) hx hb dX11_instantsAgain_1 (by decide) ?_
  refine j_puti hx hb hts hown hK hG (k := a0) (fun w h => List.mem_cons_of_mem _ (u_X11 w h)) tyX11 tyX11_ok nmX11 (ci := 10) rfl ka0 0 (by decide) (jz := 0) rfl w_fl_RX11_80 (hd := rfl) (hn := rfl) (hfit := rfl) (hdg := dX11_instantsAgain_2) (fun M1 eM1 H locs hG => ?_)
  have h := h M1 eM1
  refine lv_aload_n hx hb dX11_instantsAgain_5 rfl (lv_at hl 0 rfl) ?_
  refine lv_iload_n hx hb dX11_instantsAgain_6 rfl (lv_at hl 1 rfl) ?_
  obtain ⟨g2, h⟩ := h
  refine j_conti (va_runV (As := [.int (J a1)]) (rest := []) ⟨hx, hb, hml, hown, hts⟩ (A_X11_isZone l ka0 g2) (cwV 1 hts (gj_V ml_RX11_126 i_X11_isZone s_X11_isZone n_RX11 k_X11_isZone) rfl rfl rfl (by decide +kernel) ⟨by exact Nat.le_of_ble_eq_true rfl, by exact Nat.le_of_ble_eq_true rfl⟩) (j_preV hK hSX hG (ci := 10) rfl ka0 (by decide)) rfl rfl hl.1 rfl (lv_room (Nat.le_of_ble_eq_true rfl)) dX11_instantsAgain_7 ⟨by exact Nat.le_of_ble_eq_true rfl, by exact Nat.le_of_ble_eq_true rfl⟩) hG (c2 := 0) (s2 := 0) ⟨by exact Nat.le_of_ble_eq_true rfl, by exact Nat.le_of_ble_eq_true rfl⟩ (fun z3 M4 ez3 H locs hG => ?_)
  obtain ⟨ez3, eM4⟩ := ez3
  subst ez3
  rw [eM4] at hG
  refine j_if_ne_b (tgt := 19) hx hb dX11_instantsAgain_10 (by decide) (fun c5 => ?_) (fun c5 => ?_)
  · have h := h.1 c5
    refine lv_iload_n hx hb dX11_instantsAgain_19 rfl (lv_at hl 2 rfl) ?_
    obtain ⟨g6, h⟩ := h
    refine j_conti (va_runS (As := [.int (J a2)]) (rest := []) ⟨hx, hb, hml, hown, hts⟩ (A_X11_isLocal l g6) (va_cwS 1 hts (gj_S ml_RX11_225 i_X11_isLocal n_RX11 k_X11_isLocal) rfl rfl rfl (by decide +kernel) ⟨by exact Nat.le_of_ble_eq_true rfl, by exact Nat.le_of_ble_eq_true rfl⟩) (j_preS hK hSX hG) rfl rfl hl.1 rfl (lv_room (Nat.le_of_ble_eq_true rfl)) dX11_instantsAgain_20 ⟨by exact Nat.le_of_ble_eq_true rfl, by exact Nat.le_of_ble_eq_true rfl⟩) hG (c2 := 0) (s2 := 0) ⟨by exact Nat.le_of_ble_eq_true rfl, by exact Nat.le_of_ble_eq_true rfl⟩ (fun z7 M8 ez7 H locs hG => ?_)
    obtain ⟨ez7, eM8⟩ := ez7
    subst ez7
    rw [eM8] at hG
    refine j_if_ne_b (tgt := 32) hx hb dX11_instantsAgain_23 (by decide) (fun c9 => ?_) (fun c9 => ?_)
    · have h := h.1 c9
      refine lv_aload_n hx hb dX11_instantsAgain_32 rfl (lv_at hl 0 rfl) ?_
      refine lv_iload_n hx hb dX11_instantsAgain_33 rfl (lv_at hl 1 rfl) ?_
      refine lv_iload_n hx hb dX11_instantsAgain_34 rfl (lv_at hl 2 rfl) ?_
      refine j_contv (va_runV (As := [.int (J a1), .int (J a2)]) (rest := []) ⟨hx, hb, hml, hown, hts⟩ (A_X11_finds l ka0 h) (cwV 2 hts (gj_V ml_RX11_219 i_X11_finds s_X11_finds n_RX11 k_X11_finds) rfl rfl rfl (by decide +kernel) ⟨by exact Nat.le_of_ble_eq_true rfl, by exact Nat.le_of_ble_eq_true rfl⟩) (j_preV hK hSX hG (ci := 10) rfl ka0 (by decide)) rfl rfl hl.1 rfl (lv_room (Nat.le_of_ble_eq_true rfl)) dX11_instantsAgain_35 ⟨by exact Nat.le_of_ble_eq_true rfl, by exact Nat.le_of_ble_eq_true rfl⟩) hG (c2 := 0) (s2 := 0) ⟨by exact Nat.le_of_ble_eq_true rfl, by exact Nat.le_of_ble_eq_true rfl⟩ (fun M11 h H locs hG => ?_)
      refine lv_aload_n hx hb dX11_instantsAgain_38 rfl (lv_at hl 0 rfl) ?_
      refine j_geti hx hb hts hown hK hG (k := a0) (fun w h => List.mem_cons_of_mem _ (u_X11 w h)) (ci := 10) rfl ka0 30 (by decide) (jz := 30) rfl w_fl_RX11_210 dX11_instantsAgain_39 ?_
      rw [hQf]
      exact j_ireti hx hb hr hlocks hG h (by decide) dX11_instantsAgain_42
    · have h := h.2 c9
      refine lv_aload_n hx hb dX11_instantsAgain_26 rfl (lv_at hl 0 rfl) ?_
      refine lv_iconst (v := J 2) hx hb dX11_instantsAgain_27 (by decide) ?_
      refine j_conti (va_runV (As := [.int (J 2)]) (rest := []) ⟨hx, hb, hml, hown, hts⟩ (A_X11_raises l ka0 h) (cwV 1 hts (gj_V ml_RX11_110 i_X11_raises s_X11_raises n_RX11 k_X11_raises) rfl rfl rfl (by decide +kernel) ⟨by exact Nat.le_of_ble_eq_true rfl, by exact Nat.le_of_ble_eq_true rfl⟩) (j_preV hK hSX hG (ci := 10) rfl ka0 (by decide)) rfl rfl hl.1 rfl (lv_room (Nat.le_of_ble_eq_true rfl)) dX11_instantsAgain_28 ⟨by exact Nat.le_of_ble_eq_true rfl, by exact Nat.le_of_ble_eq_true rfl⟩) hG (c2 := 0) (s2 := 0) ⟨by exact Nat.le_of_ble_eq_true rfl, by exact Nat.le_of_ble_eq_true rfl⟩ (fun z12 M13 h H locs hG => ?_)
      rw [hQf]
      exact j_ireti hx hb hr hlocks hG h (by decide) dX11_instantsAgain_31
  · have h := h.2 c5
    refine lv_aload_n hx hb dX11_instantsAgain_13 rfl (lv_at hl 0 rfl) ?_
    refine lv_iconst (v := J 1) hx hb dX11_instantsAgain_14 (by decide) ?_
    refine j_conti (va_runV (As := [.int (J 1)]) (rest := []) ⟨hx, hb, hml, hown, hts⟩ (A_X11_raises l ka0 h) (cwV 1 hts (gj_V ml_RX11_110 i_X11_raises s_X11_raises n_RX11 k_X11_raises) rfl rfl rfl (by decide +kernel) ⟨by exact Nat.le_of_ble_eq_true rfl, by exact Nat.le_of_ble_eq_true rfl⟩) (j_preV hK hSX hG (ci := 10) rfl ka0 (by decide)) rfl rfl hl.1 rfl (lv_room (Nat.le_of_ble_eq_true rfl)) dX11_instantsAgain_15 ⟨by exact Nat.le_of_ble_eq_true rfl, by exact Nat.le_of_ble_eq_true rfl⟩) hG (c2 := 0) (s2 := 0) ⟨by exact Nat.le_of_ble_eq_true rfl, by exact Nat.le_of_ble_eq_true rfl⟩ (fun z14 M15 h H locs hG => ?_)
    rw [hQf]
    exact j_ireti hx hb hr hlocks hG h (by decide) dX11_instantsAgain_18

abbrev rm_X11_cause : Room := { frames := 6, cells := 0, slots := 0, locals := 148 }
set_option maxRecDepth 100000 in
set_option maxHeartbeats 4000000 in
theorem A_X11_cause (l : Launch) {D : va_G} {cy : Nat → ClassId} {o : Nat} {sK sV : Nat → Nat} {M : jT} {a0 : Int} {a1 : Int} {a2 : Int} (ka0 : kd a0 = 11) {Q : Int → jT → Prop} (h : wp_X11_cause M a0 a1 a2 Q) : CoI l yX11_cause (wj yX11_cause cX11_cause 3 (some .int)) rm_X11_cause D cy o sK sV M [.ref (rA o a0), .int (J a1), .int (J a2)] Q := by
  refine j_ofW (cc := cX11_cause) (maxL := 3) (ret := (some .int)) (by decide) rfl (Nat.le_of_ble_eq_true rfl) ?_
  intro p e s m args below meth c hx hb hr hlocks hml hown hts hK hSX H locs hG ls hl Qf hQf
  have hown : s.vm.findClass RX11 = some m.cls := hown
  have hl : lv_has ls 3 [(0, .ref (rA o a0)), (1, .int (J a1)), (2, .int (J a2))] := hl
  have w_fl_RX11_80 := hts _ (List.mem_cons_of_mem _ fl_RX11_80)
  unfold wp_X11_cause at h
  refine lv_aload_n hx hb dX11_cause_0 rfl (lv_at hl 0 rfl) ?_
  refine lv_iconst (v := J 0) hx hb dX11_cause_1 (by decide) ?_
  refine j_puti hx hb hts hown hK hG (k := a0) (fun w h => List.mem_cons_of_mem _ (u_X11 w h)) tyX11 tyX11_ok nmX11 (ci := 10) rfl ka0 0 (by decide) (jz := 0) rfl w_fl_RX11_80 (hd := rfl) (hn := rfl) (hfit := rfl) (hdg := dX11_cause_2) (fun M1 eM1 H locs hG => ?_)
  have h := h M1 eM1
  refine lv_aload_n hx hb dX11_cause_5 rfl (lv_at hl 0 rfl) ?_
  refine lv_iload_n hx hb dX11_cause_6 rfl (lv_at hl 1 rfl) ?_
  obtain ⟨g2, h⟩ := h
  refine j_conti (va_runV (As := [.int (J a1)]) (rest := []) ⟨hx, hb, hml, hown, hts⟩ (A_X11_isZone l ka0 g2) (cwV 1 hts (gj_V ml_RX11_126 i_X11_isZone s_X11_isZone n_RX11 k_X11_isZone) rfl rfl rfl (by decide +kernel) ⟨by exact Nat.le_of_ble_eq_true rfl, by exact Nat.le_of_ble_eq_true rfl⟩) (j_preV hK hSX hG (ci := 10) rfl ka0 (by decide)) rfl rfl hl.1 rfl (lv_room (Nat.le_of_ble_eq_true rfl)) dX11_cause_7 ⟨by exact Nat.le_of_ble_eq_true rfl, by exact Nat.le_of_ble_eq_true rfl⟩) hG (c2 := 0) (s2 := 0) ⟨by exact Nat.le_of_ble_eq_true rfl, by exact Nat.le_of_ble_eq_true rfl⟩ (fun z3 M4 ez3 H locs hG => ?_)
  obtain ⟨ez3, eM4⟩ := ez3
  subst ez3
  rw [eM4] at hG
  refine j_if_ne_b (tgt := 19) hx hb dX11_cause_10 (by decide) (fun c5 => ?_) (fun c5 => ?_)
  · have h := h.1 c5
    refine lv_iload_n hx hb dX11_cause_19 rfl (lv_at hl 2 rfl) ?_
    obtain ⟨g6, h⟩ := h
    refine j_conti (va_runS (As := [.int (J a2)]) (rest := []) ⟨hx, hb, hml, hown, hts⟩ (A_X11_isLocal l g6) (va_cwS 1 hts (gj_S ml_RX11_225 i_X11_isLocal n_RX11 k_X11_isLocal) rfl rfl rfl (by decide +kernel) ⟨by exact Nat.le_of_ble_eq_true rfl, by exact Nat.le_of_ble_eq_true rfl⟩) (j_preS hK hSX hG) rfl rfl hl.1 rfl (lv_room (Nat.le_of_ble_eq_true rfl)) dX11_cause_20 ⟨by exact Nat.le_of_ble_eq_true rfl, by exact Nat.le_of_ble_eq_true rfl⟩) hG (c2 := 0) (s2 := 0) ⟨by exact Nat.le_of_ble_eq_true rfl, by exact Nat.le_of_ble_eq_true rfl⟩ (fun z7 M8 ez7 H locs hG => ?_)
    obtain ⟨ez7, eM8⟩ := ez7
    subst ez7
    rw [eM8] at hG
    obtain ⟨K16, hK16, h⟩ := h
    have jK16 : ∀ (x14 : Int) (M15 : jT), K16 x14 M15 → ∀ (H : Heap) (locs : List Loc), GM D cy o M15 s.heap H locs → ∀ ls : Array Slot, lv_has ls 3 [] → W p l e rm_X11_cause s m args below meth c H locs 0 0 Qf (F0 m 40 ls [.int (J x14)]) := by
      intro x14 M15 hcK16 H locs hG ls hl
      have h := hK16 x14 M15 hcK16
      rw [hQf]
      exact j_ireti hx hb hr hlocks hG h (by decide) dX11_cause_40
    refine j_if_eq_b (tgt := 35) hx hb dX11_cause_23 (by decide) (fun c17 => ?_) (fun c17 => ?_)
    · have h := h.1 c17
      refine lv_aload_n hx hb dX11_cause_35 rfl (lv_at hl 0 rfl) ?_
      refine lv_iconst (v := J 2) hx hb dX11_cause_36 (by decide) ?_
      refine j_conti (va_runV (As := [.int (J 2)]) (rest := []) ⟨hx, hb, hml, hown, hts⟩ (A_X11_raises l ka0 h) (cwV 1 hts (gj_V ml_RX11_110 i_X11_raises s_X11_raises n_RX11 k_X11_raises) rfl rfl rfl (by decide +kernel) ⟨by exact Nat.le_of_ble_eq_true rfl, by exact Nat.le_of_ble_eq_true rfl⟩) (j_preV hK hSX hG (ci := 10) rfl ka0 (by decide)) rfl rfl hl.1 rfl (lv_room (Nat.le_of_ble_eq_true rfl)) dX11_cause_37 ⟨by exact Nat.le_of_ble_eq_true rfl, by exact Nat.le_of_ble_eq_true rfl⟩) hG (c2 := 0) (s2 := 0) ⟨by exact Nat.le_of_ble_eq_true rfl, by exact Nat.le_of_ble_eq_true rfl⟩ (fun z18 M19 h H locs hG => ?_)
      exact jK16 z18 M19 h H locs hG ls (lv_sub hl [] rfl)
    · have h := h.2 c17
      refine lv_aload_n hx hb dX11_cause_26 rfl (lv_at hl 0 rfl) ?_
      refine lv_iload_n hx hb dX11_cause_27 rfl (lv_at hl 1 rfl) ?_
      refine lv_iload_n hx hb dX11_cause_28 rfl (lv_at hl 2 rfl) ?_
      refine j_conti (va_runV (As := [.int (J a1), .int (J a2)]) (rest := []) ⟨hx, hb, hml, hown, hts⟩ (A_X11_causeOf l ka0 h) (cwV 2 hts (gj_V ml_RX11_222 i_X11_causeOf s_X11_causeOf n_RX11 k_X11_causeOf) rfl rfl rfl (by decide +kernel) ⟨by exact Nat.le_of_ble_eq_true rfl, by exact Nat.le_of_ble_eq_true rfl⟩) (j_preV hK hSX hG (ci := 10) rfl ka0 (by decide)) rfl rfl hl.1 rfl (lv_room (Nat.le_of_ble_eq_true rfl)) dX11_cause_29 ⟨by exact Nat.le_of_ble_eq_true rfl, by exact Nat.le_of_ble_eq_true rfl⟩) hG (c2 := 0) (s2 := 0) ⟨by exact Nat.le_of_ble_eq_true rfl, by exact Nat.le_of_ble_eq_true rfl⟩ (fun z20 M21 h H locs hG => ?_)
      refine lv_goto (tgt := 40) hx hb dX11_cause_32 (by decide) ?_
      exact jK16 z20 M21 h H locs hG ls (lv_sub hl [] rfl)
  · have h := h.2 c5
    refine lv_aload_n hx hb dX11_cause_13 rfl (lv_at hl 0 rfl) ?_
    refine lv_iconst (v := J 1) hx hb dX11_cause_14 (by decide) ?_
    refine j_conti (va_runV (As := [.int (J 1)]) (rest := []) ⟨hx, hb, hml, hown, hts⟩ (A_X11_raises l ka0 h) (cwV 1 hts (gj_V ml_RX11_110 i_X11_raises s_X11_raises n_RX11 k_X11_raises) rfl rfl rfl (by decide +kernel) ⟨by exact Nat.le_of_ble_eq_true rfl, by exact Nat.le_of_ble_eq_true rfl⟩) (j_preV hK hSX hG (ci := 10) rfl ka0 (by decide)) rfl rfl hl.1 rfl (lv_room (Nat.le_of_ble_eq_true rfl)) dX11_cause_15 ⟨by exact Nat.le_of_ble_eq_true rfl, by exact Nat.le_of_ble_eq_true rfl⟩) hG (c2 := 0) (s2 := 0) ⟨by exact Nat.le_of_ble_eq_true rfl, by exact Nat.le_of_ble_eq_true rfl⟩ (fun z22 M23 h H locs hG => ?_)
    rw [hQf]
    exact j_ireti hx hb hr hlocks hG h (by decide) dX11_cause_18

abbrev rm_X11_toInstant : Room := { frames := 7, cells := 0, slots := 0, locals := 172 }
set_option maxRecDepth 100000 in
set_option maxHeartbeats 4000000 in
theorem A_X11_toInstant (l : Launch) {D : va_G} {cy : Nat → ClassId} {o : Nat} {sK sV : Nat → Nat} {M : jT} {a0 : Int} {a1 : Int} {a2 : Int} {a3 : Int} (ka0 : kd a0 = 11) {Q : Int → jT → Prop} (h : wp_X11_toInstant M a0 a1 a2 a3 Q) : CoI l yX11_toInstant (wj yX11_toInstant cX11_toInstant 4 (some .int)) rm_X11_toInstant D cy o sK sV M [.ref (rA o a0), .int (J a1), .int (J a2), .int (J a3)] Q := by
  refine j_ofW (cc := cX11_toInstant) (maxL := 4) (ret := (some .int)) (by decide) rfl (Nat.le_of_ble_eq_true rfl) ?_
  intro p e s m args below meth c hx hb hr hlocks hml hown hts hK hSX H locs hG ls hl Qf hQf
  have hown : s.vm.findClass RX11 = some m.cls := hown
  have hl : lv_has ls 4 [(0, .ref (rA o a0)), (1, .int (J a1)), (2, .int (J a2)), (3, .int (J a3))] := hl
  have w_fl_RX11_80 := hts _ (List.mem_cons_of_mem _ fl_RX11_80)
  have w_fl_RX11_213 := hts _ (List.mem_cons_of_mem _ fl_RX11_213)
  unfold wp_X11_toInstant at h
  refine lv_aload_n hx hb dX11_toInstant_0 rfl (lv_at hl 0 rfl) ?_
  refine lv_iconst (v := J 0) hx hb dX11_toInstant_1 (by decide) ?_
  refine j_puti hx hb hts hown hK hG (k := a0) (fun w h => List.mem_cons_of_mem _ (u_X11 w h)) tyX11 tyX11_ok nmX11 (ci := 10) rfl ka0 0 (by decide) (jz := 0) rfl w_fl_RX11_80 (hd := rfl) (hn := rfl) (hfit := rfl) (hdg := dX11_toInstant_2) (fun M1 eM1 H locs hG => ?_)
  have h := h M1 eM1
  refine lv_aload_n hx hb dX11_toInstant_5 rfl (lv_at hl 0 rfl) ?_
  refine lv_iload_n hx hb dX11_toInstant_6 rfl (lv_at hl 1 rfl) ?_
  obtain ⟨g2, h⟩ := h
  refine j_conti (va_runV (As := [.int (J a1)]) (rest := []) ⟨hx, hb, hml, hown, hts⟩ (A_X11_isZone l ka0 g2) (cwV 1 hts (gj_V ml_RX11_126 i_X11_isZone s_X11_isZone n_RX11 k_X11_isZone) rfl rfl rfl (by decide +kernel) ⟨by exact Nat.le_of_ble_eq_true rfl, by exact Nat.le_of_ble_eq_true rfl⟩) (j_preV hK hSX hG (ci := 10) rfl ka0 (by decide)) rfl rfl hl.1 rfl (lv_room (Nat.le_of_ble_eq_true rfl)) dX11_toInstant_7 ⟨by exact Nat.le_of_ble_eq_true rfl, by exact Nat.le_of_ble_eq_true rfl⟩) hG (c2 := 0) (s2 := 0) ⟨by exact Nat.le_of_ble_eq_true rfl, by exact Nat.le_of_ble_eq_true rfl⟩ (fun z3 M4 ez3 H locs hG => ?_)
  obtain ⟨ez3, eM4⟩ := ez3
  subst ez3
  rw [eM4] at hG
  refine j_if_ne_b (tgt := 19) hx hb dX11_toInstant_10 (by decide) (fun c5 => ?_) (fun c5 => ?_)
  · have h := h.1 c5
    refine lv_iload_n hx hb dX11_toInstant_19 rfl (lv_at hl 2 rfl) ?_
    obtain ⟨g6, h⟩ := h
    refine j_conti (va_runS (As := [.int (J a2)]) (rest := []) ⟨hx, hb, hml, hown, hts⟩ (A_X11_isLocal l g6) (va_cwS 1 hts (gj_S ml_RX11_225 i_X11_isLocal n_RX11 k_X11_isLocal) rfl rfl rfl (by decide +kernel) ⟨by exact Nat.le_of_ble_eq_true rfl, by exact Nat.le_of_ble_eq_true rfl⟩) (j_preS hK hSX hG) rfl rfl hl.1 rfl (lv_room (Nat.le_of_ble_eq_true rfl)) dX11_toInstant_20 ⟨by exact Nat.le_of_ble_eq_true rfl, by exact Nat.le_of_ble_eq_true rfl⟩) hG (c2 := 0) (s2 := 0) ⟨by exact Nat.le_of_ble_eq_true rfl, by exact Nat.le_of_ble_eq_true rfl⟩ (fun z7 M8 ez7 H locs hG => ?_)
    obtain ⟨ez7, eM8⟩ := ez7
    subst ez7
    rw [eM8] at hG
    obtain ⟨K27, hK27, h⟩ := h
    have jK27 : K27 → ∀ (H : Heap) (locs : List Loc), GM D cy o M1 s.heap H locs → ∀ ls : Array Slot, lv_has ls 4 [(0, .ref (rA o a0))] → W p l e rm_X11_toInstant s m args below meth c H locs 0 0 Qf (F0 m 35 ls []) := by
      intro hcK27 H locs hG ls hl
      have h := hK27 hcK27
      refine lv_aload_n hx hb dX11_toInstant_35 rfl (lv_at hl 0 rfl) ?_
      refine lv_iconst (v := J 2) hx hb dX11_toInstant_36 (by decide) ?_
      refine j_conti (va_runV (As := [.int (J 2)]) (rest := []) ⟨hx, hb, hml, hown, hts⟩ (A_X11_raises l ka0 h) (cwV 1 hts (gj_V ml_RX11_110 i_X11_raises s_X11_raises n_RX11 k_X11_raises) rfl rfl rfl (by decide +kernel) ⟨by exact Nat.le_of_ble_eq_true rfl, by exact Nat.le_of_ble_eq_true rfl⟩) (j_preV hK hSX hG (ci := 10) rfl ka0 (by decide)) rfl rfl hl.1 rfl (lv_room (Nat.le_of_ble_eq_true rfl)) dX11_toInstant_37 ⟨by exact Nat.le_of_ble_eq_true rfl, by exact Nat.le_of_ble_eq_true rfl⟩) hG (c2 := 0) (s2 := 0) ⟨by exact Nat.le_of_ble_eq_true rfl, by exact Nat.le_of_ble_eq_true rfl⟩ (fun z28 M29 h H locs hG => ?_)
      rw [hQf]
      exact j_ireti hx hb hr hlocks hG h (by decide) dX11_toInstant_40
    refine j_if_eq_b (tgt := 35) hx hb dX11_toInstant_23 (by decide) (fun c30 => ?_) (fun c30 => ?_)
    · have h := h.1 c30
      exact jK27 h H locs hG ls (lv_sub hl [0] rfl)
    · have h := h.2 c30
      refine lv_iload_n hx hb dX11_toInstant_26 rfl (lv_at hl 3 rfl) ?_
      refine lv_iconst (v := J 0) hx hb dX11_toInstant_27 (by decide) ?_
      refine lv_iconst (v := J 3) hx hb dX11_toInstant_28 (by decide) ?_
      obtain ⟨g31, h⟩ := h
      refine j_conti (va_runS (As := [.int (J a3), .int (J 0), .int (J 3)]) (rest := []) ⟨hx, hb, hml, hown, hts⟩ (A_X11_in l g31) (va_cwS 3 hts (gj_S ml_RX11_106 i_X11_in n_RX11 k_X11_in) rfl rfl rfl (by decide +kernel) ⟨by exact Nat.le_of_ble_eq_true rfl, by exact Nat.le_of_ble_eq_true rfl⟩) (j_preS hK hSX hG) rfl rfl hl.1 rfl (lv_room (Nat.le_of_ble_eq_true rfl)) dX11_toInstant_29 ⟨by exact Nat.le_of_ble_eq_true rfl, by exact Nat.le_of_ble_eq_true rfl⟩) hG (c2 := 0) (s2 := 0) ⟨by exact Nat.le_of_ble_eq_true rfl, by exact Nat.le_of_ble_eq_true rfl⟩ (fun z32 M33 ez32 H locs hG => ?_)
      obtain ⟨ez32, eM33⟩ := ez32
      subst ez32
      rw [eM33] at hG
      refine j_if_ne_b (tgt := 41) hx hb dX11_toInstant_32 (by decide) (fun c34 => ?_) (fun c34 => ?_)
      · have h := h.1 c34
        refine lv_aload_n hx hb dX11_toInstant_41 rfl (lv_at hl 0 rfl) ?_
        refine lv_iload_n hx hb dX11_toInstant_42 rfl (lv_at hl 1 rfl) ?_
        refine lv_iload_n hx hb dX11_toInstant_43 rfl (lv_at hl 2 rfl) ?_
        refine lv_iload_n hx hb dX11_toInstant_44 rfl (lv_at hl 3 rfl) ?_
        refine j_conti (va_runV (As := [.int (J a1), .int (J a2), .int (J a3)]) (rest := []) ⟨hx, hb, hml, hown, hts⟩ (A_X11_tells l ka0 h) (cwV 3 hts (gj_V ml_RX11_228 i_X11_tells s_X11_tells n_RX11 k_X11_tells) rfl rfl rfl (by decide +kernel) ⟨by exact Nat.le_of_ble_eq_true rfl, by exact Nat.le_of_ble_eq_true rfl⟩) (j_preV hK hSX hG (ci := 10) rfl ka0 (by decide)) rfl rfl hl.1 rfl (lv_room (Nat.le_of_ble_eq_true rfl)) dX11_toInstant_45 ⟨by exact Nat.le_of_ble_eq_true rfl, by exact Nat.le_of_ble_eq_true rfl⟩) hG (c2 := 0) (s2 := 0) ⟨by exact Nat.le_of_ble_eq_true rfl, by exact Nat.le_of_ble_eq_true rfl⟩ (fun z35 M36 h H locs hG => ?_)
        obtain ⟨K43, hK43, h⟩ := h
        have jK43 : ∀ (x41 : Int) (M42 : jT), K43 x41 M42 → ∀ (H : Heap) (locs : List Loc), GM D cy o M42 s.heap H locs → ∀ ls : Array Slot, lv_has ls 4 [] → W p l e rm_X11_toInstant s m args below meth c H locs 0 0 Qf (F0 m 63 ls [.int (J x41)]) := by
          intro x41 M42 hcK43 H locs hG ls hl
          have h := hK43 x41 M42 hcK43
          rw [hQf]
          exact j_ireti hx hb hr hlocks hG h (by decide) dX11_toInstant_63
        obtain ⟨g45, h⟩ := h
        refine j_if_eq (tgt := 58) hx hb dX11_toInstant_48 (by decide) g45 (fun c44 => ?_) (fun c44 => ?_)
        · have h := h.1 c44
          refine lv_aload_n hx hb dX11_toInstant_58 rfl (lv_at hl 0 rfl) ?_
          refine lv_iconst (v := J 3) hx hb dX11_toInstant_59 (by decide) ?_
          refine j_conti (va_runV (As := [.int (J 3)]) (rest := []) ⟨hx, hb, hml, hown, hts⟩ (A_X11_raises l ka0 h) (cwV 1 hts (gj_V ml_RX11_110 i_X11_raises s_X11_raises n_RX11 k_X11_raises) rfl rfl rfl (by decide +kernel) ⟨by exact Nat.le_of_ble_eq_true rfl, by exact Nat.le_of_ble_eq_true rfl⟩) (j_preV hK hSX hG (ci := 10) rfl ka0 (by decide)) rfl rfl hl.1 rfl (lv_room (Nat.le_of_ble_eq_true rfl)) dX11_toInstant_60 ⟨by exact Nat.le_of_ble_eq_true rfl, by exact Nat.le_of_ble_eq_true rfl⟩) hG (c2 := 0) (s2 := 0) ⟨by exact Nat.le_of_ble_eq_true rfl, by exact Nat.le_of_ble_eq_true rfl⟩ (fun z46 M47 h H locs hG => ?_)
          exact jK43 z46 M47 h H locs hG ls (lv_sub hl [] rfl)
        · have h := h.2 c44
          refine lv_aload_n hx hb dX11_toInstant_51 rfl (lv_at hl 0 rfl) ?_
          refine j_geti hx hb hts hown hK hG (k := a0) (fun w h => List.mem_cons_of_mem _ (u_X11 w h)) (ci := 10) rfl ka0 28 (by decide) (jz := 28) rfl w_fl_RX11_213 dX11_toInstant_52 ?_
          refine lv_goto (tgt := 63) hx hb dX11_toInstant_55 (by decide) ?_
          exact jK43 (M36 a0 28) M36 h H locs hG ls (lv_sub hl [] rfl)
      · have h := h.2 c34
        exact jK27 h H locs hG ls (lv_sub hl [0] rfl)
  · have h := h.2 c5
    refine lv_aload_n hx hb dX11_toInstant_13 rfl (lv_at hl 0 rfl) ?_
    refine lv_iconst (v := J 1) hx hb dX11_toInstant_14 (by decide) ?_
    refine j_conti (va_runV (As := [.int (J 1)]) (rest := []) ⟨hx, hb, hml, hown, hts⟩ (A_X11_raises l ka0 h) (cwV 1 hts (gj_V ml_RX11_110 i_X11_raises s_X11_raises n_RX11 k_X11_raises) rfl rfl rfl (by decide +kernel) ⟨by exact Nat.le_of_ble_eq_true rfl, by exact Nat.le_of_ble_eq_true rfl⟩) (j_preV hK hSX hG (ci := 10) rfl ka0 (by decide)) rfl rfl hl.1 rfl (lv_room (Nat.le_of_ble_eq_true rfl)) dX11_toInstant_15 ⟨by exact Nat.le_of_ble_eq_true rfl, by exact Nat.le_of_ble_eq_true rfl⟩) hG (c2 := 0) (s2 := 0) ⟨by exact Nat.le_of_ble_eq_true rfl, by exact Nat.le_of_ble_eq_true rfl⟩ (fun z48 M49 h H locs hG => ?_)
    rw [hQf]
    exact j_ireti hx hb hr hlocks hG h (by decide) dX11_toInstant_18

abbrev rm_X11_convert : Room := { frames := 7, cells := 0, slots := 0, locals := 172 }
set_option maxRecDepth 100000 in
set_option maxHeartbeats 4000000 in
theorem A_X11_convert (l : Launch) {D : va_G} {cy : Nat → ClassId} {o : Nat} {sK sV : Nat → Nat} {M : jT} {a0 : Int} {a1 : Int} {a2 : Int} {a3 : Int} {a4 : Int} (ka0 : kd a0 = 11) {Q : Int → jT → Prop} (h : wp_X11_convert M a0 a1 a2 a3 a4 Q) : CoI l yX11_convert (wj yX11_convert cX11_convert 6 (some .int)) rm_X11_convert D cy o sK sV M [.ref (rA o a0), .int (J a1), .int (J a2), .int (J a3), .int (J a4)] Q := by
  refine j_ofW (cc := cX11_convert) (maxL := 6) (ret := (some .int)) (by decide) rfl (Nat.le_of_ble_eq_true rfl) ?_
  intro p e s m args below meth c hx hb hr hlocks hml hown hts hK hSX H locs hG ls hl Qf hQf
  have hown : s.vm.findClass RX11 = some m.cls := hown
  have hl : lv_has ls 6 [(0, .ref (rA o a0)), (1, .int (J a1)), (2, .int (J a2)), (3, .int (J a3)), (4, .int (J a4))] := hl
  have w_fl_RX11_80 := hts _ (List.mem_cons_of_mem _ fl_RX11_80)
  have w_fl_RX11_213 := hts _ (List.mem_cons_of_mem _ fl_RX11_213)
  unfold wp_X11_convert at h
  refine lv_aload_n hx hb dX11_convert_0 rfl (lv_at hl 0 rfl) ?_
  refine lv_iconst (v := J 0) hx hb dX11_convert_1 (by decide) ?_
  refine j_puti hx hb hts hown hK hG (k := a0) (fun w h => List.mem_cons_of_mem _ (u_X11 w h)) tyX11 tyX11_ok nmX11 (ci := 10) rfl ka0 0 (by decide) (jz := 0) rfl w_fl_RX11_80 (hd := rfl) (hn := rfl) (hfit := rfl) (hdg := dX11_convert_2) (fun M1 eM1 H locs hG => ?_)
  have h := h M1 eM1
  refine lv_aload_n hx hb dX11_convert_5 rfl (lv_at hl 0 rfl) ?_
  refine lv_iload_n hx hb dX11_convert_6 rfl (lv_at hl 1 rfl) ?_
  obtain ⟨g2, h⟩ := h
  refine j_conti (va_runV (As := [.int (J a1)]) (rest := []) ⟨hx, hb, hml, hown, hts⟩ (A_X11_isZone l ka0 g2) (cwV 1 hts (gj_V ml_RX11_126 i_X11_isZone s_X11_isZone n_RX11 k_X11_isZone) rfl rfl rfl (by decide +kernel) ⟨by exact Nat.le_of_ble_eq_true rfl, by exact Nat.le_of_ble_eq_true rfl⟩) (j_preV hK hSX hG (ci := 10) rfl ka0 (by decide)) rfl rfl hl.1 rfl (lv_room (Nat.le_of_ble_eq_true rfl)) dX11_convert_7 ⟨by exact Nat.le_of_ble_eq_true rfl, by exact Nat.le_of_ble_eq_true rfl⟩) hG (c2 := 0) (s2 := 0) ⟨by exact Nat.le_of_ble_eq_true rfl, by exact Nat.le_of_ble_eq_true rfl⟩ (fun z3 M4 ez3 H locs hG => ?_)
  obtain ⟨ez3, eM4⟩ := ez3
  subst ez3
  rw [eM4] at hG
  obtain ⟨K44, hK44, h⟩ := h
  have jK44 : K44 → ∀ (H : Heap) (locs : List Loc), GM D cy o M1 s.heap H locs → ∀ ls : Array Slot, lv_has ls 6 [(0, .ref (rA o a0))] → W p l e rm_X11_convert s m args below meth c H locs 0 0 Qf (F0 m 21 ls []) := by
    intro hcK44 H locs hG ls hl
    have h := hK44 hcK44
    refine lv_aload_n hx hb dX11_convert_21 rfl (lv_at hl 0 rfl) ?_
    refine lv_iconst (v := J 1) hx hb dX11_convert_22 (by decide) ?_
    refine j_conti (va_runV (As := [.int (J 1)]) (rest := []) ⟨hx, hb, hml, hown, hts⟩ (A_X11_raises l ka0 h) (cwV 1 hts (gj_V ml_RX11_110 i_X11_raises s_X11_raises n_RX11 k_X11_raises) rfl rfl rfl (by decide +kernel) ⟨by exact Nat.le_of_ble_eq_true rfl, by exact Nat.le_of_ble_eq_true rfl⟩) (j_preV hK hSX hG (ci := 10) rfl ka0 (by decide)) rfl rfl hl.1 rfl (lv_room (Nat.le_of_ble_eq_true rfl)) dX11_convert_23 ⟨by exact Nat.le_of_ble_eq_true rfl, by exact Nat.le_of_ble_eq_true rfl⟩) hG (c2 := 0) (s2 := 0) ⟨by exact Nat.le_of_ble_eq_true rfl, by exact Nat.le_of_ble_eq_true rfl⟩ (fun z45 M46 h H locs hG => ?_)
    rw [hQf]
    exact j_ireti hx hb hr hlocks hG h (by decide) dX11_convert_26
  refine j_if_eq_b (tgt := 21) hx hb dX11_convert_10 (by decide) (fun c47 => ?_) (fun c47 => ?_)
  · have h := h.1 c47
    exact jK44 h H locs hG ls (lv_sub hl [0] rfl)
  · have h := h.2 c47
    refine lv_aload_n hx hb dX11_convert_13 rfl (lv_at hl 0 rfl) ?_
    refine lv_iload_n hx hb dX11_convert_14 rfl (lv_at hl 3 rfl) ?_
    obtain ⟨g48, h⟩ := h
    refine j_conti (va_runV (As := [.int (J a3)]) (rest := []) ⟨hx, hb, hml, hown, hts⟩ (A_X11_isZone l ka0 g48) (cwV 1 hts (gj_V ml_RX11_126 i_X11_isZone s_X11_isZone n_RX11 k_X11_isZone) rfl rfl rfl (by decide +kernel) ⟨by exact Nat.le_of_ble_eq_true rfl, by exact Nat.le_of_ble_eq_true rfl⟩) (j_preV hK hSX hG (ci := 10) rfl ka0 (by decide)) rfl rfl hl.1 rfl (lv_room (Nat.le_of_ble_eq_true rfl)) dX11_convert_15 ⟨by exact Nat.le_of_ble_eq_true rfl, by exact Nat.le_of_ble_eq_true rfl⟩) hG (c2 := 0) (s2 := 0) ⟨by exact Nat.le_of_ble_eq_true rfl, by exact Nat.le_of_ble_eq_true rfl⟩ (fun z49 M50 ez49 H locs hG => ?_)
    obtain ⟨ez49, eM50⟩ := ez49
    subst ez49
    rw [eM50] at hG
    refine j_if_ne_b (tgt := 27) hx hb dX11_convert_18 (by decide) (fun c51 => ?_) (fun c51 => ?_)
    · have h := h.1 c51
      refine lv_iload_n hx hb dX11_convert_27 rfl (lv_at hl 2 rfl) ?_
      obtain ⟨g52, h⟩ := h
      refine j_conti (va_runS (As := [.int (J a2)]) (rest := []) ⟨hx, hb, hml, hown, hts⟩ (A_X11_isLocal l g52) (va_cwS 1 hts (gj_S ml_RX11_225 i_X11_isLocal n_RX11 k_X11_isLocal) rfl rfl rfl (by decide +kernel) ⟨by exact Nat.le_of_ble_eq_true rfl, by exact Nat.le_of_ble_eq_true rfl⟩) (j_preS hK hSX hG) rfl rfl hl.1 rfl (lv_room (Nat.le_of_ble_eq_true rfl)) dX11_convert_28 ⟨by exact Nat.le_of_ble_eq_true rfl, by exact Nat.le_of_ble_eq_true rfl⟩) hG (c2 := 0) (s2 := 0) ⟨by exact Nat.le_of_ble_eq_true rfl, by exact Nat.le_of_ble_eq_true rfl⟩ (fun z53 M54 ez53 H locs hG => ?_)
      obtain ⟨ez53, eM54⟩ := ez53
      subst ez53
      rw [eM54] at hG
      obtain ⟨K69, hK69, h⟩ := h
      have jK69 : K69 → ∀ (H : Heap) (locs : List Loc), GM D cy o M1 s.heap H locs → ∀ ls : Array Slot, lv_has ls 6 [(0, .ref (rA o a0))] → W p l e rm_X11_convert s m args below meth c H locs 0 0 Qf (F0 m 44 ls []) := by
        intro hcK69 H locs hG ls hl
        have h := hK69 hcK69
        refine lv_aload_n hx hb dX11_convert_44 rfl (lv_at hl 0 rfl) ?_
        refine lv_iconst (v := J 2) hx hb dX11_convert_45 (by decide) ?_
        refine j_conti (va_runV (As := [.int (J 2)]) (rest := []) ⟨hx, hb, hml, hown, hts⟩ (A_X11_raises l ka0 h) (cwV 1 hts (gj_V ml_RX11_110 i_X11_raises s_X11_raises n_RX11 k_X11_raises) rfl rfl rfl (by decide +kernel) ⟨by exact Nat.le_of_ble_eq_true rfl, by exact Nat.le_of_ble_eq_true rfl⟩) (j_preV hK hSX hG (ci := 10) rfl ka0 (by decide)) rfl rfl hl.1 rfl (lv_room (Nat.le_of_ble_eq_true rfl)) dX11_convert_46 ⟨by exact Nat.le_of_ble_eq_true rfl, by exact Nat.le_of_ble_eq_true rfl⟩) hG (c2 := 0) (s2 := 0) ⟨by exact Nat.le_of_ble_eq_true rfl, by exact Nat.le_of_ble_eq_true rfl⟩ (fun z70 M71 h H locs hG => ?_)
        rw [hQf]
        exact j_ireti hx hb hr hlocks hG h (by decide) dX11_convert_49
      refine j_if_eq_b (tgt := 44) hx hb dX11_convert_31 (by decide) (fun c72 => ?_) (fun c72 => ?_)
      · have h := h.1 c72
        exact jK69 h H locs hG ls (lv_sub hl [0] rfl)
      · have h := h.2 c72
        refine lv_iload hx hb dX11_convert_34 (lv_at hl 4 rfl) ?_
        refine lv_iconst (v := J 0) hx hb dX11_convert_36 (by decide) ?_
        refine lv_iconst (v := J 3) hx hb dX11_convert_37 (by decide) ?_
        obtain ⟨g73, h⟩ := h
        refine j_conti (va_runS (As := [.int (J a4), .int (J 0), .int (J 3)]) (rest := []) ⟨hx, hb, hml, hown, hts⟩ (A_X11_in l g73) (va_cwS 3 hts (gj_S ml_RX11_106 i_X11_in n_RX11 k_X11_in) rfl rfl rfl (by decide +kernel) ⟨by exact Nat.le_of_ble_eq_true rfl, by exact Nat.le_of_ble_eq_true rfl⟩) (j_preS hK hSX hG) rfl rfl hl.1 rfl (lv_room (Nat.le_of_ble_eq_true rfl)) dX11_convert_38 ⟨by exact Nat.le_of_ble_eq_true rfl, by exact Nat.le_of_ble_eq_true rfl⟩) hG (c2 := 0) (s2 := 0) ⟨by exact Nat.le_of_ble_eq_true rfl, by exact Nat.le_of_ble_eq_true rfl⟩ (fun z74 M75 ez74 H locs hG => ?_)
        obtain ⟨ez74, eM75⟩ := ez74
        subst ez74
        rw [eM75] at hG
        refine j_if_ne_b (tgt := 50) hx hb dX11_convert_41 (by decide) (fun c76 => ?_) (fun c76 => ?_)
        · have h := h.1 c76
          refine lv_aload_n hx hb dX11_convert_50 rfl (lv_at hl 0 rfl) ?_
          refine lv_iload_n hx hb dX11_convert_51 rfl (lv_at hl 1 rfl) ?_
          refine lv_iload_n hx hb dX11_convert_52 rfl (lv_at hl 2 rfl) ?_
          refine lv_iload hx hb dX11_convert_53 (lv_at hl 4 rfl) ?_
          refine j_conti (va_runV (As := [.int (J a1), .int (J a2), .int (J a4)]) (rest := []) ⟨hx, hb, hml, hown, hts⟩ (A_X11_tells l ka0 h) (cwV 3 hts (gj_V ml_RX11_228 i_X11_tells s_X11_tells n_RX11 k_X11_tells) rfl rfl rfl (by decide +kernel) ⟨by exact Nat.le_of_ble_eq_true rfl, by exact Nat.le_of_ble_eq_true rfl⟩) (j_preV hK hSX hG (ci := 10) rfl ka0 (by decide)) rfl rfl hl.1 rfl (lv_room (Nat.le_of_ble_eq_true rfl)) dX11_convert_55 ⟨by exact Nat.le_of_ble_eq_true rfl, by exact Nat.le_of_ble_eq_true rfl⟩) hG (c2 := 0) (s2 := 0) ⟨by exact Nat.le_of_ble_eq_true rfl, by exact Nat.le_of_ble_eq_true rfl⟩ (fun z77 M78 h H locs hG => ?_)
          obtain ⟨g80, h⟩ := h
          refine j_if_ne (tgt := 67) hx hb dX11_convert_58 (by decide) g80 (fun c79 => ?_) (fun c79 => ?_)
          · have h := h.1 c79
            refine lv_aload_n hx hb dX11_convert_67 rfl (lv_at hl 0 rfl) ?_
            refine j_geti hx hb hts hown hK hG (k := a0) (fun w h => List.mem_cons_of_mem _ (u_X11 w h)) (ci := 10) rfl ka0 28 (by decide) (jz := 28) rfl w_fl_RX11_213 dX11_convert_68 ?_
            refine j_topi (fun x81 ex81 => ?_)
            have h := h x81 ex81
            refine lv_istore (lv' := [(5, .int (J x81)), (0, .ref (rA o a0)), (1, .int (J a1)), (2, .int (J a2)), (3, .int (J a3)), (4, .int (J a4))]) hx hb dX11_convert_71 hl (by decide) rfl (fun ls hl => ?_)
            refine lv_iload hx hb dX11_convert_73 (lv_at hl 0 rfl) ?_
            refine lv_aload_n hx hb dX11_convert_75 rfl (lv_at hl 1 rfl) ?_
            refine lv_iload_n hx hb dX11_convert_76 rfl (lv_at hl 4 rfl) ?_
            refine lv_iload hx hb dX11_convert_77 (lv_at hl 0 rfl) ?_
            refine j_conti (va_runV (As := [.int (J a3), .int (J x81)]) (rest := [.int (J x81)]) ⟨hx, hb, hml, hown, hts⟩ (A_X11_offsetAt l ka0 h) (cwV 2 hts (gj_V ml_RX11_206 i_X11_offsetAt s_X11_offsetAt n_RX11 k_X11_offsetAt) rfl rfl rfl (by decide +kernel) ⟨by exact Nat.le_of_ble_eq_true rfl, by exact Nat.le_of_ble_eq_true rfl⟩) (j_preV hK hSX hG (ci := 10) rfl ka0 (by decide)) rfl rfl hl.1 rfl (lv_room (Nat.le_of_ble_eq_true rfl)) dX11_convert_79 ⟨by exact Nat.le_of_ble_eq_true rfl, by exact Nat.le_of_ble_eq_true rfl⟩) hG (c2 := 0) (s2 := 0) ⟨by exact Nat.le_of_ble_eq_true rfl, by exact Nat.le_of_ble_eq_true rfl⟩ (fun z82 M83 h H locs hG => ?_)
            refine j_iadd hx hb dX11_convert_82 ?_
            rw [hQf]
            exact j_ireti hx hb hr hlocks hG h (by decide) dX11_convert_83
          · have h := h.2 c79
            refine lv_aload_n hx hb dX11_convert_61 rfl (lv_at hl 0 rfl) ?_
            refine lv_iconst (v := J 3) hx hb dX11_convert_62 (by decide) ?_
            refine j_conti (va_runV (As := [.int (J 3)]) (rest := []) ⟨hx, hb, hml, hown, hts⟩ (A_X11_raises l ka0 h) (cwV 1 hts (gj_V ml_RX11_110 i_X11_raises s_X11_raises n_RX11 k_X11_raises) rfl rfl rfl (by decide +kernel) ⟨by exact Nat.le_of_ble_eq_true rfl, by exact Nat.le_of_ble_eq_true rfl⟩) (j_preV hK hSX hG (ci := 10) rfl ka0 (by decide)) rfl rfl hl.1 rfl (lv_room (Nat.le_of_ble_eq_true rfl)) dX11_convert_63 ⟨by exact Nat.le_of_ble_eq_true rfl, by exact Nat.le_of_ble_eq_true rfl⟩) hG (c2 := 0) (s2 := 0) ⟨by exact Nat.le_of_ble_eq_true rfl, by exact Nat.le_of_ble_eq_true rfl⟩ (fun z84 M85 h H locs hG => ?_)
            rw [hQf]
            exact j_ireti hx hb hr hlocks hG h (by decide) dX11_convert_66
        · have h := h.2 c76
          exact jK69 h H locs hG ls (lv_sub hl [0] rfl)
    · have h := h.2 c51
      exact jK44 h H locs hG ls (lv_sub hl [0] rfl)

abbrev rm_X11_begins : Room := { frames := 7, cells := 0, slots := 0, locals := 172 }
set_option maxRecDepth 100000 in
set_option maxHeartbeats 4000000 in
theorem A_X11_begins (l : Launch) {D : va_G} {cy : Nat → ClassId} {o : Nat} {sK sV : Nat → Nat} {M : jT} {a0 : Int} {a1 : Int} {a2 : Int} (ka0 : kd a0 = 11) {Q : Int → jT → Prop} (h : wp_X11_begins M a0 a1 a2 Q) : CoI l yX11_begins (wj yX11_begins cX11_begins 3 (some .int)) rm_X11_begins D cy o sK sV M [.ref (rA o a0), .int (J a1), .int (J a2)] Q := by
  refine j_ofW (cc := cX11_begins) (maxL := 3) (ret := (some .int)) (by decide) rfl (Nat.le_of_ble_eq_true rfl) ?_
  intro p e s m args below meth c hx hb hr hlocks hml hown hts hK hSX H locs hG ls hl Qf hQf
  have hown : s.vm.findClass RX11 = some m.cls := hown
  have hl : lv_has ls 3 [(0, .ref (rA o a0)), (1, .int (J a1)), (2, .int (J a2))] := hl
  have w_fl_RX11_213 := hts _ (List.mem_cons_of_mem _ fl_RX11_213)
  unfold wp_X11_begins at h
  refine lv_aload_n hx hb dX11_begins_0 rfl (lv_at hl 0 rfl) ?_
  refine lv_iload_n hx hb dX11_begins_1 rfl (lv_at hl 1 rfl) ?_
  refine lv_sipush (v := J 1440) hx hb dX11_begins_2 (by decide) ?_
  refine lv_iload_n hx hb dX11_begins_5 rfl (lv_at hl 2 rfl) ?_
  refine j_imul hx hb dX11_begins_6 ?_
  refine lv_iconst (v := J 2) hx hb dX11_begins_7 (by decide) ?_
  refine j_conti (va_runV (As := [.int (J a1), .int (J (1440 * a2)), .int (J 2)]) (rest := []) ⟨hx, hb, hml, hown, hts⟩ (A_X11_tells l ka0 h) (cwV 3 hts (gj_V ml_RX11_228 i_X11_tells s_X11_tells n_RX11 k_X11_tells) rfl rfl rfl (by decide +kernel) ⟨by exact Nat.le_of_ble_eq_true rfl, by exact Nat.le_of_ble_eq_true rfl⟩) (j_preV hK hSX hG (ci := 10) rfl ka0 (by decide)) rfl rfl hl.1 rfl (lv_room (Nat.le_of_ble_eq_true rfl)) dX11_begins_8 ⟨by exact Nat.le_of_ble_eq_true rfl, by exact Nat.le_of_ble_eq_true rfl⟩) hG (c2 := 0) (s2 := 0) ⟨by exact Nat.le_of_ble_eq_true rfl, by exact Nat.le_of_ble_eq_true rfl⟩ (fun z1 M2 h H locs hG => ?_)
  obtain ⟨hg, h⟩ := h
  have jK6 : ∀ x5 : Int, (z1 = 0 → x5 = 0) → (z1 ≠ 0 → x5 = M2 a0 28) → ∀ (H : Heap) (locs : List Loc), GM D cy o M2 s.heap H locs → ∀ ls : Array Slot, lv_has ls 3 [] → W p l e rm_X11_begins s m args below meth c H locs 0 0 Qf (F0 m 22 ls [.int (J x5)]) := by
    intro x5 qx5_0 qx5_1 H locs hG ls hl
    have h := h x5 qx5_0 qx5_1
    rw [hQf]
    exact j_ireti hx hb hr hlocks hG h (by decide) dX11_begins_22
  have h := hg
  obtain ⟨g8, h⟩ := h
  refine j_if_eq (tgt := 21) hx hb dX11_begins_11 (by decide) g8 (fun c7 => ?_) (fun c7 => ?_)
  · have h := h.1 c7
    refine lv_iconst (v := J 0) hx hb dX11_begins_21 (by decide) ?_
    exact jK6 0 (fun _ => rfl) (fun q => absurd q (by omega)) H locs hG ls (lv_sub hl [] rfl)
  · have h := h.2 c7
    refine lv_aload_n hx hb dX11_begins_14 rfl (lv_at hl 0 rfl) ?_
    refine j_geti hx hb hts hown hK hG (k := a0) (fun w h => List.mem_cons_of_mem _ (u_X11 w h)) (ci := 10) rfl ka0 28 (by decide) (jz := 28) rfl w_fl_RX11_213 dX11_begins_15 ?_
    refine lv_goto (tgt := 22) hx hb dX11_begins_18 (by decide) ?_
    exact jK6 (M2 a0 28) (fun q => absurd q (by omega)) (fun _ => rfl) H locs hG ls (lv_sub hl [] rfl)

abbrev rm_X11_dayLength : Room := { frames := 8, cells := 0, slots := 0, locals := 194 }
set_option maxRecDepth 100000 in
set_option maxHeartbeats 4000000 in
theorem A_X11_dayLength (l : Launch) {D : va_G} {cy : Nat → ClassId} {o : Nat} {sK sV : Nat → Nat} {M : jT} {a0 : Int} {a1 : Int} {a2 : Int} (ka0 : kd a0 = 11) {Q : Int → jT → Prop} (h : wp_X11_dayLength M a0 a1 a2 Q) : CoI l yX11_dayLength (wj yX11_dayLength cX11_dayLength 3 (some .int)) rm_X11_dayLength D cy o sK sV M [.ref (rA o a0), .int (J a1), .int (J a2)] Q := by
  refine j_ofW (cc := cX11_dayLength) (maxL := 3) (ret := (some .int)) (by decide) rfl (Nat.le_of_ble_eq_true rfl) ?_
  intro p e s m args below meth c hx hb hr hlocks hml hown hts hK hSX H locs hG ls hl Qf hQf
  have hown : s.vm.findClass RX11 = some m.cls := hown
  have hl : lv_has ls 3 [(0, .ref (rA o a0)), (1, .int (J a1)), (2, .int (J a2))] := hl
  have w_fl_RX11_80 := hts _ (List.mem_cons_of_mem _ fl_RX11_80)
  unfold wp_X11_dayLength at h
  refine lv_aload_n hx hb dX11_dayLength_0 rfl (lv_at hl 0 rfl) ?_
  refine lv_iconst (v := J 0) hx hb dX11_dayLength_1 (by decide) ?_
  refine j_puti hx hb hts hown hK hG (k := a0) (fun w h => List.mem_cons_of_mem _ (u_X11 w h)) tyX11 tyX11_ok nmX11 (ci := 10) rfl ka0 0 (by decide) (jz := 0) rfl w_fl_RX11_80 (hd := rfl) (hn := rfl) (hfit := rfl) (hdg := dX11_dayLength_2) (fun M1 eM1 H locs hG => ?_)
  have h := h M1 eM1
  refine lv_aload_n hx hb dX11_dayLength_5 rfl (lv_at hl 0 rfl) ?_
  refine lv_iload_n hx hb dX11_dayLength_6 rfl (lv_at hl 1 rfl) ?_
  obtain ⟨g2, h⟩ := h
  refine j_conti (va_runV (As := [.int (J a1)]) (rest := []) ⟨hx, hb, hml, hown, hts⟩ (A_X11_isZone l ka0 g2) (cwV 1 hts (gj_V ml_RX11_126 i_X11_isZone s_X11_isZone n_RX11 k_X11_isZone) rfl rfl rfl (by decide +kernel) ⟨by exact Nat.le_of_ble_eq_true rfl, by exact Nat.le_of_ble_eq_true rfl⟩) (j_preV hK hSX hG (ci := 10) rfl ka0 (by decide)) rfl rfl hl.1 rfl (lv_room (Nat.le_of_ble_eq_true rfl)) dX11_dayLength_7 ⟨by exact Nat.le_of_ble_eq_true rfl, by exact Nat.le_of_ble_eq_true rfl⟩) hG (c2 := 0) (s2 := 0) ⟨by exact Nat.le_of_ble_eq_true rfl, by exact Nat.le_of_ble_eq_true rfl⟩ (fun z3 M4 ez3 H locs hG => ?_)
  obtain ⟨ez3, eM4⟩ := ez3
  subst ez3
  rw [eM4] at hG
  obtain ⟨K14, hK14, h⟩ := h
  have jK14 : K14 → ∀ (H : Heap) (locs : List Loc), GM D cy o M1 s.heap H locs → ∀ ls : Array Slot, lv_has ls 3 [(0, .ref (rA o a0))] → W p l e rm_X11_dayLength s m args below meth c H locs 0 0 Qf (F0 m 20 ls []) := by
    intro hcK14 H locs hG ls hl
    have h := hK14 hcK14
    refine lv_aload_n hx hb dX11_dayLength_20 rfl (lv_at hl 0 rfl) ?_
    refine lv_iconst (v := J 1) hx hb dX11_dayLength_21 (by decide) ?_
    refine j_conti (va_runV (As := [.int (J 1)]) (rest := []) ⟨hx, hb, hml, hown, hts⟩ (A_X11_raises l ka0 h) (cwV 1 hts (gj_V ml_RX11_110 i_X11_raises s_X11_raises n_RX11 k_X11_raises) rfl rfl rfl (by decide +kernel) ⟨by exact Nat.le_of_ble_eq_true rfl, by exact Nat.le_of_ble_eq_true rfl⟩) (j_preV hK hSX hG (ci := 10) rfl ka0 (by decide)) rfl rfl hl.1 rfl (lv_room (Nat.le_of_ble_eq_true rfl)) dX11_dayLength_22 ⟨by exact Nat.le_of_ble_eq_true rfl, by exact Nat.le_of_ble_eq_true rfl⟩) hG (c2 := 0) (s2 := 0) ⟨by exact Nat.le_of_ble_eq_true rfl, by exact Nat.le_of_ble_eq_true rfl⟩ (fun z15 M16 h H locs hG => ?_)
    rw [hQf]
    exact j_ireti hx hb hr hlocks hG h (by decide) dX11_dayLength_25
  refine j_if_eq_b (tgt := 20) hx hb dX11_dayLength_10 (by decide) (fun c17 => ?_) (fun c17 => ?_)
  · have h := h.1 c17
    exact jK14 h H locs hG ls (lv_sub hl [0] rfl)
  · have h := h.2 c17
    refine lv_iload_n hx hb dX11_dayLength_13 rfl (lv_at hl 2 rfl) ?_
    obtain ⟨g18, h⟩ := h
    refine j_conti (va_runS (As := [.int (J a2)]) (rest := []) ⟨hx, hb, hml, hown, hts⟩ (A_X11_isDay l g18) (va_cwS 1 hts (gj_S ml_RX11_113 i_X11_isDay n_RX11 k_X11_isDay) rfl rfl rfl (by decide +kernel) ⟨by exact Nat.le_of_ble_eq_true rfl, by exact Nat.le_of_ble_eq_true rfl⟩) (j_preS hK hSX hG) rfl rfl hl.1 rfl (lv_room (Nat.le_of_ble_eq_true rfl)) dX11_dayLength_14 ⟨by exact Nat.le_of_ble_eq_true rfl, by exact Nat.le_of_ble_eq_true rfl⟩) hG (c2 := 0) (s2 := 0) ⟨by exact Nat.le_of_ble_eq_true rfl, by exact Nat.le_of_ble_eq_true rfl⟩ (fun z19 M20 ez19 H locs hG => ?_)
    obtain ⟨ez19, eM20⟩ := ez19
    subst ez19
    rw [eM20] at hG
    refine j_if_ne_b (tgt := 26) hx hb dX11_dayLength_17 (by decide) (fun c21 => ?_) (fun c21 => ?_)
    · have h := h.1 c21
      refine lv_aload_n hx hb dX11_dayLength_26 rfl (lv_at hl 0 rfl) ?_
      refine lv_iload_n hx hb dX11_dayLength_27 rfl (lv_at hl 1 rfl) ?_
      refine lv_iload_n hx hb dX11_dayLength_28 rfl (lv_at hl 2 rfl) ?_
      refine lv_iconst (v := J 1) hx hb dX11_dayLength_29 (by decide) ?_
      refine j_iadd hx hb dX11_dayLength_30 ?_
      refine j_conti (va_runV (As := [.int (J a1), .int (J (a2 + 1))]) (rest := []) ⟨hx, hb, hml, hown, hts⟩ (A_X11_begins l ka0 h) (cwV 2 hts (gj_V ml_RX11_231 i_X11_begins s_X11_begins n_RX11 k_X11_begins) rfl rfl rfl (by decide +kernel) ⟨by exact Nat.le_of_ble_eq_true rfl, by exact Nat.le_of_ble_eq_true rfl⟩) (j_preV hK hSX hG (ci := 10) rfl ka0 (by decide)) rfl rfl hl.1 rfl (lv_room (Nat.le_of_ble_eq_true rfl)) dX11_dayLength_31 ⟨by exact Nat.le_of_ble_eq_true rfl, by exact Nat.le_of_ble_eq_true rfl⟩) hG (c2 := 0) (s2 := 0) ⟨by exact Nat.le_of_ble_eq_true rfl, by exact Nat.le_of_ble_eq_true rfl⟩ (fun z22 M23 h H locs hG => ?_)
      refine lv_aload_n hx hb dX11_dayLength_34 rfl (lv_at hl 0 rfl) ?_
      refine lv_iload_n hx hb dX11_dayLength_35 rfl (lv_at hl 1 rfl) ?_
      refine lv_iload_n hx hb dX11_dayLength_36 rfl (lv_at hl 2 rfl) ?_
      refine j_conti (va_runV (As := [.int (J a1), .int (J a2)]) (rest := [.int (J z22)]) ⟨hx, hb, hml, hown, hts⟩ (A_X11_begins l ka0 h) (cwV 2 hts (gj_V ml_RX11_231 i_X11_begins s_X11_begins n_RX11 k_X11_begins) rfl rfl rfl (by decide +kernel) ⟨by exact Nat.le_of_ble_eq_true rfl, by exact Nat.le_of_ble_eq_true rfl⟩) (j_preV hK hSX hG (ci := 10) rfl ka0 (by decide)) rfl rfl hl.1 rfl (lv_room (Nat.le_of_ble_eq_true rfl)) dX11_dayLength_37 ⟨by exact Nat.le_of_ble_eq_true rfl, by exact Nat.le_of_ble_eq_true rfl⟩) hG (c2 := 0) (s2 := 0) ⟨by exact Nat.le_of_ble_eq_true rfl, by exact Nat.le_of_ble_eq_true rfl⟩ (fun z24 M25 h H locs hG => ?_)
      refine j_isub hx hb dX11_dayLength_40 ?_
      rw [hQf]
      exact j_ireti hx hb hr hlocks hG h (by decide) dX11_dayLength_41
    · have h := h.2 c21
      exact jK14 h H locs hG ls (lv_sub hl [0] rfl)

abbrev rm_X11_minutes : Room := { frames := 5, cells := 0, slots := 0, locals := 124 }
set_option maxRecDepth 100000 in
set_option maxHeartbeats 4000000 in
theorem A_X11_minutes (l : Launch) {D : va_G} {cy : Nat → ClassId} {o : Nat} {sK sV : Nat → Nat} {M : jT} {a0 : Int} {a1 : Int} {a2 : Int} {a3 : Int} {a4 : Int} (ka0 : kd a0 = 11) {Q : Int → jT → Prop} (h : wp_X11_minutes M a0 a1 a2 a3 a4 Q) : CoI l yX11_minutes (wj yX11_minutes cX11_minutes 10 (some .int)) rm_X11_minutes D cy o sK sV M [.ref (rA o a0), .int (J a1), .int (J a2), .int (J a3), .int (J a4)] Q := by
  refine j_ofW (cc := cX11_minutes) (maxL := 10) (ret := (some .int)) (by decide) rfl (Nat.le_of_ble_eq_true rfl) ?_
  intro p e s m args below meth c hx hb hr hlocks hml hown hts hK hSX H locs hG ls hl Qf hQf
  have hown : s.vm.findClass RX11 = some m.cls := hown
  have hl : lv_has ls 10 [(0, .ref (rA o a0)), (1, .int (J a1)), (2, .int (J a2)), (3, .int (J a3)), (4, .int (J a4))] := hl
  have w_fl_RX11_68 := hts _ (List.mem_cons_of_mem _ fl_RX11_68)
  have w_fl_RX11_181 := hts _ (List.mem_cons_of_mem _ fl_RX11_181)
  have w_fl_RX11_210 := hts _ (List.mem_cons_of_mem _ fl_RX11_210)
  have w_fl_RX11_44 := hts _ (List.mem_cons_of_mem _ fl_RX11_44)
  have w_fl_RX11_50 := hts _ (List.mem_cons_of_mem _ fl_RX11_50)
  have w_fl_RX11_47 := hts _ (List.mem_cons_of_mem _ fl_RX11_47)
  unfold wp_X11_minutes at h
  refine lv_aload_n hx hb dX11_minutes_0 rfl (lv_at hl 0 rfl) ?_
  refine lv_iload_n hx hb dX11_minutes_1 rfl (lv_at hl 1 rfl) ?_
  refine j_contv (va_runV (As := [.int (J a1)]) (rest := []) ⟨hx, hb, hml, hown, hts⟩ (A_X11_compiles l ka0 h) (cwV 1 hts (gj_V ml_RX11_187 i_X11_compiles s_X11_compiles n_RX11 k_X11_compiles) rfl rfl rfl (by decide +kernel) ⟨by exact Nat.le_of_ble_eq_true rfl, by exact Nat.le_of_ble_eq_true rfl⟩) (j_preV hK hSX hG (ci := 10) rfl ka0 (by decide)) rfl rfl hl.1 rfl (lv_room (Nat.le_of_ble_eq_true rfl)) dX11_minutes_2 ⟨by exact Nat.le_of_ble_eq_true rfl, by exact Nat.le_of_ble_eq_true rfl⟩) hG (c2 := 0) (s2 := 0) ⟨by exact Nat.le_of_ble_eq_true rfl, by exact Nat.le_of_ble_eq_true rfl⟩ (fun M2 h H locs hG => ?_)
  refine lv_iconst (v := J 0) hx hb dX11_minutes_5 (by decide) ?_
  refine lv_istore (lv' := [(5, .int (J 0)), (0, .ref (rA o a0)), (1, .int (J a1)), (2, .int (J a2)), (3, .int (J a3)), (4, .int (J a4))]) hx hb dX11_minutes_6 hl (by decide) rfl (fun ls hl => ?_)
  refine lv_aload_n hx hb dX11_minutes_8 rfl (lv_at hl 1 rfl) ?_
  refine j_getr hx hb hts hown hK hG (k := a0) (fun w h => List.mem_cons_of_mem _ (u_X11 w h)) (ci := 10) rfl ka0 31 (k2 := a0 + 18) (by decide) (by show a0 + (18 : Int) = a0 + 18; omega) w_fl_RX11_68 dX11_minutes_9 ?_
  refine lv_iload hx hb dX11_minutes_12 (lv_at hl 0 rfl) ?_
  refine j_iinc hx hb dX11_minutes_14 hl (k := 0) rfl (by decide) (fun x3 ex3 ls hl => ?_)
  have h := h x3 ex3
  have hl : lv_has ls 10 [(5, .int (J x3)), (0, .ref (rA o a0)), (1, .int (J a1)), (2, .int (J a2)), (3, .int (J a3)), (4, .int (J a4))] := hl
  refine lv_iload_n hx hb dX11_minutes_17 rfl (lv_at hl 3 rfl) ?_
  refine j_iast hx hb hK hG (n := 526) (kf_11_31 ka0) (by decide) (by decide) dX11_minutes_18 (fun M4 eM4 H locs hG => ?_)
  have h := h M4 eM4
  refine lv_aload_n hx hb dX11_minutes_19 rfl (lv_at hl 1 rfl) ?_
  refine j_getr hx hb hts hown hK hG (k := a0) (fun w h => List.mem_cons_of_mem _ (u_X11 w h)) (ci := 10) rfl ka0 31 (k2 := a0 + 18) (by decide) (by show a0 + (18 : Int) = a0 + 18; omega) w_fl_RX11_68 dX11_minutes_20 ?_
  refine lv_iload hx hb dX11_minutes_23 (lv_at hl 0 rfl) ?_
  refine j_iinc hx hb dX11_minutes_25 hl (k := 0) rfl (by decide) (fun x5 ex5 ls hl => ?_)
  have h := h x5 ex5
  have hl : lv_has ls 10 [(5, .int (J x5)), (0, .ref (rA o a0)), (1, .int (J a1)), (2, .int (J a2)), (3, .int (J a3)), (4, .int (J a4))] := hl
  refine lv_iload_n hx hb dX11_minutes_28 rfl (lv_at hl 4 rfl) ?_
  obtain ⟨g6, h⟩ := h
  refine j_iast hx hb hK hG (n := 526) (kf_11_31 ka0) (by decide) g6 dX11_minutes_29 (fun M7 eM7 H locs hG => ?_)
  have h := h M7 eM7
  refine lv_iconst (v := J 0) hx hb dX11_minutes_30 (by decide) ?_
  refine lv_istore (lv' := [(6, .int (J 0)), (5, .int (J x5)), (0, .ref (rA o a0)), (1, .int (J a1)), (2, .int (J a2)), (3, .int (J a3)), (4, .int (J a4))]) hx hb dX11_minutes_31 hl (by decide) rfl (fun ls hl => ?_)
  obtain ⟨I11, ⟨n12s, iI11⟩, qI11⟩ := h
  have lI11 : ∀ (n12 : Nat) (x8 : Int) (x9 : Int) (M10 : jT), I11 n12 x8 x9 M10 → ∀ (H : Heap) (locs : List Loc), GM D cy o M10 s.heap H locs → ∀ ls : Array Slot, lv_has ls 10 [(0, .ref (rA o a0)), (1, .int (J a1)), (2, .int (J a2)), (3, .int (J a3)), (4, .int (J a4)), (5, .int (J x8)), (6, .int (J x9))] → W p l e rm_X11_minutes s m args below meth c H locs 0 0 Qf (F0 m 33 ls []) := by
    intro n12
    induction n12 using Nat.strongRecOn with
    | ind n12 rI11 =>
      intro x8 x9 M10 iI11 H locs hG ls hl
      have h := qI11 n12 x8 x9 M10 iI11
      refine lv_iload hx hb dX11_minutes_33 (lv_at hl 6 rfl) ?_
      refine lv_aload_n hx hb dX11_minutes_35 rfl (lv_at hl 0 rfl) ?_
      refine j_geti hx hb hts hown hK hG (k := a0) (fun w h => List.mem_cons_of_mem _ (u_X11 w h)) (ci := 10) rfl ka0 18 (by decide) (jz := 18) rfl w_fl_RX11_181 dX11_minutes_36 ?_
      obtain ⟨g14, h⟩ := h
      obtain ⟨g15, h⟩ := h
      refine j_icmp_ge (tgt := 165) hx hb dX11_minutes_39 (by decide) g14 g15 (fun c13 => ?_) (fun c13 => ?_)
      · have h := h.1 c13
        refine lv_iconst (v := J 0) hx hb dX11_minutes_165 (by decide) ?_
        refine lv_istore (lv' := [(6, .int (J 0)), (0, .ref (rA o a0)), (1, .int (J a1)), (2, .int (J a2)), (3, .int (J a3)), (4, .int (J a4)), (5, .int (J x8))]) hx hb dX11_minutes_166 hl (by decide) rfl (fun ls hl => ?_)
        refine lv_iconst (v := J 0) hx hb dX11_minutes_168 (by decide) ?_
        refine lv_istore (lv' := [(7, .int (J 0)), (6, .int (J 0)), (0, .ref (rA o a0)), (1, .int (J a1)), (2, .int (J a2)), (3, .int (J a3)), (4, .int (J a4)), (5, .int (J x8))]) hx hb dX11_minutes_169 hl (by decide) rfl (fun ls hl => ?_)
        obtain ⟨I19, ⟨n20s, iI19⟩, qI19⟩ := h
        have lI19 : ∀ (n20 : Nat) (x16 : Int) (x17 : Int) (M18 : jT), I19 n20 x16 x17 M18 → ∀ (H : Heap) (locs : List Loc), GM D cy o M18 s.heap H locs → ∀ ls : Array Slot, lv_has ls 10 [(0, .ref (rA o a0)), (1, .int (J a1)), (4, .int (J a4)), (5, .int (J x8)), (6, .int (J x16)), (7, .int (J x17))] → W p l e rm_X11_minutes s m args below meth c H locs 0 0 Qf (F0 m 171 ls []) := by
          intro n20
          induction n20 using Nat.strongRecOn with
          | ind n20 rI19 =>
            intro x16 x17 M18 iI19 H locs hG ls hl
            have h := qI19 n20 x16 x17 M18 iI19
            refine lv_iload hx hb dX11_minutes_171 (lv_at hl 5 rfl) ?_
            refine lv_iconst (v := J 1) hx hb dX11_minutes_173 (by decide) ?_
            refine j_iadd hx hb dX11_minutes_174 ?_
            refine lv_iload hx hb dX11_minutes_175 (lv_at hl 3 rfl) ?_
            obtain ⟨g22, h⟩ := h
            obtain ⟨g23, h⟩ := h
            refine j_icmp_ge (tgt := 296) hx hb dX11_minutes_177 (by decide) g22 g23 (fun c21 => ?_) (fun c21 => ?_)
            · have h := h.1 c21
              refine lv_iload hx hb dX11_minutes_296 (lv_at hl 4 rfl) ?_
              rw [hQf]
              exact j_ireti hx hb hr hlocks hG h (by decide) dX11_minutes_298
            · have h := h.2 c21
              refine lv_aload_n hx hb dX11_minutes_180 rfl (lv_at hl 0 rfl) ?_
              refine j_getr hx hb hts hown hK hG (k := a0) (fun w h => List.mem_cons_of_mem _ (u_X11 w h)) (ci := 10) rfl ka0 31 (k2 := a0 + 18) (by decide) (by show a0 + (18 : Int) = a0 + 18; omega) w_fl_RX11_68 dX11_minutes_181 ?_
              refine lv_iload hx hb dX11_minutes_184 (lv_at hl 5 rfl) ?_
              obtain ⟨g24, h⟩ := h
              refine j_iald hx hb hK hG (n := 526) (kf_11_31 ka0) (by decide) g24 dX11_minutes_186 ?_
              refine lv_aload_n hx hb dX11_minutes_187 rfl (lv_at hl 0 rfl) ?_
              refine j_getr hx hb hts hown hK hG (k := a0) (fun w h => List.mem_cons_of_mem _ (u_X11 w h)) (ci := 10) rfl ka0 31 (k2 := a0 + 18) (by decide) (by show a0 + (18 : Int) = a0 + 18; omega) w_fl_RX11_68 dX11_minutes_188 ?_
              refine lv_iload hx hb dX11_minutes_191 (lv_at hl 5 rfl) ?_
              refine lv_iconst (v := J 1) hx hb dX11_minutes_193 (by decide) ?_
              refine j_iadd hx hb dX11_minutes_194 ?_
              obtain ⟨g25, h⟩ := h
              refine j_iald hx hb hK hG (n := 526) (kf_11_31 ka0) (by decide) g25 dX11_minutes_195 ?_
              obtain ⟨K48, hK48, h⟩ := h
              have jK48 : ∀ (x46 : Int) (M47 : jT), K48 x46 M47 → ∀ (H : Heap) (locs : List Loc), GM D cy o M47 s.heap H locs → ∀ ls : Array Slot, lv_has ls 10 [(0, .ref (rA o a0)), (1, .int (J a1)), (4, .int (J a4)), (5, .int (J x8)), (6, .int (J x46)), (7, .int (J x17))] → W p l e rm_X11_minutes s m args below meth c H locs 0 0 Qf (F0 m 290 ls []) := by
                intro x46 M47 hcK48 H locs hG ls hl
                have h := hK48 x46 M47 hcK48
                refine j_iinc hx hb dX11_minutes_290 hl (k := 5) rfl (by decide) (fun x49 ex49 ls hl => ?_)
                have h := h x49 ex49
                have hl : lv_has ls 10 [(7, .int (J x49)), (0, .ref (rA o a0)), (1, .int (J a1)), (4, .int (J a4)), (5, .int (J x8)), (6, .int (J x46))] := hl
                refine lv_goto (tgt := 171) hx hb dX11_minutes_293 (by decide) ?_
                obtain ⟨n50, ln50, iI19⟩ := h
                exact rI19 n50 ln50 x46 x49 M47 iI19 H locs hG ls (lv_sub hl [1, 2, 3, 4, 5, 0] rfl)
              obtain ⟨g52, h⟩ := h
              obtain ⟨g53, h⟩ := h
              refine j_icmp_ne (tgt := 202) hx hb dX11_minutes_196 (by decide) g52 g53 (fun c51 => ?_) (fun c51 => ?_)
              · have h := h.1 c51
                refine lv_aload_n hx hb dX11_minutes_202 rfl (lv_at hl 0 rfl) ?_
                refine lv_iload_n hx hb dX11_minutes_203 rfl (lv_at hl 1 rfl) ?_
                refine lv_aload_n hx hb dX11_minutes_204 rfl (lv_at hl 0 rfl) ?_
                refine j_getr hx hb hts hown hK hG (k := a0) (fun w h => List.mem_cons_of_mem _ (u_X11 w h)) (ci := 10) rfl ka0 31 (k2 := a0 + 18) (by decide) (by show a0 + (18 : Int) = a0 + 18; omega) w_fl_RX11_68 dX11_minutes_205 ?_
                refine lv_iload hx hb dX11_minutes_208 (lv_at hl 5 rfl) ?_
                refine j_iald hx hb hK hG (n := 526) (kf_11_31 ka0) (by decide) g24 dX11_minutes_210 ?_
                refine j_contv (va_runV (As := [.int (J a1), .int (J (M18 (a0 + 18) x17))]) (rest := []) ⟨hx, hb, hml, hown, hts⟩ (A_X11_finds l ka0 h) (cwV 2 hts (gj_V ml_RX11_219 i_X11_finds s_X11_finds n_RX11 k_X11_finds) rfl rfl rfl (by decide +kernel) ⟨by exact Nat.le_of_ble_eq_true rfl, by exact Nat.le_of_ble_eq_true rfl⟩) (j_preV hK hSX hG (ci := 10) rfl ka0 (by decide)) rfl rfl hl.1 rfl (lv_room (Nat.le_of_ble_eq_true rfl)) dX11_minutes_211 ⟨by exact Nat.le_of_ble_eq_true rfl, by exact Nat.le_of_ble_eq_true rfl⟩) hG (c2 := 0) (s2 := 0) ⟨by exact Nat.le_of_ble_eq_true rfl, by exact Nat.le_of_ble_eq_true rfl⟩ (fun M55 h H locs hG => ?_)
                refine lv_iload hx hb dX11_minutes_214 (lv_at hl 2 rfl) ?_
                obtain ⟨hg, h⟩ := h
                have jK61 : ∀ x60 : Int, (a4 = 0 → x60 = x16) → (a4 ≠ 0 ∧ M55 a0 30 ≠ 0 → x60 = x16) → (a4 ≠ 0 ∧ M55 a0 30 = 0 → x60 = x16 + ((M55 (a0 + 18) (x17 + 1)) - (M55 (a0 + 18) x17))) → ∀ (H : Heap) (locs : List Loc), GM D cy o M55 s.heap H locs → ∀ ls : Array Slot, lv_has ls 10 [(0, .ref (rA o a0)), (1, .int (J a1)), (4, .int (J a4)), (5, .int (J x8)), (6, .int (J x60)), (7, .int (J x17))] → W p l e rm_X11_minutes s m args below meth c H locs 0 0 Qf (F0 m 248 ls []) := by
                  intro x60 qx60_0 qx60_1 qx60_2 H locs hG ls hl
                  have h := h x60 qx60_0 qx60_1 qx60_2
                  refine lv_iload hx hb dX11_minutes_248 (lv_at hl 2 rfl) ?_
                  obtain ⟨g67, h⟩ := h
                  refine j_if_ne (tgt := 290) hx hb dX11_minutes_250 (by decide) g67 (fun c66 => ?_) (fun c66 => ?_)
                  · have h := h.1 c66
                    exact jK48 x60 M55 h H locs hG ls (lv_sub hl [0, 1, 2, 3, 4, 5] rfl)
                  · have h := h.2 c66
                    refine lv_aload_n hx hb dX11_minutes_253 rfl (lv_at hl 0 rfl) ?_
                    refine j_geti hx hb hts hown hK hG (k := a0) (fun w h => List.mem_cons_of_mem _ (u_X11 w h)) (ci := 10) rfl ka0 30 (by decide) (jz := 30) rfl w_fl_RX11_210 dX11_minutes_254 ?_
                    refine lv_iconst (v := J 1) hx hb dX11_minutes_257 (by decide) ?_
                    obtain ⟨g69, h⟩ := h
                    refine j_icmp_le (tgt := 290) hx hb dX11_minutes_258 (by decide) g69 (by decide) (fun c68 => ?_) (fun c68 => ?_)
                    · have h := h.1 c68
                      exact jK48 x60 M55 h H locs hG ls (lv_sub hl [0, 1, 2, 3, 4, 5] rfl)
                    · have h := h.2 c68
                      refine lv_iload hx hb dX11_minutes_261 (lv_at hl 4 rfl) ?_
                      refine lv_aload_n hx hb dX11_minutes_263 rfl (lv_at hl 0 rfl) ?_
                      refine j_geti hx hb hts hown hK hG (k := a0) (fun w h => List.mem_cons_of_mem _ (u_X11 w h)) (ci := 10) rfl ka0 30 (by decide) (jz := 30) rfl w_fl_RX11_210 dX11_minutes_264 ?_
                      refine lv_iconst (v := J 1) hx hb dX11_minutes_267 (by decide) ?_
                      refine j_isub hx hb dX11_minutes_268 ?_
                      refine lv_aload_n hx hb dX11_minutes_269 rfl (lv_at hl 0 rfl) ?_
                      refine j_getr hx hb hts hown hK hG (k := a0) (fun w h => List.mem_cons_of_mem _ (u_X11 w h)) (ci := 10) rfl ka0 31 (k2 := a0 + 18) (by decide) (by show a0 + (18 : Int) = a0 + 18; omega) w_fl_RX11_68 dX11_minutes_270 ?_
                      refine lv_iload hx hb dX11_minutes_273 (lv_at hl 5 rfl) ?_
                      refine lv_iconst (v := J 1) hx hb dX11_minutes_275 (by decide) ?_
                      refine j_iadd hx hb dX11_minutes_276 ?_
                      refine j_iald hx hb hK hG (n := 526) (kf_11_31 ka0) (by decide) g25 dX11_minutes_277 ?_
                      refine lv_aload_n hx hb dX11_minutes_278 rfl (lv_at hl 0 rfl) ?_
                      refine j_getr hx hb hts hown hK hG (k := a0) (fun w h => List.mem_cons_of_mem _ (u_X11 w h)) (ci := 10) rfl ka0 31 (k2 := a0 + 18) (by decide) (by show a0 + (18 : Int) = a0 + 18; omega) w_fl_RX11_68 dX11_minutes_279 ?_
                      refine lv_iload hx hb dX11_minutes_282 (lv_at hl 5 rfl) ?_
                      refine j_iald hx hb hK hG (n := 526) (kf_11_31 ka0) (by decide) g24 dX11_minutes_284 ?_
                      refine j_isub hx hb dX11_minutes_285 ?_
                      refine j_imul hx hb dX11_minutes_286 ?_
                      refine j_iadd hx hb dX11_minutes_287 ?_
                      refine j_topi (fun x70 ex70 => ?_)
                      have h := h x70 ex70
                      refine lv_istore (lv' := [(6, .int (J x70)), (0, .ref (rA o a0)), (1, .int (J a1)), (4, .int (J a4)), (5, .int (J x8)), (7, .int (J x17))]) hx hb dX11_minutes_288 hl (by decide) rfl (fun ls hl => ?_)
                      exact jK48 x70 M55 h H locs hG ls (lv_sub hl [1, 2, 3, 4, 0, 5] rfl)
                have h := hg
                obtain ⟨g63, h⟩ := h
                refine j_if_eq (tgt := 248) hx hb dX11_minutes_216 (by decide) g63 (fun c62 => ?_) (fun c62 => ?_)
                · have h := h.1 c62
                  exact jK61 x16 (fun _ => rfl) (fun q => absurd q.1 (by omega)) (fun q => absurd q.1 (by omega)) H locs hG ls (lv_sub hl [0, 1, 2, 3, 4, 5] rfl)
                · have h := h.2 c62
                  refine lv_aload_n hx hb dX11_minutes_219 rfl (lv_at hl 0 rfl) ?_
                  refine j_geti hx hb hts hown hK hG (k := a0) (fun w h => List.mem_cons_of_mem _ (u_X11 w h)) (ci := 10) rfl ka0 30 (by decide) (jz := 30) rfl w_fl_RX11_210 dX11_minutes_220 ?_
                  obtain ⟨g65, h⟩ := h
                  refine j_if_ne (tgt := 248) hx hb dX11_minutes_223 (by decide) g65 (fun c64 => ?_) (fun c64 => ?_)
                  · have h := h.1 c64
                    exact jK61 x16 (fun q => absurd q (by omega)) (fun _ => rfl) (fun q => absurd q.2 (by omega)) H locs hG ls (lv_sub hl [0, 1, 2, 3, 4, 5] rfl)
                  · have h := h.2 c64
                    refine lv_iload hx hb dX11_minutes_226 (lv_at hl 4 rfl) ?_
                    refine lv_aload_n hx hb dX11_minutes_228 rfl (lv_at hl 0 rfl) ?_
                    refine j_getr hx hb hts hown hK hG (k := a0) (fun w h => List.mem_cons_of_mem _ (u_X11 w h)) (ci := 10) rfl ka0 31 (k2 := a0 + 18) (by decide) (by show a0 + (18 : Int) = a0 + 18; omega) w_fl_RX11_68 dX11_minutes_229 ?_
                    refine lv_iload hx hb dX11_minutes_232 (lv_at hl 5 rfl) ?_
                    refine lv_iconst (v := J 1) hx hb dX11_minutes_234 (by decide) ?_
                    refine j_iadd hx hb dX11_minutes_235 ?_
                    refine j_iald hx hb hK hG (n := 526) (kf_11_31 ka0) (by decide) g25 dX11_minutes_236 ?_
                    refine lv_aload_n hx hb dX11_minutes_237 rfl (lv_at hl 0 rfl) ?_
                    refine j_getr hx hb hts hown hK hG (k := a0) (fun w h => List.mem_cons_of_mem _ (u_X11 w h)) (ci := 10) rfl ka0 31 (k2 := a0 + 18) (by decide) (by show a0 + (18 : Int) = a0 + 18; omega) w_fl_RX11_68 dX11_minutes_238 ?_
                    refine lv_iload hx hb dX11_minutes_241 (lv_at hl 5 rfl) ?_
                    refine j_iald hx hb hK hG (n := 526) (kf_11_31 ka0) (by decide) g24 dX11_minutes_243 ?_
                    refine j_isub hx hb dX11_minutes_244 ?_
                    refine j_iadd hx hb dX11_minutes_245 ?_
                    refine lv_istore (lv' := [(6, .int (J (x16 + ((M55 (a0 + 18) (x17 + 1)) - (M55 (a0 + 18) x17))))), (0, .ref (rA o a0)), (1, .int (J a1)), (4, .int (J a4)), (5, .int (J x8)), (7, .int (J x17))]) hx hb dX11_minutes_246 hl (by decide) rfl (fun ls hl => ?_)
                    exact jK61 (x16 + ((M55 (a0 + 18) (x17 + 1)) - (M55 (a0 + 18) x17))) (fun q => absurd q (by omega)) (fun q => absurd q.2 (by omega)) (fun _ => rfl) H locs hG ls (lv_sub hl [1, 2, 3, 4, 0, 5] rfl)
              · have h := h.2 c51
                refine lv_goto (tgt := 290) hx hb dX11_minutes_199 (by decide) ?_
                exact jK48 x16 M18 h H locs hG ls (lv_sub hl [0, 1, 2, 3, 4, 5] rfl)
        exact lI19 n20s 0 0 M10 iI19 H locs hG ls (lv_sub hl [2, 3, 6, 7, 1, 0] rfl)
      · have h := h.2 c13
        refine lv_iconst (v := J 0) hx hb dX11_minutes_42 (by decide) ?_
        refine lv_istore (lv' := [(7, .int (J 0)), (0, .ref (rA o a0)), (1, .int (J a1)), (2, .int (J a2)), (3, .int (J a3)), (4, .int (J a4)), (5, .int (J x8)), (6, .int (J x9))]) hx hb dX11_minutes_43 hl (by decide) rfl (fun ls hl => ?_)
        obtain ⟨I74, ⟨n75s, iI74⟩, qI74⟩ := h
        have lI74 : ∀ (n75 : Nat) (x71 : Int) (x72 : Int) (M73 : jT), I74 n75 x71 x72 M73 → ∀ (H : Heap) (locs : List Loc), GM D cy o M73 s.heap H locs → ∀ ls : Array Slot, lv_has ls 10 [(0, .ref (rA o a0)), (1, .int (J a1)), (2, .int (J a2)), (3, .int (J a3)), (4, .int (J a4)), (5, .int (J x71)), (6, .int (J x9)), (7, .int (J x72))] → W p l e rm_X11_minutes s m args below meth c H locs 0 0 Qf (F0 m 45 ls []) := by
          intro n75
          induction n75 using Nat.strongRecOn with
          | ind n75 rI74 =>
            intro x71 x72 M73 iI74 H locs hG ls hl
            have h := qI74 n75 x71 x72 M73 iI74
            refine lv_iload hx hb dX11_minutes_45 (lv_at hl 7 rfl) ?_
            refine lv_iconst (v := J 2) hx hb dX11_minutes_47 (by decide) ?_
            obtain ⟨g77, h⟩ := h
            refine j_icmp_ge (tgt := 159) hx hb dX11_minutes_48 (by decide) g77 (by decide) (fun c76 => ?_) (fun c76 => ?_)
            · have h := h.1 c76
              refine j_iinc hx hb dX11_minutes_159 hl (k := 6) rfl (by decide) (fun x78 ex78 ls hl => ?_)
              have h := h x78 ex78
              have hl : lv_has ls 10 [(6, .int (J x78)), (0, .ref (rA o a0)), (1, .int (J a1)), (2, .int (J a2)), (3, .int (J a3)), (4, .int (J a4)), (5, .int (J x71)), (7, .int (J x72))] := hl
              refine lv_goto (tgt := 33) hx hb dX11_minutes_162 (by decide) ?_
              obtain ⟨n79, ln79, iI11⟩ := h
              exact rI11 n79 ln79 x71 x78 M73 iI11 H locs hG ls (lv_sub hl [1, 2, 3, 4, 5, 6, 0] rfl)
            · have h := h.2 c76
              refine lv_aload_n hx hb dX11_minutes_51 rfl (lv_at hl 0 rfl) ?_
              refine j_getr hx hb hts hown hK hG (k := a0) (fun w h => List.mem_cons_of_mem _ (u_X11 w h)) (ci := 10) rfl ka0 19 (k2 := a0 + 10) (by decide) (by show a0 + (10 : Int) = a0 + 10; omega) w_fl_RX11_44 dX11_minutes_52 ?_
              refine lv_iload hx hb dX11_minutes_55 (lv_at hl 6 rfl) ?_
              obtain ⟨g80, h⟩ := h
              refine j_iald hx hb hK hG (n := 261) (kf_11_19 ka0) (by decide) g80 dX11_minutes_57 ?_
              refine lv_iload hx hb dX11_minutes_58 (lv_at hl 7 rfl) ?_
              have jK83 : ∀ x82 : Int, (x72 ≠ 0 → x82 = M73 (a0 + 12) x9) → (x72 = 0 → x82 = M73 (a0 + 11) x9) → ∀ (H : Heap) (locs : List Loc), GM D cy o M73 s.heap H locs → ∀ ls : Array Slot, lv_has ls 10 [(0, .ref (rA o a0)), (1, .int (J a1)), (2, .int (J a2)), (3, .int (J a3)), (4, .int (J a4)), (5, .int (J x71)), (6, .int (J x9)), (7, .int (J x72))] → W p l e rm_X11_minutes s m args below meth c H locs 0 0 Qf (F0 m 80 ls [.int (J x82), .int (J (M73 (a0 + 10) x9))]) := by
                intro x82 qx82_0 qx82_1 H locs hG ls hl
                have h := h x82 qx82_0 qx82_1
                refine j_iadd hx hb dX11_minutes_80 ?_
                refine j_topi (fun x85 ex85 => ?_)
                have h := h x85 ex85
                refine lv_istore (lv' := [(8, .int (J x85)), (0, .ref (rA o a0)), (1, .int (J a1)), (2, .int (J a2)), (3, .int (J a3)), (4, .int (J a4)), (5, .int (J x71)), (6, .int (J x9)), (7, .int (J x72))]) hx hb dX11_minutes_81 hl (by decide) rfl (fun ls hl => ?_)
                refine lv_iload hx hb dX11_minutes_83 (lv_at hl 0 rfl) ?_
                refine lv_iload_n hx hb dX11_minutes_85 rfl (lv_at hl 3 rfl) ?_
                refine lv_iload_n hx hb dX11_minutes_86 rfl (lv_at hl 4 rfl) ?_
                obtain ⟨g86, h⟩ := h
                refine j_conti (va_runS (As := [.int (J x85), .int (J a2), .int (J a3)]) (rest := []) ⟨hx, hb, hml, hown, hts⟩ (A_X11_in l g86) (va_cwS 3 hts (gj_S ml_RX11_106 i_X11_in n_RX11 k_X11_in) rfl rfl rfl (by decide +kernel) ⟨by exact Nat.le_of_ble_eq_true rfl, by exact Nat.le_of_ble_eq_true rfl⟩) (j_preS hK hSX hG) rfl rfl hl.1 rfl (lv_room (Nat.le_of_ble_eq_true rfl)) dX11_minutes_87 ⟨by exact Nat.le_of_ble_eq_true rfl, by exact Nat.le_of_ble_eq_true rfl⟩) hG (c2 := 0) (s2 := 0) ⟨by exact Nat.le_of_ble_eq_true rfl, by exact Nat.le_of_ble_eq_true rfl⟩ (fun z87 M88 ez87 H locs hG => ?_)
                obtain ⟨ez87, eM88⟩ := ez87
                subst ez87
                rw [eM88] at hG
                obtain ⟨K120, hK120, h⟩ := h
                have jK120 : ∀ (x118 : Int) (M119 : jT), K120 x118 M119 → ∀ (H : Heap) (locs : List Loc), GM D cy o M119 s.heap H locs → ∀ ls : Array Slot, lv_has ls 10 [(0, .ref (rA o a0)), (1, .int (J a1)), (2, .int (J a2)), (3, .int (J a3)), (4, .int (J a4)), (5, .int (J x118)), (6, .int (J x9)), (7, .int (J x72))] → W p l e rm_X11_minutes s m args below meth c H locs 0 0 Qf (F0 m 153 ls []) := by
                  intro x118 M119 hcK120 H locs hG ls hl
                  have h := hK120 x118 M119 hcK120
                  refine j_iinc hx hb dX11_minutes_153 hl (k := 7) rfl (by decide) (fun x121 ex121 ls hl => ?_)
                  have h := h x121 ex121
                  have hl : lv_has ls 10 [(7, .int (J x121)), (0, .ref (rA o a0)), (1, .int (J a1)), (2, .int (J a2)), (3, .int (J a3)), (4, .int (J a4)), (5, .int (J x118)), (6, .int (J x9))] := hl
                  refine lv_goto (tgt := 45) hx hb dX11_minutes_156 (by decide) ?_
                  obtain ⟨n122, ln122, iI74⟩ := h
                  exact rI74 n122 ln122 x118 x121 M119 iI74 H locs hG ls (lv_sub hl [1, 2, 3, 4, 5, 6, 7, 0] rfl)
                refine j_if_ne_b (tgt := 96) hx hb dX11_minutes_90 (by decide) (fun c123 => ?_) (fun c123 => ?_)
                · have h := h.1 c123
                  refine lv_iload hx hb dX11_minutes_96 (lv_at hl 6 rfl) ?_
                  refine j_iinc hx hb dX11_minutes_98 hl (k := 6) rfl (by decide) (fun x124 ex124 ls hl => ?_)
                  have h := h x124 ex124
                  have hl : lv_has ls 10 [(5, .int (J x124)), (8, .int (J x85)), (0, .ref (rA o a0)), (1, .int (J a1)), (2, .int (J a2)), (3, .int (J a3)), (4, .int (J a4)), (6, .int (J x9)), (7, .int (J x72))] := hl
                  refine lv_istore (lv' := [(9, .int (J x71)), (5, .int (J x124)), (8, .int (J x85)), (0, .ref (rA o a0)), (1, .int (J a1)), (2, .int (J a2)), (3, .int (J a3)), (4, .int (J a4)), (6, .int (J x9)), (7, .int (J x72))]) hx hb dX11_minutes_101 hl (by decide) rfl (fun ls hl => ?_)
                  obtain ⟨I127, ⟨n128s, iI127⟩, qI127⟩ := h
                  have lI127 : ∀ (n128 : Nat) (x125 : Int) (M126 : jT), I127 n128 x125 M126 → ∀ (H : Heap) (locs : List Loc), GM D cy o M126 s.heap H locs → ∀ ls : Array Slot, lv_has ls 10 [(0, .ref (rA o a0)), (1, .int (J a1)), (2, .int (J a2)), (3, .int (J a3)), (4, .int (J a4)), (5, .int (J x124)), (6, .int (J x9)), (7, .int (J x72)), (8, .int (J x85)), (9, .int (J x125))] → W p l e rm_X11_minutes s m args below meth c H locs 0 0 Qf (F0 m 103 ls []) := by
                    intro n128
                    induction n128 using Nat.strongRecOn with
                    | ind n128 rI127 =>
                      intro x125 M126 iI127 H locs hG ls hl
                      have h := qI127 n128 x125 M126 iI127
                      refine lv_iload hx hb dX11_minutes_103 (lv_at hl 9 rfl) ?_
                      obtain ⟨K139, hK139, h⟩ := h
                      have jK139 : K139 → ∀ (H : Heap) (locs : List Loc), GM D cy o M126 s.heap H locs → ∀ ls : Array Slot, lv_has ls 10 [(0, .ref (rA o a0)), (1, .int (J a1)), (2, .int (J a2)), (3, .int (J a3)), (4, .int (J a4)), (5, .int (J x124)), (6, .int (J x9)), (7, .int (J x72)), (8, .int (J x85)), (9, .int (J x125))] → W p l e rm_X11_minutes s m args below meth c H locs 0 0 Qf (F0 m 144 ls []) := by
                        intro hcK139 H locs hG ls hl
                        have h := hK139 hcK139
                        refine lv_aload_n hx hb dX11_minutes_144 rfl (lv_at hl 0 rfl) ?_
                        refine j_getr hx hb hts hown hK hG (k := a0) (fun w h => List.mem_cons_of_mem _ (u_X11 w h)) (ci := 10) rfl ka0 31 (k2 := a0 + 18) (by decide) (by show a0 + (18 : Int) = a0 + 18; omega) w_fl_RX11_68 dX11_minutes_145 ?_
                        refine lv_iload hx hb dX11_minutes_148 (lv_at hl 9 rfl) ?_
                        refine lv_iload hx hb dX11_minutes_150 (lv_at hl 8 rfl) ?_
                        obtain ⟨g140, h⟩ := h
                        refine j_iast hx hb hK hG (n := 526) (kf_11_31 ka0) (by decide) g140 dX11_minutes_152 (fun M141 eM141 H locs hG => ?_)
                        have h := h M141 eM141
                        exact jK120 x124 M141 h H locs hG ls (lv_sub hl [0, 1, 2, 3, 4, 5, 6, 7] rfl)
                      obtain ⟨g143, h⟩ := h
                      refine j_if_le (tgt := 144) hx hb dX11_minutes_105 (by decide) g143 (fun c142 => ?_) (fun c142 => ?_)
                      · have h := h.1 c142
                        exact jK139 h H locs hG ls (lv_sub hl [0, 1, 2, 3, 4, 5, 6, 7, 8, 9] rfl)
                      · have h := h.2 c142
                        refine lv_aload_n hx hb dX11_minutes_108 rfl (lv_at hl 0 rfl) ?_
                        refine j_getr hx hb hts hown hK hG (k := a0) (fun w h => List.mem_cons_of_mem _ (u_X11 w h)) (ci := 10) rfl ka0 31 (k2 := a0 + 18) (by decide) (by show a0 + (18 : Int) = a0 + 18; omega) w_fl_RX11_68 dX11_minutes_109 ?_
                        refine lv_iload hx hb dX11_minutes_112 (lv_at hl 9 rfl) ?_
                        refine lv_iconst (v := J 1) hx hb dX11_minutes_114 (by decide) ?_
                        refine j_isub hx hb dX11_minutes_115 ?_
                        obtain ⟨g144, h⟩ := h
                        refine j_iald hx hb hK hG (n := 526) (kf_11_31 ka0) (by decide) g144 dX11_minutes_116 ?_
                        refine lv_iload hx hb dX11_minutes_117 (lv_at hl 8 rfl) ?_
                        obtain ⟨g146, h⟩ := h
                        obtain ⟨g147, h⟩ := h
                        refine j_icmp_le (tgt := 144) hx hb dX11_minutes_119 (by decide) g146 g147 (fun c145 => ?_) (fun c145 => ?_)
                        · have h := h.1 c145
                          exact jK139 h H locs hG ls (lv_sub hl [0, 1, 2, 3, 4, 5, 6, 7, 8, 9] rfl)
                        · have h := h.2 c145
                          refine lv_aload_n hx hb dX11_minutes_122 rfl (lv_at hl 0 rfl) ?_
                          refine j_getr hx hb hts hown hK hG (k := a0) (fun w h => List.mem_cons_of_mem _ (u_X11 w h)) (ci := 10) rfl ka0 31 (k2 := a0 + 18) (by decide) (by show a0 + (18 : Int) = a0 + 18; omega) w_fl_RX11_68 dX11_minutes_123 ?_
                          refine lv_iload hx hb dX11_minutes_126 (lv_at hl 9 rfl) ?_
                          refine lv_aload_n hx hb dX11_minutes_128 rfl (lv_at hl 0 rfl) ?_
                          refine j_getr hx hb hts hown hK hG (k := a0) (fun w h => List.mem_cons_of_mem _ (u_X11 w h)) (ci := 10) rfl ka0 31 (k2 := a0 + 18) (by decide) (by show a0 + (18 : Int) = a0 + 18; omega) w_fl_RX11_68 dX11_minutes_129 ?_
                          refine lv_iload hx hb dX11_minutes_132 (lv_at hl 9 rfl) ?_
                          refine lv_iconst (v := J 1) hx hb dX11_minutes_134 (by decide) ?_
                          refine j_isub hx hb dX11_minutes_135 ?_
                          refine j_iald hx hb hK hG (n := 526) (kf_11_31 ka0) (by decide) g144 dX11_minutes_136 ?_
                          obtain ⟨g148, h⟩ := h
                          refine j_iast hx hb hK hG (n := 526) (kf_11_31 ka0) (by decide) g148 dX11_minutes_137 (fun M149 eM149 H locs hG => ?_)
                          have h := h M149 eM149
                          refine j_iinc hx hb dX11_minutes_138 hl (k := 9) rfl (by decide) (fun x150 ex150 ls hl => ?_)
                          have h := h x150 ex150
                          have hl : lv_has ls 10 [(9, .int (J x150)), (0, .ref (rA o a0)), (1, .int (J a1)), (2, .int (J a2)), (3, .int (J a3)), (4, .int (J a4)), (5, .int (J x124)), (6, .int (J x9)), (7, .int (J x72)), (8, .int (J x85))] := hl
                          refine lv_goto (tgt := 103) hx hb dX11_minutes_141 (by decide) ?_
                          obtain ⟨n151, ln151, iI127⟩ := h
                          exact rI127 n151 ln151 x150 M149 iI127 H locs hG ls (lv_sub hl [1, 2, 3, 4, 5, 6, 7, 8, 9, 0] rfl)
                  exact lI127 n128s x71 M73 iI127 H locs hG ls (lv_sub hl [3, 4, 5, 6, 7, 1, 8, 9, 2, 0] rfl)
                · have h := h.2 c123
                  refine lv_goto (tgt := 153) hx hb dX11_minutes_93 (by decide) ?_
                  exact jK120 x71 M73 h H locs hG ls (lv_sub hl [1, 2, 3, 4, 5, 6, 7, 8] rfl)
              refine j_if_ne (tgt := 73) hx hb dX11_minutes_60 (by decide) g77 (fun c84 => ?_) (fun c84 => ?_)
              · refine lv_aload_n hx hb dX11_minutes_73 rfl (lv_at hl 0 rfl) ?_
                refine j_getr hx hb hts hown hK hG (k := a0) (fun w h => List.mem_cons_of_mem _ (u_X11 w h)) (ci := 10) rfl ka0 21 (k2 := a0 + 12) (by decide) (by show a0 + (12 : Int) = a0 + 12; omega) w_fl_RX11_50 dX11_minutes_74 ?_
                refine lv_iload hx hb dX11_minutes_77 (lv_at hl 6 rfl) ?_
                refine j_iald hx hb hK hG (n := 261) (kf_11_21 ka0) (by decide) g80 dX11_minutes_79 ?_
                exact jK83 (M73 (a0 + 12) x9) (fun _ => rfl) (fun q => absurd q (by omega)) H locs hG ls (lv_sub hl [0, 1, 2, 3, 4, 5, 6, 7] rfl)
              · refine lv_aload_n hx hb dX11_minutes_63 rfl (lv_at hl 0 rfl) ?_
                refine j_getr hx hb hts hown hK hG (k := a0) (fun w h => List.mem_cons_of_mem _ (u_X11 w h)) (ci := 10) rfl ka0 20 (k2 := a0 + 11) (by decide) (by show a0 + (11 : Int) = a0 + 11; omega) w_fl_RX11_47 dX11_minutes_64 ?_
                refine lv_iload hx hb dX11_minutes_67 (lv_at hl 6 rfl) ?_
                refine j_iald hx hb hK hG (n := 261) (kf_11_20 ka0) (by decide) g80 dX11_minutes_69 ?_
                refine lv_goto (tgt := 80) hx hb dX11_minutes_70 (by decide) ?_
                exact jK83 (M73 (a0 + 11) x9) (fun q => absurd q (by omega)) (fun _ => rfl) H locs hG ls (lv_sub hl [0, 1, 2, 3, 4, 5, 6, 7] rfl)
        exact lI74 n75s x8 0 M10 iI74 H locs hG ls (lv_sub hl [1, 2, 3, 4, 5, 6, 7, 0] rfl)
  exact lI11 n12s x5 0 M7 iI11 H locs hG ls (lv_sub hl [2, 3, 4, 5, 6, 1, 0] rfl)

abbrev rm_X11_account : Room := { frames := 8, cells := 0, slots := 0, locals := 194 }
set_option maxRecDepth 100000 in
set_option maxHeartbeats 4000000 in
theorem A_X11_account (l : Launch) {D : va_G} {cy : Nat → ClassId} {o : Nat} {sK sV : Nat → Nat} {M : jT} {a0 : Int} {a1 : Int} {a2 : Int} {a3 : Int} (ka0 : kd a0 = 11) {Q : Int → jT → Prop} (h : wp_X11_account M a0 a1 a2 a3 Q) : CoI l yX11_account (wj yX11_account cX11_account 6 (some .int)) rm_X11_account D cy o sK sV M [.ref (rA o a0), .int (J a1), .int (J a2), .int (J a3)] Q := by
  refine j_ofW (cc := cX11_account) (maxL := 6) (ret := (some .int)) (by decide) rfl (Nat.le_of_ble_eq_true rfl) ?_
  intro p e s m args below meth c hx hb hr hlocks hml hown hts hK hSX H locs hG ls hl Qf hQf
  have hown : s.vm.findClass RX11 = some m.cls := hown
  have hl : lv_has ls 6 [(0, .ref (rA o a0)), (1, .int (J a1)), (2, .int (J a2)), (3, .int (J a3))] := hl
  have w_fl_RX11_80 := hts _ (List.mem_cons_of_mem _ fl_RX11_80)
  unfold wp_X11_account at h
  refine lv_aload_n hx hb dX11_account_0 rfl (lv_at hl 0 rfl) ?_
  refine lv_iconst (v := J 0) hx hb dX11_account_1 (by decide) ?_
  refine j_puti hx hb hts hown hK hG (k := a0) (fun w h => List.mem_cons_of_mem _ (u_X11 w h)) tyX11 tyX11_ok nmX11 (ci := 10) rfl ka0 0 (by decide) (jz := 0) rfl w_fl_RX11_80 (hd := rfl) (hn := rfl) (hfit := rfl) (hdg := dX11_account_2) (fun M1 eM1 H locs hG => ?_)
  have h := h M1 eM1
  refine lv_aload_n hx hb dX11_account_5 rfl (lv_at hl 0 rfl) ?_
  refine lv_iload_n hx hb dX11_account_6 rfl (lv_at hl 1 rfl) ?_
  obtain ⟨g2, h⟩ := h
  refine j_conti (va_runV (As := [.int (J a1)]) (rest := []) ⟨hx, hb, hml, hown, hts⟩ (A_X11_isZone l ka0 g2) (cwV 1 hts (gj_V ml_RX11_126 i_X11_isZone s_X11_isZone n_RX11 k_X11_isZone) rfl rfl rfl (by decide +kernel) ⟨by exact Nat.le_of_ble_eq_true rfl, by exact Nat.le_of_ble_eq_true rfl⟩) (j_preV hK hSX hG (ci := 10) rfl ka0 (by decide)) rfl rfl hl.1 rfl (lv_room (Nat.le_of_ble_eq_true rfl)) dX11_account_7 ⟨by exact Nat.le_of_ble_eq_true rfl, by exact Nat.le_of_ble_eq_true rfl⟩) hG (c2 := 0) (s2 := 0) ⟨by exact Nat.le_of_ble_eq_true rfl, by exact Nat.le_of_ble_eq_true rfl⟩ (fun z3 M4 ez3 H locs hG => ?_)
  obtain ⟨ez3, eM4⟩ := ez3
  subst ez3
  rw [eM4] at hG
  refine j_if_ne_b (tgt := 19) hx hb dX11_account_10 (by decide) (fun c5 => ?_) (fun c5 => ?_)
  · have h := h.1 c5
    refine lv_iload_n hx hb dX11_account_19 rfl (lv_at hl 2 rfl) ?_
    refine lv_iconst (v := J 0) hx hb dX11_account_20 (by decide) ?_
    refine lv_bipush (v := J 31) hx hb dX11_account_21 (by decide) ?_
    obtain ⟨g6, h⟩ := h
    refine j_conti (va_runS (As := [.int (J a2), .int (J 0), .int (J 31)]) (rest := []) ⟨hx, hb, hml, hown, hts⟩ (A_X11_in l g6) (va_cwS 3 hts (gj_S ml_RX11_106 i_X11_in n_RX11 k_X11_in) rfl rfl rfl (by decide +kernel) ⟨by exact Nat.le_of_ble_eq_true rfl, by exact Nat.le_of_ble_eq_true rfl⟩) (j_preS hK hSX hG) rfl rfl hl.1 rfl (lv_room (Nat.le_of_ble_eq_true rfl)) dX11_account_23 ⟨by exact Nat.le_of_ble_eq_true rfl, by exact Nat.le_of_ble_eq_true rfl⟩) hG (c2 := 0) (s2 := 0) ⟨by exact Nat.le_of_ble_eq_true rfl, by exact Nat.le_of_ble_eq_true rfl⟩ (fun z7 M8 ez7 H locs hG => ?_)
    obtain ⟨ez7, eM8⟩ := ez7
    subst ez7
    rw [eM8] at hG
    obtain ⟨K45, hK45, h⟩ := h
    have jK45 : K45 → ∀ (H : Heap) (locs : List Loc), GM D cy o M1 s.heap H locs → ∀ ls : Array Slot, lv_has ls 6 [(0, .ref (rA o a0))] → W p l e rm_X11_account s m args below meth c H locs 0 0 Qf (F0 m 38 ls []) := by
      intro hcK45 H locs hG ls hl
      have h := hK45 hcK45
      refine lv_aload_n hx hb dX11_account_38 rfl (lv_at hl 0 rfl) ?_
      refine lv_iconst (v := J 2) hx hb dX11_account_39 (by decide) ?_
      refine j_conti (va_runV (As := [.int (J 2)]) (rest := []) ⟨hx, hb, hml, hown, hts⟩ (A_X11_raises l ka0 h) (cwV 1 hts (gj_V ml_RX11_110 i_X11_raises s_X11_raises n_RX11 k_X11_raises) rfl rfl rfl (by decide +kernel) ⟨by exact Nat.le_of_ble_eq_true rfl, by exact Nat.le_of_ble_eq_true rfl⟩) (j_preV hK hSX hG (ci := 10) rfl ka0 (by decide)) rfl rfl hl.1 rfl (lv_room (Nat.le_of_ble_eq_true rfl)) dX11_account_40 ⟨by exact Nat.le_of_ble_eq_true rfl, by exact Nat.le_of_ble_eq_true rfl⟩) hG (c2 := 0) (s2 := 0) ⟨by exact Nat.le_of_ble_eq_true rfl, by exact Nat.le_of_ble_eq_true rfl⟩ (fun z46 M47 h H locs hG => ?_)
      rw [hQf]
      exact j_ireti hx hb hr hlocks hG h (by decide) dX11_account_43
    refine j_if_eq_b (tgt := 38) hx hb dX11_account_26 (by decide) (fun c48 => ?_) (fun c48 => ?_)
    · have h := h.1 c48
      exact jK45 h H locs hG ls (lv_sub hl [0] rfl)
    · have h := h.2 c48
      refine lv_iload_n hx hb dX11_account_29 rfl (lv_at hl 3 rfl) ?_
      refine lv_iconst (v := J 0) hx hb dX11_account_30 (by decide) ?_
      refine lv_iconst (v := J 3) hx hb dX11_account_31 (by decide) ?_
      obtain ⟨g49, h⟩ := h
      refine j_conti (va_runS (As := [.int (J a3), .int (J 0), .int (J 3)]) (rest := []) ⟨hx, hb, hml, hown, hts⟩ (A_X11_in l g49) (va_cwS 3 hts (gj_S ml_RX11_106 i_X11_in n_RX11 k_X11_in) rfl rfl rfl (by decide +kernel) ⟨by exact Nat.le_of_ble_eq_true rfl, by exact Nat.le_of_ble_eq_true rfl⟩) (j_preS hK hSX hG) rfl rfl hl.1 rfl (lv_room (Nat.le_of_ble_eq_true rfl)) dX11_account_32 ⟨by exact Nat.le_of_ble_eq_true rfl, by exact Nat.le_of_ble_eq_true rfl⟩) hG (c2 := 0) (s2 := 0) ⟨by exact Nat.le_of_ble_eq_true rfl, by exact Nat.le_of_ble_eq_true rfl⟩ (fun z50 M51 ez50 H locs hG => ?_)
      obtain ⟨ez50, eM51⟩ := ez50
      subst ez50
      rw [eM51] at hG
      refine j_if_ne_b (tgt := 44) hx hb dX11_account_35 (by decide) (fun c52 => ?_) (fun c52 => ?_)
      · have h := h.1 c52
        refine lv_iload_n hx hb dX11_account_44 rfl (lv_at hl 2 rfl) ?_
        obtain ⟨g53, h⟩ := h
        refine j_conti (va_runS (As := [.int (J a2)]) (rest := []) ⟨hx, hb, hml, hown, hts⟩ (A_X11_yearDay l g53) (va_cwS 1 hts (gj_S ml_RX11_89 i_X11_yearDay n_RX11 k_X11_yearDay) rfl rfl rfl (by decide +kernel) ⟨by exact Nat.le_of_ble_eq_true rfl, by exact Nat.le_of_ble_eq_true rfl⟩) (j_preS hK hSX hG) rfl rfl hl.1 rfl (lv_room (Nat.le_of_ble_eq_true rfl)) dX11_account_45 ⟨by exact Nat.le_of_ble_eq_true rfl, by exact Nat.le_of_ble_eq_true rfl⟩) hG (c2 := 0) (s2 := 0) ⟨by exact Nat.le_of_ble_eq_true rfl, by exact Nat.le_of_ble_eq_true rfl⟩ (fun z54 M55 ez54 H locs hG => ?_)
        obtain ⟨ez54, eM55⟩ := ez54
        subst ez54
        rw [eM55] at hG
        refine j_topi (fun x56 ex56 => ?_)
        have h := h x56 ex56
        refine lv_istore (lv' := [(4, .int (J x56)), (0, .ref (rA o a0)), (1, .int (J a1)), (2, .int (J a2)), (3, .int (J a3))]) hx hb dX11_account_48 hl (by decide) rfl (fun ls hl => ?_)
        refine lv_iload_n hx hb dX11_account_50 rfl (lv_at hl 3 rfl) ?_
        refine lv_iconst (v := J 1) hx hb dX11_account_51 (by decide) ?_
        refine j_iadd hx hb dX11_account_52 ?_
        obtain ⟨g57, h⟩ := h
        refine j_conti (va_runS (As := [.int (J (a2 + 1))]) (rest := []) ⟨hx, hb, hml, hown, hts⟩ (A_X11_yearDay l g57) (va_cwS 1 hts (gj_S ml_RX11_89 i_X11_yearDay n_RX11 k_X11_yearDay) rfl rfl rfl (by decide +kernel) ⟨by exact Nat.le_of_ble_eq_true rfl, by exact Nat.le_of_ble_eq_true rfl⟩) (j_preS hK hSX hG) rfl rfl hl.1 rfl (lv_room (Nat.le_of_ble_eq_true rfl)) dX11_account_53 ⟨by exact Nat.le_of_ble_eq_true rfl, by exact Nat.le_of_ble_eq_true rfl⟩) hG (c2 := 0) (s2 := 0) ⟨by exact Nat.le_of_ble_eq_true rfl, by exact Nat.le_of_ble_eq_true rfl⟩ (fun z58 M59 ez58 H locs hG => ?_)
        obtain ⟨ez58, eM59⟩ := ez58
        subst ez58
        rw [eM59] at hG
        refine j_topi (fun x60 ex60 => ?_)
        have h := h x60 ex60
        refine lv_istore (lv' := [(5, .int (J x60)), (4, .int (J x56)), (0, .ref (rA o a0)), (1, .int (J a1)), (2, .int (J a2)), (3, .int (J a3))]) hx hb dX11_account_56 hl (by decide) rfl (fun ls hl => ?_)
        refine lv_iload_n hx hb dX11_account_58 rfl (lv_at hl 5 rfl) ?_
        obtain ⟨g62, h⟩ := h
        refine j_if_ne (tgt := 78) hx hb dX11_account_59 (by decide) g62 (fun c61 => ?_) (fun c61 => ?_)
        · have h := h.1 c61
          refine lv_iload_n hx hb dX11_account_78 rfl (lv_at hl 5 rfl) ?_
          refine lv_iconst (v := J 3) hx hb dX11_account_79 (by decide) ?_
          obtain ⟨K72, hK72, h⟩ := h
          have jK72 : ∀ (x70 : Int) (M71 : jT), K72 x70 M71 → ∀ (H : Heap) (locs : List Loc), GM D cy o M71 s.heap H locs → ∀ ls : Array Slot, lv_has ls 6 [] → W p l e rm_X11_account s m args below meth c H locs 0 0 Qf (F0 m 122 ls [.int (J x70)]) := by
            intro x70 M71 hcK72 H locs hG ls hl
            have h := hK72 x70 M71 hcK72
            rw [hQf]
            exact j_ireti hx hb hr hlocks hG h (by decide) dX11_account_122
          refine j_icmp_ne (tgt := 95) hx hb dX11_account_80 (by decide) g62 (by decide) (fun c73 => ?_) (fun c73 => ?_)
          · have h := h.1 c73
            refine lv_aload_n hx hb dX11_account_95 rfl (lv_at hl 2 rfl) ?_
            refine lv_iload_n hx hb dX11_account_96 rfl (lv_at hl 3 rfl) ?_
            refine lv_sipush (v := J 1440) hx hb dX11_account_97 (by decide) ?_
            refine lv_iload hx hb dX11_account_100 (lv_at hl 1 rfl) ?_
            refine j_imul hx hb dX11_account_102 ?_
            refine lv_sipush (v := J 1440) hx hb dX11_account_103 (by decide) ?_
            refine lv_iload hx hb dX11_account_106 (lv_at hl 0 rfl) ?_
            refine j_imul hx hb dX11_account_108 ?_
            refine lv_iload_n hx hb dX11_account_109 rfl (lv_at hl 5 rfl) ?_
            refine lv_iconst (v := J 1) hx hb dX11_account_110 (by decide) ?_
            have jK76 : ∀ x75 : Int, x75 = b2i (a3 = 1) → ∀ (H : Heap) (locs : List Loc), GM D cy o M1 s.heap H locs → ∀ ls : Array Slot, lv_has ls 6 [] → W p l e rm_X11_account s m args below meth c H locs 0 0 Qf (F0 m 119 ls [.int (J x75), .int (J (1440 * x60)), .int (J (1440 * x56)), .int (J a1), .ref (rA o a0)]) := by
              intro x75 ex75 H locs hG ls hl
              subst ex75
              refine j_conti (va_runV (As := [.int (J a1), .int (J (1440 * x56)), .int (J (1440 * x60)), .int (J (b2i (a3 = 1)))]) (rest := []) ⟨hx, hb, hml, hown, hts⟩ (A_X11_minutes l ka0 h) (cwV 4 hts (gj_V ml_RX11_234 i_X11_minutes s_X11_minutes n_RX11 k_X11_minutes) rfl rfl rfl (by decide +kernel) ⟨by exact Nat.le_of_ble_eq_true rfl, by exact Nat.le_of_ble_eq_true rfl⟩) (j_preV hK hSX hG (ci := 10) rfl ka0 (by decide)) rfl rfl hl.1 rfl (lv_room (Nat.le_of_ble_eq_true rfl)) dX11_account_119 ⟨by exact Nat.le_of_ble_eq_true rfl, by exact Nat.le_of_ble_eq_true rfl⟩) hG (c2 := 0) (s2 := 0) ⟨by exact Nat.le_of_ble_eq_true rfl, by exact Nat.le_of_ble_eq_true rfl⟩ (fun z78 M79 h H locs hG => ?_)
              exact jK72 z78 M79 h H locs hG ls (lv_sub hl [] rfl)
            refine j_icmp_ne (tgt := 118) hx hb dX11_account_111 (by decide) g62 (by decide) (fun c77 => ?_) (fun c77 => ?_)
            · refine lv_iconst (v := J 0) hx hb dX11_account_118 (by decide) ?_
              exact jK76 0 (b2i_iff0 (iff_of_false (show ¬ (a3 = 1) from by omega) id)) H locs hG ls (lv_sub hl [] rfl)
            · refine lv_iconst (v := J 1) hx hb dX11_account_114 (by decide) ?_
              refine lv_goto (tgt := 119) hx hb dX11_account_115 (by decide) ?_
              exact jK76 1 (b2i_iff1 (iff_of_true c77 trivial)) H locs hG ls (lv_sub hl [] rfl)
          · have h := h.2 c73
            refine lv_sipush (v := J 1440) hx hb dX11_account_83 (by decide) ?_
            refine lv_iload hx hb dX11_account_86 (lv_at hl 0 rfl) ?_
            refine lv_iload hx hb dX11_account_88 (lv_at hl 1 rfl) ?_
            refine j_isub hx hb dX11_account_90 ?_
            refine j_imul hx hb dX11_account_91 ?_
            refine lv_goto (tgt := 122) hx hb dX11_account_92 (by decide) ?_
            exact jK72 (1440 * (x60 - x56)) M1 h H locs hG ls (lv_sub hl [] rfl)
        · have h := h.2 c61
          refine lv_aload_n hx hb dX11_account_62 rfl (lv_at hl 2 rfl) ?_
          refine lv_iload_n hx hb dX11_account_63 rfl (lv_at hl 3 rfl) ?_
          refine lv_iload hx hb dX11_account_64 (lv_at hl 0 rfl) ?_
          refine j_conti (va_runV (As := [.int (J a1), .int (J x60)]) (rest := []) ⟨hx, hb, hml, hown, hts⟩ (A_X11_begins l ka0 h) (cwV 2 hts (gj_V ml_RX11_231 i_X11_begins s_X11_begins n_RX11 k_X11_begins) rfl rfl rfl (by decide +kernel) ⟨by exact Nat.le_of_ble_eq_true rfl, by exact Nat.le_of_ble_eq_true rfl⟩) (j_preV hK hSX hG (ci := 10) rfl ka0 (by decide)) rfl rfl hl.1 rfl (lv_room (Nat.le_of_ble_eq_true rfl)) dX11_account_66 ⟨by exact Nat.le_of_ble_eq_true rfl, by exact Nat.le_of_ble_eq_true rfl⟩) hG (c2 := 0) (s2 := 0) ⟨by exact Nat.le_of_ble_eq_true rfl, by exact Nat.le_of_ble_eq_true rfl⟩ (fun z80 M81 h H locs hG => ?_)
          refine lv_aload_n hx hb dX11_account_69 rfl (lv_at hl 2 rfl) ?_
          refine lv_iload_n hx hb dX11_account_70 rfl (lv_at hl 3 rfl) ?_
          refine lv_iload hx hb dX11_account_71 (lv_at hl 1 rfl) ?_
          refine j_conti (va_runV (As := [.int (J a1), .int (J x56)]) (rest := [.int (J z80)]) ⟨hx, hb, hml, hown, hts⟩ (A_X11_begins l ka0 h) (cwV 2 hts (gj_V ml_RX11_231 i_X11_begins s_X11_begins n_RX11 k_X11_begins) rfl rfl rfl (by decide +kernel) ⟨by exact Nat.le_of_ble_eq_true rfl, by exact Nat.le_of_ble_eq_true rfl⟩) (j_preV hK hSX hG (ci := 10) rfl ka0 (by decide)) rfl rfl hl.1 rfl (lv_room (Nat.le_of_ble_eq_true rfl)) dX11_account_73 ⟨by exact Nat.le_of_ble_eq_true rfl, by exact Nat.le_of_ble_eq_true rfl⟩) hG (c2 := 0) (s2 := 0) ⟨by exact Nat.le_of_ble_eq_true rfl, by exact Nat.le_of_ble_eq_true rfl⟩ (fun z82 M83 h H locs hG => ?_)
          refine j_isub hx hb dX11_account_76 ?_
          rw [hQf]
          exact j_ireti hx hb hr hlocks hG h (by decide) dX11_account_77
      · have h := h.2 c52
        exact jK45 h H locs hG ls (lv_sub hl [0] rfl)
  · have h := h.2 c5
    refine lv_aload_n hx hb dX11_account_13 rfl (lv_at hl 0 rfl) ?_
    refine lv_iconst (v := J 1) hx hb dX11_account_14 (by decide) ?_
    refine j_conti (va_runV (As := [.int (J 1)]) (rest := []) ⟨hx, hb, hml, hown, hts⟩ (A_X11_raises l ka0 h) (cwV 1 hts (gj_V ml_RX11_110 i_X11_raises s_X11_raises n_RX11 k_X11_raises) rfl rfl rfl (by decide +kernel) ⟨by exact Nat.le_of_ble_eq_true rfl, by exact Nat.le_of_ble_eq_true rfl⟩) (j_preV hK hSX hG (ci := 10) rfl ka0 (by decide)) rfl rfl hl.1 rfl (lv_room (Nat.le_of_ble_eq_true rfl)) dX11_account_15 ⟨by exact Nat.le_of_ble_eq_true rfl, by exact Nat.le_of_ble_eq_true rfl⟩) hG (c2 := 0) (s2 := 0) ⟨by exact Nat.le_of_ble_eq_true rfl, by exact Nat.le_of_ble_eq_true rfl⟩ (fun z84 M85 h H locs hG => ?_)
    rw [hQf]
    exact j_ireti hx hb hr hlocks hG h (by decide) dX11_account_18

abbrev rm_X11_localOf : Room := { frames := 1, cells := 0, slots := 0, locals := 20 }
set_option maxRecDepth 100000 in
set_option maxHeartbeats 4000000 in
theorem A_X11_localOf (l : Launch) {D : va_G} {cy : Nat → ClassId} {o : Nat} {sK sV : Nat → Nat} {M : jT} {a0 : Int} {a1 : Int} {a2 : Int} (ka0 : kd a0 = 11) (h : pg_X11_localOf M a0 a1 a2) : CoI l yX11_localOf (wj yX11_localOf cX11_localOf 4 (some .int)) rm_X11_localOf D cy o sK sV M [.ref (rA o a0), .int (J a1), .int (J a2)] (fun z M9 => z = pf_X11_localOf M a0 a1 a2 ∧ M9 = M) := by
  refine j_ofW (cc := cX11_localOf) (maxL := 4) (ret := (some .int)) (by decide) rfl (Nat.le_of_ble_eq_true rfl) ?_
  intro p e s m args below meth c hx hb hr hlocks hml hown hts hK hSX H locs hG ls hl Qf hQf
  have hown : s.vm.findClass RX11 = some m.cls := hown
  have hl : lv_has ls 4 [(0, .ref (rA o a0)), (1, .int (J a1)), (2, .int (J a2))] := hl
  have w_fl_RX11_71 := hts _ (List.mem_cons_of_mem _ fl_RX11_71)
  have w_fl_RX11_9 := hts _ (List.mem_cons_of_mem _ fl_RX11_9)
  unfold pg_X11_localOf at h
  refine lv_iload_n hx hb dX11_localOf_0 rfl (lv_at hl 1 rfl) ?_
  refine j_conti (va_runS (As := [.int (J a1)]) (rest := []) ⟨hx, hb, hml, hown, hts⟩ (A_X11_meetingAt l) (va_cwS 1 hts (gj_S ml_RX11_145 i_X11_meetingAt n_RX11 k_X11_meetingAt) rfl rfl rfl (by decide +kernel) ⟨by exact Nat.le_of_ble_eq_true rfl, by exact Nat.le_of_ble_eq_true rfl⟩) (j_preS hK hSX hG) rfl rfl hl.1 rfl (lv_room (Nat.le_of_ble_eq_true rfl)) dX11_localOf_1 ⟨by exact Nat.le_of_ble_eq_true rfl, by exact Nat.le_of_ble_eq_true rfl⟩) hG (c2 := 0) (s2 := 0) ⟨by exact Nat.le_of_ble_eq_true rfl, by exact Nat.le_of_ble_eq_true rfl⟩ (fun z1 M2 ez1 H locs hG => ?_)
  obtain ⟨ez1, eM2⟩ := ez1
  subst ez1
  rw [eM2] at hG
  refine lv_istore_n (lv' := [(3, .int (J (pf_X11_meetingAt a1))), (0, .ref (rA o a0)), (1, .int (J a1)), (2, .int (J a2))]) hx hb dX11_localOf_4 rfl hl (by decide) rfl (fun ls hl => ?_)
  refine lv_sipush (v := J 1440) hx hb dX11_localOf_5 (by decide) ?_
  refine lv_aload_n hx hb dX11_localOf_8 rfl (lv_at hl 1 rfl) ?_
  refine j_getr hx hb hts hown hK hG (k := a0) (fun w h => List.mem_cons_of_mem _ (u_X11 w h)) (ci := 10) rfl ka0 32 (k2 := a0 + 19) (by decide) (by show a0 + (19 : Int) = a0 + 19; omega) w_fl_RX11_71 dX11_localOf_9 ?_
  refine lv_iload_n hx hb dX11_localOf_12 rfl (lv_at hl 3 rfl) ?_
  obtain ⟨g3, h⟩ := h
  refine j_iald hx hb hK hG (n := 40) (kf_11_32 ka0) (by decide) g3 dX11_localOf_13 ?_
  refine j_imul hx hb dX11_localOf_14 ?_
  refine lv_aload_n hx hb dX11_localOf_15 rfl (lv_at hl 1 rfl) ?_
  refine j_getr hx hb hts hown hK hG (k := a0) (fun w h => List.mem_cons_of_mem _ (u_X11 w h)) (ci := 10) rfl ka0 1 (k2 := a0 + 1) (by decide) (by show a0 + (1 : Int) = a0 + 1; omega) w_fl_RX11_9 dX11_localOf_16 ?_
  refine lv_iload_n hx hb dX11_localOf_19 rfl (lv_at hl 0 rfl) ?_
  refine lv_iconst (v := J 2) hx hb dX11_localOf_20 (by decide) ?_
  refine j_iadd hx hb dX11_localOf_21 ?_
  obtain ⟨g4, h⟩ := h
  refine j_iald hx hb hK hG (n := 1294) (kf_11_1 ka0) (by decide) g4 dX11_localOf_22 ?_
  refine j_iadd hx hb dX11_localOf_23 ?_
  refine lv_aload_n hx hb dX11_localOf_24 rfl (lv_at hl 1 rfl) ?_
  refine j_getr hx hb hts hown hK hG (k := a0) (fun w h => List.mem_cons_of_mem _ (u_X11 w h)) (ci := 10) rfl ka0 1 (k2 := a0 + 1) (by decide) (by show a0 + (1 : Int) = a0 + 1; omega) w_fl_RX11_9 dX11_localOf_25 ?_
  refine lv_iload_n hx hb dX11_localOf_28 rfl (lv_at hl 0 rfl) ?_
  refine lv_bipush (v := J 9) hx hb dX11_localOf_29 (by decide) ?_
  refine j_iadd hx hb dX11_localOf_31 ?_
  refine lv_iload_n hx hb dX11_localOf_32 rfl (lv_at hl 3 rfl) ?_
  refine j_iadd hx hb dX11_localOf_33 ?_
  obtain ⟨g5, h⟩ := h
  refine j_iald hx hb hK hG (n := 1294) (kf_11_1 ka0) (by decide) g5 dX11_localOf_34 ?_
  refine j_iadd hx hb dX11_localOf_35 ?_
  rw [hQf]
  exact j_ireti hx hb hr hlocks hG ⟨rfl, rfl⟩ (by decide) dX11_localOf_36

abbrev rm_X11_isVoid : Room := { frames := 7, cells := 0, slots := 0, locals := 172 }
set_option maxRecDepth 100000 in
set_option maxHeartbeats 4000000 in
theorem A_X11_isVoid (l : Launch) {D : va_G} {cy : Nat → ClassId} {o : Nat} {sK sV : Nat → Nat} {M : jT} {a0 : Int} {a1 : Int} {a2 : Int} (ka0 : kd a0 = 11) {Q : Int → jT → Prop} (h : wp_X11_isVoid M a0 a1 a2 Q) : CoI l yX11_isVoid (wj yX11_isVoid cX11_isVoid 4 (some .boolean)) rm_X11_isVoid D cy o sK sV M [.ref (rA o a0), .int (J a1), .int (J a2)] Q := by
  refine j_ofW (cc := cX11_isVoid) (maxL := 4) (ret := (some .boolean)) (by decide) rfl (Nat.le_of_ble_eq_true rfl) ?_
  intro p e s m args below meth c hx hb hr hlocks hml hown hts hK hSX H locs hG ls hl Qf hQf
  have hown : s.vm.findClass RX11 = some m.cls := hown
  have hl : lv_has ls 4 [(0, .ref (rA o a0)), (1, .int (J a1)), (2, .int (J a2))] := hl
  have w_fl_RX11_9 := hts _ (List.mem_cons_of_mem _ fl_RX11_9)
  unfold wp_X11_isVoid at h
  refine lv_iload_n hx hb dX11_isVoid_0 rfl (lv_at hl 1 rfl) ?_
  refine j_conti (va_runS (As := [.int (J a1)]) (rest := []) ⟨hx, hb, hml, hown, hts⟩ (A_X11_meetingAt l) (va_cwS 1 hts (gj_S ml_RX11_145 i_X11_meetingAt n_RX11 k_X11_meetingAt) rfl rfl rfl (by decide +kernel) ⟨by exact Nat.le_of_ble_eq_true rfl, by exact Nat.le_of_ble_eq_true rfl⟩) (j_preS hK hSX hG) rfl rfl hl.1 rfl (lv_room (Nat.le_of_ble_eq_true rfl)) dX11_isVoid_1 ⟨by exact Nat.le_of_ble_eq_true rfl, by exact Nat.le_of_ble_eq_true rfl⟩) hG (c2 := 0) (s2 := 0) ⟨by exact Nat.le_of_ble_eq_true rfl, by exact Nat.le_of_ble_eq_true rfl⟩ (fun z1 M2 ez1 H locs hG => ?_)
  obtain ⟨ez1, eM2⟩ := ez1
  subst ez1
  rw [eM2] at hG
  refine j_topi (fun x3 ex3 => ?_)
  have h := h x3 ex3
  refine lv_istore_n (lv' := [(3, .int (J x3)), (0, .ref (rA o a0)), (1, .int (J a1)), (2, .int (J a2))]) hx hb dX11_isVoid_4 rfl hl (by decide) rfl (fun ls hl => ?_)
  refine lv_aload_n hx hb dX11_isVoid_5 rfl (lv_at hl 1 rfl) ?_
  refine lv_iload_n hx hb dX11_isVoid_6 rfl (lv_at hl 2 rfl) ?_
  refine lv_iload_n hx hb dX11_isVoid_7 rfl (lv_at hl 3 rfl) ?_
  obtain ⟨g4, h⟩ := h
  refine j_conti (va_runV (As := [.int (J a1), .int (J a2)]) (rest := []) ⟨hx, hb, hml, hown, hts⟩ (A_X11_localOf l ka0 g4) (cwV 2 hts (gj_V ml_RX11_250 i_X11_localOf s_X11_localOf n_RX11 k_X11_localOf) rfl rfl rfl (by decide +kernel) ⟨by exact Nat.le_of_ble_eq_true rfl, by exact Nat.le_of_ble_eq_true rfl⟩) (j_preV hK hSX hG (ci := 10) rfl ka0 (by decide)) rfl rfl hl.1 rfl (lv_room (Nat.le_of_ble_eq_true rfl)) dX11_isVoid_8 ⟨by exact Nat.le_of_ble_eq_true rfl, by exact Nat.le_of_ble_eq_true rfl⟩) hG (c2 := 0) (s2 := 0) ⟨by exact Nat.le_of_ble_eq_true rfl, by exact Nat.le_of_ble_eq_true rfl⟩ (fun z5 M6 ez5 H locs hG => ?_)
  obtain ⟨ez5, eM6⟩ := ez5
  subst ez5
  rw [eM6] at hG
  obtain ⟨g7, h⟩ := h
  refine j_conti (va_runS (As := [.int (J (pf_X11_localOf M a0 a1 a2))]) (rest := []) ⟨hx, hb, hml, hown, hts⟩ (A_X11_isLocal l g7) (va_cwS 1 hts (gj_S ml_RX11_225 i_X11_isLocal n_RX11 k_X11_isLocal) rfl rfl rfl (by decide +kernel) ⟨by exact Nat.le_of_ble_eq_true rfl, by exact Nat.le_of_ble_eq_true rfl⟩) (j_preS hK hSX hG) rfl rfl hl.1 rfl (lv_room (Nat.le_of_ble_eq_true rfl)) dX11_isVoid_11 ⟨by exact Nat.le_of_ble_eq_true rfl, by exact Nat.le_of_ble_eq_true rfl⟩) hG (c2 := 0) (s2 := 0) ⟨by exact Nat.le_of_ble_eq_true rfl, by exact Nat.le_of_ble_eq_true rfl⟩ (fun z8 M9 ez8 H locs hG => ?_)
  obtain ⟨ez8, eM9⟩ := ez8
  subst ez8
  rw [eM9] at hG
  obtain ⟨K32, hK32, h⟩ := h
  have jK32 : ∀ (x30 : Int) (M31 : jT), K32 x30 M31 → ∀ (H : Heap) (locs : List Loc), GM D cy o M31 s.heap H locs → ∀ ls : Array Slot, lv_has ls 4 [] → W p l e rm_X11_isVoid s m args below meth c H locs 0 0 Qf (F0 m 49 ls [.int (J x30)]) := by
    intro x30 M31 hcK32 H locs hG ls hl
    have h := hK32 x30 M31 hcK32
    obtain ⟨g33, h⟩ := h
    rw [hQf]
    exact j_iretn hx hb hr hlocks (nar_b g33) hG h (by decide) dX11_isVoid_49
  obtain ⟨K44, hK44, h⟩ := h
  have jK44 : ∀ (M43 : jT), K44 M43 → ∀ (H : Heap) (locs : List Loc), GM D cy o M43 s.heap H locs → ∀ ls : Array Slot, lv_has ls 4 [] → W p l e rm_X11_isVoid s m args below meth c H locs 0 0 Qf (F0 m 44 ls []) := by
    intro M43 hcK44 H locs hG ls hl
    have h := hK44 M43 hcK44
    refine lv_iconst (v := J 1) hx hb dX11_isVoid_44 (by decide) ?_
    refine lv_goto (tgt := 49) hx hb dX11_isVoid_45 (by decide) ?_
    exact jK32 1 M43 h H locs hG ls (lv_sub hl [] rfl)
  refine j_if_eq_b (tgt := 44) hx hb dX11_isVoid_14 (by decide) (fun c45 => ?_) (fun c45 => ?_)
  · have h := h.1 c45
    exact jK44 M h H locs hG ls (lv_sub hl [] rfl)
  · have h := h.2 c45
    refine lv_aload_n hx hb dX11_isVoid_17 rfl (lv_at hl 1 rfl) ?_
    refine lv_aload_n hx hb dX11_isVoid_18 rfl (lv_at hl 1 rfl) ?_
    refine j_getr hx hb hts hown hK hG (k := a0) (fun w h => List.mem_cons_of_mem _ (u_X11 w h)) (ci := 10) rfl ka0 1 (k2 := a0 + 1) (by decide) (by show a0 + (1 : Int) = a0 + 1; omega) w_fl_RX11_9 dX11_isVoid_19 ?_
    refine lv_iload_n hx hb dX11_isVoid_22 rfl (lv_at hl 0 rfl) ?_
    obtain ⟨g46, h⟩ := h
    refine j_iald hx hb hK hG (n := 1294) (kf_11_1 ka0) (by decide) g46 dX11_isVoid_23 ?_
    refine lv_aload_n hx hb dX11_isVoid_24 rfl (lv_at hl 1 rfl) ?_
    refine lv_iload_n hx hb dX11_isVoid_25 rfl (lv_at hl 2 rfl) ?_
    refine lv_iload_n hx hb dX11_isVoid_26 rfl (lv_at hl 3 rfl) ?_
    refine j_conti (va_runV (As := [.int (J a1), .int (J a2)]) (rest := [.int (J (M (a0 + 1) x3)), .ref (rA o a0)]) ⟨hx, hb, hml, hown, hts⟩ (A_X11_localOf l ka0 g4) (cwV 2 hts (gj_V ml_RX11_250 i_X11_localOf s_X11_localOf n_RX11 k_X11_localOf) rfl rfl rfl (by decide +kernel) ⟨by exact Nat.le_of_ble_eq_true rfl, by exact Nat.le_of_ble_eq_true rfl⟩) (j_preV hK hSX hG (ci := 10) rfl ka0 (by decide)) rfl rfl hl.1 rfl (lv_room (Nat.le_of_ble_eq_true rfl)) dX11_isVoid_27 ⟨by exact Nat.le_of_ble_eq_true rfl, by exact Nat.le_of_ble_eq_true rfl⟩) hG (c2 := 0) (s2 := 0) ⟨by exact Nat.le_of_ble_eq_true rfl, by exact Nat.le_of_ble_eq_true rfl⟩ (fun z47 M48 ez47 H locs hG => ?_)
    obtain ⟨ez47, eM48⟩ := ez47
    subst ez47
    rw [eM48] at hG
    refine lv_aload_n hx hb dX11_isVoid_30 rfl (lv_at hl 1 rfl) ?_
    refine j_getr hx hb hts hown hK hG (k := a0) (fun w h => List.mem_cons_of_mem _ (u_X11 w h)) (ci := 10) rfl ka0 1 (k2 := a0 + 1) (by decide) (by show a0 + (1 : Int) = a0 + 1; omega) w_fl_RX11_9 dX11_isVoid_31 ?_
    refine lv_iload_n hx hb dX11_isVoid_34 rfl (lv_at hl 0 rfl) ?_
    refine lv_iconst (v := J 4) hx hb dX11_isVoid_35 (by decide) ?_
    refine j_iadd hx hb dX11_isVoid_36 ?_
    obtain ⟨g49, h⟩ := h
    refine j_iald hx hb hK hG (n := 1294) (kf_11_1 ka0) (by decide) g49 dX11_isVoid_37 ?_
    refine j_conti (va_runV (As := [.int (J (M (a0 + 1) x3)), .int (J (pf_X11_localOf M a0 a1 a2)), .int (J (M (a0 + 1) (x3 + 4)))]) (rest := []) ⟨hx, hb, hml, hown, hts⟩ (A_X11_tells l ka0 h) (cwV 3 hts (gj_V ml_RX11_228 i_X11_tells s_X11_tells n_RX11 k_X11_tells) rfl rfl rfl (by decide +kernel) ⟨by exact Nat.le_of_ble_eq_true rfl, by exact Nat.le_of_ble_eq_true rfl⟩) (j_preV hK hSX hG (ci := 10) rfl ka0 (by decide)) rfl rfl hl.1 rfl (lv_room (Nat.le_of_ble_eq_true rfl)) dX11_isVoid_38 ⟨by exact Nat.le_of_ble_eq_true rfl, by exact Nat.le_of_ble_eq_true rfl⟩) hG (c2 := 0) (s2 := 0) ⟨by exact Nat.le_of_ble_eq_true rfl, by exact Nat.le_of_ble_eq_true rfl⟩ (fun z50 M51 h H locs hG => ?_)
    obtain ⟨g53, h⟩ := h
    refine j_if_ne (tgt := 48) hx hb dX11_isVoid_41 (by decide) g53 (fun c52 => ?_) (fun c52 => ?_)
    · have h := h.1 c52
      refine lv_iconst (v := J 0) hx hb dX11_isVoid_48 (by decide) ?_
      exact jK32 0 M51 h H locs hG ls (lv_sub hl [] rfl)
    · have h := h.2 c52
      exact jK44 M51 h H locs hG ls (lv_sub hl [] rfl)

abbrev rm_X11_takesPlace : Room := { frames := 8, cells := 0, slots := 0, locals := 195 }
set_option maxRecDepth 100000 in
set_option maxHeartbeats 4000000 in
theorem A_X11_takesPlace (l : Launch) {D : va_G} {cy : Nat → ClassId} {o : Nat} {sK sV : Nat → Nat} {M : jT} {a0 : Int} {a1 : Int} {a2 : Int} (ka0 : kd a0 = 11) {Q : Int → jT → Prop} (h : wp_X11_takesPlace M a0 a1 a2 Q) : CoI l yX11_takesPlace (wj yX11_takesPlace cX11_takesPlace 3 (some .boolean)) rm_X11_takesPlace D cy o sK sV M [.ref (rA o a0), .int (J a1), .int (J a2)] Q := by
  refine j_ofW (cc := cX11_takesPlace) (maxL := 3) (ret := (some .boolean)) (by decide) rfl (Nat.le_of_ble_eq_true rfl) ?_
  intro p e s m args below meth c hx hb hr hlocks hml hown hts hK hSX H locs hG ls hl Qf hQf
  have hown : s.vm.findClass RX11 = some m.cls := hown
  have hl : lv_has ls 3 [(0, .ref (rA o a0)), (1, .int (J a1)), (2, .int (J a2))] := hl
  have w_fl_RX11_9 := hts _ (List.mem_cons_of_mem _ fl_RX11_9)
  unfold wp_X11_takesPlace at h
  refine lv_aload_n hx hb dX11_takesPlace_0 rfl (lv_at hl 0 rfl) ?_
  refine j_getr hx hb hts hown hK hG (k := a0) (fun w h => List.mem_cons_of_mem _ (u_X11 w h)) (ci := 10) rfl ka0 1 (k2 := a0 + 1) (by decide) (by show a0 + (1 : Int) = a0 + 1; omega) w_fl_RX11_9 dX11_takesPlace_1 ?_
  refine lv_iload_n hx hb dX11_takesPlace_4 rfl (lv_at hl 1 rfl) ?_
  refine j_conti (va_runS (As := [.int (J a1)]) (rest := [.ref (rA o (a0 + 1))]) ⟨hx, hb, hml, hown, hts⟩ (A_X11_meetingAt l) (va_cwS 1 hts (gj_S ml_RX11_145 i_X11_meetingAt n_RX11 k_X11_meetingAt) rfl rfl rfl (by decide +kernel) ⟨by exact Nat.le_of_ble_eq_true rfl, by exact Nat.le_of_ble_eq_true rfl⟩) (j_preS hK hSX hG) rfl rfl hl.1 rfl (lv_room (Nat.le_of_ble_eq_true rfl)) dX11_takesPlace_5 ⟨by exact Nat.le_of_ble_eq_true rfl, by exact Nat.le_of_ble_eq_true rfl⟩) hG (c2 := 0) (s2 := 0) ⟨by exact Nat.le_of_ble_eq_true rfl, by exact Nat.le_of_ble_eq_true rfl⟩ (fun z1 M2 ez1 H locs hG => ?_)
  obtain ⟨ez1, eM2⟩ := ez1
  subst ez1
  rw [eM2] at hG
  refine lv_bipush (v := J 49) hx hb dX11_takesPlace_8 (by decide) ?_
  refine j_iadd hx hb dX11_takesPlace_10 ?_
  refine lv_iload_n hx hb dX11_takesPlace_11 rfl (lv_at hl 2 rfl) ?_
  refine j_iadd hx hb dX11_takesPlace_12 ?_
  obtain ⟨g3, h⟩ := h
  refine j_iald hx hb hK hG (n := 1294) (kf_11_1 ka0) (by decide) g3 dX11_takesPlace_13 ?_
  obtain ⟨K20, hK20, h⟩ := h
  have jK20 : ∀ (x18 : Int) (M19 : jT), K20 x18 M19 → ∀ (H : Heap) (locs : List Loc), GM D cy o M19 s.heap H locs → ∀ ls : Array Slot, lv_has ls 3 [] → W p l e rm_X11_takesPlace s m args below meth c H locs 0 0 Qf (F0 m 31 ls [.int (J x18)]) := by
    intro x18 M19 hcK20 H locs hG ls hl
    have h := hK20 x18 M19 hcK20
    obtain ⟨g21, h⟩ := h
    rw [hQf]
    exact j_iretn hx hb hr hlocks (nar_b g21) hG h (by decide) dX11_takesPlace_31
  obtain ⟨K29, hK29, h⟩ := h
  have jK29 : ∀ (M28 : jT), K29 M28 → ∀ (H : Heap) (locs : List Loc), GM D cy o M28 s.heap H locs → ∀ ls : Array Slot, lv_has ls 3 [] → W p l e rm_X11_takesPlace s m args below meth c H locs 0 0 Qf (F0 m 30 ls []) := by
    intro M28 hcK29 H locs hG ls hl
    have h := hK29 M28 hcK29
    refine lv_iconst (v := J 0) hx hb dX11_takesPlace_30 (by decide) ?_
    exact jK20 0 M28 h H locs hG ls (lv_sub hl [] rfl)
  obtain ⟨g31, h⟩ := h
  refine j_if_ne (tgt := 30) hx hb dX11_takesPlace_14 (by decide) g31 (fun c30 => ?_) (fun c30 => ?_)
  · have h := h.1 c30
    exact jK29 M h H locs hG ls (lv_sub hl [] rfl)
  · have h := h.2 c30
    refine lv_aload_n hx hb dX11_takesPlace_17 rfl (lv_at hl 0 rfl) ?_
    refine lv_iload_n hx hb dX11_takesPlace_18 rfl (lv_at hl 1 rfl) ?_
    refine lv_iload_n hx hb dX11_takesPlace_19 rfl (lv_at hl 2 rfl) ?_
    refine j_conti (va_runV (As := [.int (J a1), .int (J a2)]) (rest := []) ⟨hx, hb, hml, hown, hts⟩ (A_X11_isVoid l ka0 h) (cwV 2 hts (gj_V ml_RX11_253 i_X11_isVoid s_X11_isVoid n_RX11 k_X11_isVoid) rfl rfl rfl (by decide +kernel) ⟨by exact Nat.le_of_ble_eq_true rfl, by exact Nat.le_of_ble_eq_true rfl⟩) (j_preV hK hSX hG (ci := 10) rfl ka0 (by decide)) rfl rfl hl.1 rfl (lv_room (Nat.le_of_ble_eq_true rfl)) dX11_takesPlace_20 ⟨by exact Nat.le_of_ble_eq_true rfl, by exact Nat.le_of_ble_eq_true rfl⟩) hG (c2 := 0) (s2 := 0) ⟨by exact Nat.le_of_ble_eq_true rfl, by exact Nat.le_of_ble_eq_true rfl⟩ (fun z32 M33 h H locs hG => ?_)
    obtain ⟨g35, h⟩ := h
    refine j_if_ne (tgt := 30) hx hb dX11_takesPlace_23 (by decide) g35 (fun c34 => ?_) (fun c34 => ?_)
    · have h := h.1 c34
      exact jK29 M33 h H locs hG ls (lv_sub hl [] rfl)
    · have h := h.2 c34
      refine lv_iconst (v := J 1) hx hb dX11_takesPlace_26 (by decide) ?_
      refine lv_goto (tgt := 31) hx hb dX11_takesPlace_27 (by decide) ?_
      exact jK20 1 M33 h H locs hG ls (lv_sub hl [] rfl)

abbrev rm_X11_placed : Room := { frames := 9, cells := 0, slots := 0, locals := 217 }
set_option maxRecDepth 100000 in
set_option maxHeartbeats 4000000 in
theorem A_X11_placed (l : Launch) {D : va_G} {cy : Nat → ClassId} {o : Nat} {sK sV : Nat → Nat} {M : jT} {a0 : Int} {a1 : Int} (ka0 : kd a0 = 11) {Q : Int → jT → Prop} (h : wp_X11_placed M a0 a1 Q) : CoI l yX11_placed (wj yX11_placed cX11_placed 4 (some .int)) rm_X11_placed D cy o sK sV M [.ref (rA o a0), .int (J a1)] Q := by
  refine j_ofW (cc := cX11_placed) (maxL := 4) (ret := (some .int)) (by decide) rfl (Nat.le_of_ble_eq_true rfl) ?_
  intro p e s m args below meth c hx hb hr hlocks hml hown hts hK hSX H locs hG ls hl Qf hQf
  have hown : s.vm.findClass RX11 = some m.cls := hown
  have hl : lv_has ls 4 [(0, .ref (rA o a0)), (1, .int (J a1))] := hl
  have w_fl_RX11_244 := hts _ (List.mem_cons_of_mem _ fl_RX11_244)
  unfold wp_X11_placed at h
  refine lv_aload_n hx hb dX11_placed_0 rfl (lv_at hl 0 rfl) ?_
  refine lv_iload_n hx hb dX11_placed_1 rfl (lv_at hl 1 rfl) ?_
  refine j_contv (va_runV (As := [.int (J a1)]) (rest := []) ⟨hx, hb, hml, hown, hts⟩ (A_X11_lists l ka0 h) (cwV 1 hts (gj_V ml_RX11_241 i_X11_lists s_X11_lists n_RX11 k_X11_lists) rfl rfl rfl (by decide +kernel) ⟨by exact Nat.le_of_ble_eq_true rfl, by exact Nat.le_of_ble_eq_true rfl⟩) (j_preV hK hSX hG (ci := 10) rfl ka0 (by decide)) rfl rfl hl.1 rfl (lv_room (Nat.le_of_ble_eq_true rfl)) dX11_placed_2 ⟨by exact Nat.le_of_ble_eq_true rfl, by exact Nat.le_of_ble_eq_true rfl⟩) hG (c2 := 0) (s2 := 0) ⟨by exact Nat.le_of_ble_eq_true rfl, by exact Nat.le_of_ble_eq_true rfl⟩ (fun M2 h H locs hG => ?_)
  refine lv_iconst (v := J 0) hx hb dX11_placed_5 (by decide) ?_
  refine lv_istore_n (lv' := [(2, .int (J 0)), (0, .ref (rA o a0)), (1, .int (J a1))]) hx hb dX11_placed_6 rfl hl (by decide) rfl (fun ls hl => ?_)
  refine lv_iconst (v := J 0) hx hb dX11_placed_7 (by decide) ?_
  refine lv_istore_n (lv' := [(3, .int (J 0)), (2, .int (J 0)), (0, .ref (rA o a0)), (1, .int (J a1))]) hx hb dX11_placed_8 rfl hl (by decide) rfl (fun ls hl => ?_)
  obtain ⟨I6, ⟨n7s, iI6⟩, qI6⟩ := h
  have lI6 : ∀ (n7 : Nat) (x3 : Int) (x4 : Int) (M5 : jT), I6 n7 x3 x4 M5 → ∀ (H : Heap) (locs : List Loc), GM D cy o M5 s.heap H locs → ∀ ls : Array Slot, lv_has ls 4 [(0, .ref (rA o a0)), (1, .int (J a1)), (2, .int (J x3)), (3, .int (J x4))] → W p l e rm_X11_placed s m args below meth c H locs 0 0 Qf (F0 m 9 ls []) := by
    intro n7
    induction n7 using Nat.strongRecOn with
    | ind n7 rI6 =>
      intro x3 x4 M5 iI6 H locs hG ls hl
      have h := qI6 n7 x3 x4 M5 iI6
      refine lv_iload_n hx hb dX11_placed_9 rfl (lv_at hl 3 rfl) ?_
      refine lv_aload_n hx hb dX11_placed_10 rfl (lv_at hl 0 rfl) ?_
      refine j_geti hx hb hts hown hK hG (k := a0) (fun w h => List.mem_cons_of_mem _ (u_X11 w h)) (ci := 10) rfl ka0 33 (by decide) (jz := 33) rfl w_fl_RX11_244 dX11_placed_11 ?_
      obtain ⟨g9, h⟩ := h
      obtain ⟨g10, h⟩ := h
      refine j_icmp_ge (tgt := 35) hx hb dX11_placed_14 (by decide) g9 g10 (fun c8 => ?_) (fun c8 => ?_)
      · have h := h.1 c8
        refine lv_iload_n hx hb dX11_placed_35 rfl (lv_at hl 2 rfl) ?_
        rw [hQf]
        exact j_ireti hx hb hr hlocks hG h (by decide) dX11_placed_36
      · have h := h.2 c8
        refine lv_aload_n hx hb dX11_placed_17 rfl (lv_at hl 0 rfl) ?_
        refine lv_iload_n hx hb dX11_placed_18 rfl (lv_at hl 1 rfl) ?_
        refine lv_iload_n hx hb dX11_placed_19 rfl (lv_at hl 3 rfl) ?_
        refine j_conti (va_runV (As := [.int (J a1), .int (J x4)]) (rest := []) ⟨hx, hb, hml, hown, hts⟩ (A_X11_takesPlace l ka0 h) (cwV 2 hts (gj_V ml_RX11_256 i_X11_takesPlace s_X11_takesPlace n_RX11 k_X11_takesPlace) rfl rfl rfl (by decide +kernel) ⟨by exact Nat.le_of_ble_eq_true rfl, by exact Nat.le_of_ble_eq_true rfl⟩) (j_preV hK hSX hG (ci := 10) rfl ka0 (by decide)) rfl rfl hl.1 rfl (lv_room (Nat.le_of_ble_eq_true rfl)) dX11_placed_20 ⟨by exact Nat.le_of_ble_eq_true rfl, by exact Nat.le_of_ble_eq_true rfl⟩) hG (c2 := 0) (s2 := 0) ⟨by exact Nat.le_of_ble_eq_true rfl, by exact Nat.le_of_ble_eq_true rfl⟩ (fun z11 M12 h H locs hG => ?_)
        obtain ⟨hg, h⟩ := h
        have jK17 : ∀ x16 : Int, (z11 = 0 → x16 = x3) → (z11 ≠ 0 → x16 = x3 + 1) → ∀ (H : Heap) (locs : List Loc), GM D cy o M12 s.heap H locs → ∀ ls : Array Slot, lv_has ls 4 [(0, .ref (rA o a0)), (1, .int (J a1)), (2, .int (J x16)), (3, .int (J x4))] → W p l e rm_X11_placed s m args below meth c H locs 0 0 Qf (F0 m 29 ls []) := by
          intro x16 qx16_0 qx16_1 H locs hG ls hl
          have h := h x16 qx16_0 qx16_1
          refine j_iinc hx hb dX11_placed_29 hl (k := 3) rfl (by decide) (fun x21 ex21 ls hl => ?_)
          have h := h x21 ex21
          have hl : lv_has ls 4 [(3, .int (J x21)), (0, .ref (rA o a0)), (1, .int (J a1)), (2, .int (J x16))] := hl
          refine lv_goto (tgt := 9) hx hb dX11_placed_32 (by decide) ?_
          obtain ⟨n22, ln22, iI6⟩ := h
          exact rI6 n22 ln22 x16 x21 M12 iI6 H locs hG ls (lv_sub hl [1, 2, 3, 0] rfl)
        have h := hg
        obtain ⟨g19, h⟩ := h
        refine j_if_eq (tgt := 29) hx hb dX11_placed_23 (by decide) g19 (fun c18 => ?_) (fun c18 => ?_)
        · have h := h.1 c18
          exact jK17 x3 (fun _ => rfl) (fun q => absurd q (by omega)) H locs hG ls (lv_sub hl [0, 1, 2, 3] rfl)
        · have h := h.2 c18
          refine j_iinc hx hb dX11_placed_26 hl (k := 2) rfl (by decide) (fun x20 ex20 ls hl => ?_)
          subst ex20
          have hl : lv_has ls 4 [(2, .int (J (x3 + 1))), (0, .ref (rA o a0)), (1, .int (J a1)), (3, .int (J x4))] := hl
          exact jK17 (x3 + 1) (fun q => absurd q (by omega)) (fun _ => rfl) H locs hG ls (lv_sub hl [1, 2, 0, 3] rfl)
  exact lI6 n7s 0 0 M2 iI6 H locs hG ls (lv_sub hl [2, 3, 1, 0] rfl)

abbrev rm_X11_addMeeting : Room := { frames := 2, cells := 0, slots := 0, locals := 43 }
set_option maxRecDepth 100000 in
set_option maxHeartbeats 4000000 in
theorem A_X11_addMeeting (l : Launch) {D : va_G} {cy : Nat → ClassId} {o : Nat} {sK sV : Nat → Nat} {M : jT} {a0 : Int} {a1 : Int} {a2 : Int} {a3 : Int} {a4 : Int} {a5 : Int} {a6 : Int} (ka0 : kd a0 = 11) {Q : Int → jT → Prop} (h : wp_X11_addMeeting M a0 a1 a2 a3 a4 a5 a6 Q) : CoI l yX11_addMeeting (wj yX11_addMeeting cX11_addMeeting 9 (some .int)) rm_X11_addMeeting D cy o sK sV M [.ref (rA o a0), .int (J a1), .int (J a2), .int (J a3), .int (J a4), .int (J a5), .int (J a6)] Q := by
  refine j_ofW (cc := cX11_addMeeting) (maxL := 9) (ret := (some .int)) (by decide) rfl (Nat.le_of_ble_eq_true rfl) ?_
  intro p e s m args below meth c hx hb hr hlocks hml hown hts hK hSX H locs hG ls hl Qf hQf
  have hown : s.vm.findClass RX11 = some m.cls := hown
  have hl : lv_has ls 9 [(0, .ref (rA o a0)), (1, .int (J a1)), (2, .int (J a2)), (3, .int (J a3)), (4, .int (J a4)), (5, .int (J a5)), (6, .int (J a6))] := hl
  have w_fl_RX11_80 := hts _ (List.mem_cons_of_mem _ fl_RX11_80)
  have w_fl_RX11_9 := hts _ (List.mem_cons_of_mem _ fl_RX11_9)
  unfold wp_X11_addMeeting at h
  refine lv_aload_n hx hb dX11_addMeeting_0 rfl (lv_at hl 0 rfl) ?_
  refine lv_iconst (v := J 0) hx hb dX11_addMeeting_1 (by decide) ?_
  refine j_puti hx hb hts hown hK hG (k := a0) (fun w h => List.mem_cons_of_mem _ (u_X11 w h)) tyX11 tyX11_ok nmX11 (ci := 10) rfl ka0 0 (by decide) (jz := 0) rfl w_fl_RX11_80 (hd := rfl) (hn := rfl) (hfit := rfl) (hdg := dX11_addMeeting_2) (fun M1 eM1 H locs hG => ?_)
  have h := h M1 eM1
  refine lv_aload_n hx hb dX11_addMeeting_5 rfl (lv_at hl 0 rfl) ?_
  refine lv_iload_n hx hb dX11_addMeeting_6 rfl (lv_at hl 1 rfl) ?_
  obtain ⟨g2, h⟩ := h
  refine j_conti (va_runV (As := [.int (J a1)]) (rest := []) ⟨hx, hb, hml, hown, hts⟩ (A_X11_isZone l ka0 g2) (cwV 1 hts (gj_V ml_RX11_126 i_X11_isZone s_X11_isZone n_RX11 k_X11_isZone) rfl rfl rfl (by decide +kernel) ⟨by exact Nat.le_of_ble_eq_true rfl, by exact Nat.le_of_ble_eq_true rfl⟩) (j_preV hK hSX hG (ci := 10) rfl ka0 (by decide)) rfl rfl hl.1 rfl (lv_room (Nat.le_of_ble_eq_true rfl)) dX11_addMeeting_7 ⟨by exact Nat.le_of_ble_eq_true rfl, by exact Nat.le_of_ble_eq_true rfl⟩) hG (c2 := 0) (s2 := 0) ⟨by exact Nat.le_of_ble_eq_true rfl, by exact Nat.le_of_ble_eq_true rfl⟩ (fun z3 M4 ez3 H locs hG => ?_)
  obtain ⟨ez3, eM4⟩ := ez3
  subst ez3
  rw [eM4] at hG
  refine j_if_ne_b (tgt := 19) hx hb dX11_addMeeting_10 (by decide) (fun c5 => ?_) (fun c5 => ?_)
  · have h := h.1 c5
    refine lv_iload_n hx hb dX11_addMeeting_19 rfl (lv_at hl 2 rfl) ?_
    obtain ⟨g6, h⟩ := h
    refine j_conti (va_runS (As := [.int (J a2)]) (rest := []) ⟨hx, hb, hml, hown, hts⟩ (A_X11_isDay l g6) (va_cwS 1 hts (gj_S ml_RX11_113 i_X11_isDay n_RX11 k_X11_isDay) rfl rfl rfl (by decide +kernel) ⟨by exact Nat.le_of_ble_eq_true rfl, by exact Nat.le_of_ble_eq_true rfl⟩) (j_preS hK hSX hG) rfl rfl hl.1 rfl (lv_room (Nat.le_of_ble_eq_true rfl)) dX11_addMeeting_20 ⟨by exact Nat.le_of_ble_eq_true rfl, by exact Nat.le_of_ble_eq_true rfl⟩) hG (c2 := 0) (s2 := 0) ⟨by exact Nat.le_of_ble_eq_true rfl, by exact Nat.le_of_ble_eq_true rfl⟩ (fun z7 M8 ez7 H locs hG => ?_)
    obtain ⟨ez7, eM8⟩ := ez7
    subst ez7
    rw [eM8] at hG
    obtain ⟨K60, hK60, h⟩ := h
    have jK60 : K60 → ∀ (H : Heap) (locs : List Loc), GM D cy o M1 s.heap H locs → ∀ ls : Array Slot, lv_has ls 9 [(0, .ref (rA o a0))] → W p l e rm_X11_addMeeting s m args below meth c H locs 0 0 Qf (F0 m 70 ls []) := by
      intro hcK60 H locs hG ls hl
      have h := hK60 hcK60
      refine lv_aload_n hx hb dX11_addMeeting_70 rfl (lv_at hl 0 rfl) ?_
      refine lv_iconst (v := J 2) hx hb dX11_addMeeting_71 (by decide) ?_
      refine j_conti (va_runV (As := [.int (J 2)]) (rest := []) ⟨hx, hb, hml, hown, hts⟩ (A_X11_raises l ka0 h) (cwV 1 hts (gj_V ml_RX11_110 i_X11_raises s_X11_raises n_RX11 k_X11_raises) rfl rfl rfl (by decide +kernel) ⟨by exact Nat.le_of_ble_eq_true rfl, by exact Nat.le_of_ble_eq_true rfl⟩) (j_preV hK hSX hG (ci := 10) rfl ka0 (by decide)) rfl rfl hl.1 rfl (lv_room (Nat.le_of_ble_eq_true rfl)) dX11_addMeeting_72 ⟨by exact Nat.le_of_ble_eq_true rfl, by exact Nat.le_of_ble_eq_true rfl⟩) hG (c2 := 0) (s2 := 0) ⟨by exact Nat.le_of_ble_eq_true rfl, by exact Nat.le_of_ble_eq_true rfl⟩ (fun z61 M62 h H locs hG => ?_)
      rw [hQf]
      exact j_ireti hx hb hr hlocks hG h (by decide) dX11_addMeeting_75
    refine j_if_eq_b (tgt := 70) hx hb dX11_addMeeting_23 (by decide) (fun c63 => ?_) (fun c63 => ?_)
    · have h := h.1 c63
      exact jK60 h H locs hG ls (lv_sub hl [0] rfl)
    · have h := h.2 c63
      refine lv_iload_n hx hb dX11_addMeeting_26 rfl (lv_at hl 3 rfl) ?_
      refine lv_iconst (v := J 0) hx hb dX11_addMeeting_27 (by decide) ?_
      refine lv_sipush (v := J 1439) hx hb dX11_addMeeting_28 (by decide) ?_
      obtain ⟨g64, h⟩ := h
      refine j_conti (va_runS (As := [.int (J a3), .int (J 0), .int (J 1439)]) (rest := []) ⟨hx, hb, hml, hown, hts⟩ (A_X11_in l g64) (va_cwS 3 hts (gj_S ml_RX11_106 i_X11_in n_RX11 k_X11_in) rfl rfl rfl (by decide +kernel) ⟨by exact Nat.le_of_ble_eq_true rfl, by exact Nat.le_of_ble_eq_true rfl⟩) (j_preS hK hSX hG) rfl rfl hl.1 rfl (lv_room (Nat.le_of_ble_eq_true rfl)) dX11_addMeeting_31 ⟨by exact Nat.le_of_ble_eq_true rfl, by exact Nat.le_of_ble_eq_true rfl⟩) hG (c2 := 0) (s2 := 0) ⟨by exact Nat.le_of_ble_eq_true rfl, by exact Nat.le_of_ble_eq_true rfl⟩ (fun z65 M66 ez65 H locs hG => ?_)
      obtain ⟨ez65, eM66⟩ := ez65
      subst ez65
      rw [eM66] at hG
      refine j_if_eq_b (tgt := 70) hx hb dX11_addMeeting_34 (by decide) (fun c67 => ?_) (fun c67 => ?_)
      · have h := h.1 c67
        exact jK60 h H locs hG ls (lv_sub hl [0] rfl)
      · have h := h.2 c67
        refine lv_iload hx hb dX11_addMeeting_37 (lv_at hl 4 rfl) ?_
        refine lv_iconst (v := J 1) hx hb dX11_addMeeting_39 (by decide) ?_
        refine lv_sipush (v := J 1440) hx hb dX11_addMeeting_40 (by decide) ?_
        obtain ⟨g68, h⟩ := h
        refine j_conti (va_runS (As := [.int (J a4), .int (J 1), .int (J 1440)]) (rest := []) ⟨hx, hb, hml, hown, hts⟩ (A_X11_in l g68) (va_cwS 3 hts (gj_S ml_RX11_106 i_X11_in n_RX11 k_X11_in) rfl rfl rfl (by decide +kernel) ⟨by exact Nat.le_of_ble_eq_true rfl, by exact Nat.le_of_ble_eq_true rfl⟩) (j_preS hK hSX hG) rfl rfl hl.1 rfl (lv_room (Nat.le_of_ble_eq_true rfl)) dX11_addMeeting_43 ⟨by exact Nat.le_of_ble_eq_true rfl, by exact Nat.le_of_ble_eq_true rfl⟩) hG (c2 := 0) (s2 := 0) ⟨by exact Nat.le_of_ble_eq_true rfl, by exact Nat.le_of_ble_eq_true rfl⟩ (fun z69 M70 ez69 H locs hG => ?_)
        obtain ⟨ez69, eM70⟩ := ez69
        subst ez69
        rw [eM70] at hG
        refine j_if_eq_b (tgt := 70) hx hb dX11_addMeeting_46 (by decide) (fun c71 => ?_) (fun c71 => ?_)
        · have h := h.1 c71
          exact jK60 h H locs hG ls (lv_sub hl [0] rfl)
        · have h := h.2 c71
          refine lv_iload hx hb dX11_addMeeting_49 (lv_at hl 5 rfl) ?_
          refine lv_iconst (v := J 0) hx hb dX11_addMeeting_51 (by decide) ?_
          refine lv_iconst (v := J 3) hx hb dX11_addMeeting_52 (by decide) ?_
          obtain ⟨g72, h⟩ := h
          refine j_conti (va_runS (As := [.int (J a5), .int (J 0), .int (J 3)]) (rest := []) ⟨hx, hb, hml, hown, hts⟩ (A_X11_in l g72) (va_cwS 3 hts (gj_S ml_RX11_106 i_X11_in n_RX11 k_X11_in) rfl rfl rfl (by decide +kernel) ⟨by exact Nat.le_of_ble_eq_true rfl, by exact Nat.le_of_ble_eq_true rfl⟩) (j_preS hK hSX hG) rfl rfl hl.1 rfl (lv_room (Nat.le_of_ble_eq_true rfl)) dX11_addMeeting_53 ⟨by exact Nat.le_of_ble_eq_true rfl, by exact Nat.le_of_ble_eq_true rfl⟩) hG (c2 := 0) (s2 := 0) ⟨by exact Nat.le_of_ble_eq_true rfl, by exact Nat.le_of_ble_eq_true rfl⟩ (fun z73 M74 ez73 H locs hG => ?_)
          obtain ⟨ez73, eM74⟩ := ez73
          subst ez73
          rw [eM74] at hG
          refine j_if_eq_b (tgt := 70) hx hb dX11_addMeeting_56 (by decide) (fun c75 => ?_) (fun c75 => ?_)
          · have h := h.1 c75
            exact jK60 h H locs hG ls (lv_sub hl [0] rfl)
          · have h := h.2 c75
            refine lv_iload hx hb dX11_addMeeting_59 (lv_at hl 6 rfl) ?_
            refine lv_iconst (v := J 1) hx hb dX11_addMeeting_61 (by decide) ?_
            refine lv_bipush (v := J 40) hx hb dX11_addMeeting_62 (by decide) ?_
            obtain ⟨g76, h⟩ := h
            refine j_conti (va_runS (As := [.int (J a6), .int (J 1), .int (J 40)]) (rest := []) ⟨hx, hb, hml, hown, hts⟩ (A_X11_in l g76) (va_cwS 3 hts (gj_S ml_RX11_106 i_X11_in n_RX11 k_X11_in) rfl rfl rfl (by decide +kernel) ⟨by exact Nat.le_of_ble_eq_true rfl, by exact Nat.le_of_ble_eq_true rfl⟩) (j_preS hK hSX hG) rfl rfl hl.1 rfl (lv_room (Nat.le_of_ble_eq_true rfl)) dX11_addMeeting_64 ⟨by exact Nat.le_of_ble_eq_true rfl, by exact Nat.le_of_ble_eq_true rfl⟩) hG (c2 := 0) (s2 := 0) ⟨by exact Nat.le_of_ble_eq_true rfl, by exact Nat.le_of_ble_eq_true rfl⟩ (fun z77 M78 ez77 H locs hG => ?_)
            obtain ⟨ez77, eM78⟩ := ez77
            subst ez77
            rw [eM78] at hG
            refine j_if_ne_b (tgt := 76) hx hb dX11_addMeeting_67 (by decide) (fun c79 => ?_) (fun c79 => ?_)
            · have h := h.1 c79
              refine lv_aload_n hx hb dX11_addMeeting_76 rfl (lv_at hl 0 rfl) ?_
              refine j_getr hx hb hts hown hK hG (k := a0) (fun w h => List.mem_cons_of_mem _ (u_X11 w h)) (ci := 10) rfl ka0 1 (k2 := a0 + 1) (by decide) (by show a0 + (1 : Int) = a0 + 1; omega) w_fl_RX11_9 dX11_addMeeting_77 ?_
              refine lv_iconst (v := J 1) hx hb dX11_addMeeting_80 (by decide) ?_
              refine j_iald hx hb hK hG (n := 1294) (kf_11_1 ka0) (by decide) (by decide) dX11_addMeeting_81 ?_
              refine lv_bipush (v := J 10) hx hb dX11_addMeeting_82 (by decide) ?_
              obtain ⟨g81, h⟩ := h
              refine j_icmp_ne (tgt := 93) hx hb dX11_addMeeting_84 (by decide) g81 (by decide) (fun c80 => ?_) (fun c80 => ?_)
              · have h := h.1 c80
                refine lv_aload_n hx hb dX11_addMeeting_93 rfl (lv_at hl 0 rfl) ?_
                refine j_contv (va_runV (As := []) (rest := []) ⟨hx, hb, hml, hown, hts⟩ (A_X11_changes l ka0 h) (cwV 0 hts (gj_V ml_RX11_259 i_X11_changes s_X11_changes n_RX11 k_X11_changes) rfl rfl rfl (by decide +kernel) ⟨by exact Nat.le_of_ble_eq_true rfl, by exact Nat.le_of_ble_eq_true rfl⟩) (j_preV hK hSX hG (ci := 10) rfl ka0 (by decide)) rfl rfl hl.1 rfl (lv_room (Nat.le_of_ble_eq_true rfl)) dX11_addMeeting_94 ⟨by exact Nat.le_of_ble_eq_true rfl, by exact Nat.le_of_ble_eq_true rfl⟩) hG (c2 := 0) (s2 := 0) ⟨by exact Nat.le_of_ble_eq_true rfl, by exact Nat.le_of_ble_eq_true rfl⟩ (fun M83 h H locs hG => ?_)
                refine lv_aload_n hx hb dX11_addMeeting_97 rfl (lv_at hl 0 rfl) ?_
                refine j_getr hx hb hts hown hK hG (k := a0) (fun w h => List.mem_cons_of_mem _ (u_X11 w h)) (ci := 10) rfl ka0 1 (k2 := a0 + 1) (by decide) (by show a0 + (1 : Int) = a0 + 1; omega) w_fl_RX11_9 dX11_addMeeting_98 ?_
                refine lv_iconst (v := J 1) hx hb dX11_addMeeting_101 (by decide) ?_
                refine j_iald hx hb hK hG (n := 1294) (kf_11_1 ka0) (by decide) (by decide) dX11_addMeeting_102 ?_
                refine j_conti (va_runS (As := [.int (J (M83 (a0 + 1) 1))]) (rest := []) ⟨hx, hb, hml, hown, hts⟩ (A_X11_meetingAt l) (va_cwS 1 hts (gj_S ml_RX11_145 i_X11_meetingAt n_RX11 k_X11_meetingAt) rfl rfl rfl (by decide +kernel) ⟨by exact Nat.le_of_ble_eq_true rfl, by exact Nat.le_of_ble_eq_true rfl⟩) (j_preS hK hSX hG) rfl rfl hl.1 rfl (lv_room (Nat.le_of_ble_eq_true rfl)) dX11_addMeeting_103 ⟨by exact Nat.le_of_ble_eq_true rfl, by exact Nat.le_of_ble_eq_true rfl⟩) hG (c2 := 0) (s2 := 0) ⟨by exact Nat.le_of_ble_eq_true rfl, by exact Nat.le_of_ble_eq_true rfl⟩ (fun z84 M85 ez84 H locs hG => ?_)
                obtain ⟨ez84, eM85⟩ := ez84
                subst ez84
                rw [eM85] at hG
                refine j_topi (fun x86 ex86 => ?_)
                have h := h x86 ex86
                refine lv_istore (lv' := [(7, .int (J x86)), (0, .ref (rA o a0)), (1, .int (J a1)), (2, .int (J a2)), (3, .int (J a3)), (4, .int (J a4)), (5, .int (J a5)), (6, .int (J a6))]) hx hb dX11_addMeeting_106 hl (by decide) rfl (fun ls hl => ?_)
                refine lv_iconst (v := J 0) hx hb dX11_addMeeting_108 (by decide) ?_
                refine lv_istore (lv' := [(8, .int (J 0)), (7, .int (J x86)), (0, .ref (rA o a0)), (1, .int (J a1)), (2, .int (J a2)), (3, .int (J a3)), (4, .int (J a4)), (5, .int (J a5)), (6, .int (J a6))]) hx hb dX11_addMeeting_109 hl (by decide) rfl (fun ls hl => ?_)
                obtain ⟨I89, ⟨n90s, iI89⟩, qI89⟩ := h
                have lI89 : ∀ (n90 : Nat) (x87 : Int) (M88 : jT), I89 n90 x87 M88 → ∀ (H : Heap) (locs : List Loc), GM D cy o M88 s.heap H locs → ∀ ls : Array Slot, lv_has ls 9 [(0, .ref (rA o a0)), (1, .int (J a1)), (2, .int (J a2)), (3, .int (J a3)), (4, .int (J a4)), (5, .int (J a5)), (6, .int (J a6)), (7, .int (J x86)), (8, .int (J x87))] → W p l e rm_X11_addMeeting s m args below meth c H locs 0 0 Qf (F0 m 111 ls []) := by
                  intro n90
                  induction n90 using Nat.strongRecOn with
                  | ind n90 rI89 =>
                    intro x87 M88 iI89 H locs hG ls hl
                    have h := qI89 n90 x87 M88 iI89
                    refine lv_iload hx hb dX11_addMeeting_111 (lv_at hl 8 rfl) ?_
                    refine lv_bipush (v := J 89) hx hb dX11_addMeeting_113 (by decide) ?_
                    obtain ⟨g92, h⟩ := h
                    refine j_icmp_ge (tgt := 135) hx hb dX11_addMeeting_115 (by decide) g92 (by decide) (fun c91 => ?_) (fun c91 => ?_)
                    · have h := h.1 c91
                      refine lv_aload_n hx hb dX11_addMeeting_135 rfl (lv_at hl 0 rfl) ?_
                      refine j_getr hx hb hts hown hK hG (k := a0) (fun w h => List.mem_cons_of_mem _ (u_X11 w h)) (ci := 10) rfl ka0 1 (k2 := a0 + 1) (by decide) (by show a0 + (1 : Int) = a0 + 1; omega) w_fl_RX11_9 dX11_addMeeting_136 ?_
                      refine lv_iload hx hb dX11_addMeeting_139 (lv_at hl 7 rfl) ?_
                      refine lv_iload_n hx hb dX11_addMeeting_141 rfl (lv_at hl 1 rfl) ?_
                      obtain ⟨g93, h⟩ := h
                      refine j_iast hx hb hK hG (n := 1294) (kf_11_1 ka0) (by decide) g93 dX11_addMeeting_142 (fun M94 eM94 H locs hG => ?_)
                      have h := h M94 eM94
                      refine lv_aload_n hx hb dX11_addMeeting_143 rfl (lv_at hl 0 rfl) ?_
                      refine j_getr hx hb hts hown hK hG (k := a0) (fun w h => List.mem_cons_of_mem _ (u_X11 w h)) (ci := 10) rfl ka0 1 (k2 := a0 + 1) (by decide) (by show a0 + (1 : Int) = a0 + 1; omega) w_fl_RX11_9 dX11_addMeeting_144 ?_
                      refine lv_iload hx hb dX11_addMeeting_147 (lv_at hl 7 rfl) ?_
                      refine lv_iconst (v := J 1) hx hb dX11_addMeeting_149 (by decide) ?_
                      refine j_iadd hx hb dX11_addMeeting_150 ?_
                      refine lv_iload_n hx hb dX11_addMeeting_151 rfl (lv_at hl 2 rfl) ?_
                      obtain ⟨g95, h⟩ := h
                      refine j_iast hx hb hK hG (n := 1294) (kf_11_1 ka0) (by decide) g95 dX11_addMeeting_152 (fun M96 eM96 H locs hG => ?_)
                      have h := h M96 eM96
                      refine lv_aload_n hx hb dX11_addMeeting_153 rfl (lv_at hl 0 rfl) ?_
                      refine j_getr hx hb hts hown hK hG (k := a0) (fun w h => List.mem_cons_of_mem _ (u_X11 w h)) (ci := 10) rfl ka0 1 (k2 := a0 + 1) (by decide) (by show a0 + (1 : Int) = a0 + 1; omega) w_fl_RX11_9 dX11_addMeeting_154 ?_
                      refine lv_iload hx hb dX11_addMeeting_157 (lv_at hl 7 rfl) ?_
                      refine lv_iconst (v := J 2) hx hb dX11_addMeeting_159 (by decide) ?_
                      refine j_iadd hx hb dX11_addMeeting_160 ?_
                      refine lv_iload_n hx hb dX11_addMeeting_161 rfl (lv_at hl 3 rfl) ?_
                      obtain ⟨g97, h⟩ := h
                      refine j_iast hx hb hK hG (n := 1294) (kf_11_1 ka0) (by decide) g97 dX11_addMeeting_162 (fun M98 eM98 H locs hG => ?_)
                      have h := h M98 eM98
                      refine lv_aload_n hx hb dX11_addMeeting_163 rfl (lv_at hl 0 rfl) ?_
                      refine j_getr hx hb hts hown hK hG (k := a0) (fun w h => List.mem_cons_of_mem _ (u_X11 w h)) (ci := 10) rfl ka0 1 (k2 := a0 + 1) (by decide) (by show a0 + (1 : Int) = a0 + 1; omega) w_fl_RX11_9 dX11_addMeeting_164 ?_
                      refine lv_iload hx hb dX11_addMeeting_167 (lv_at hl 7 rfl) ?_
                      refine lv_iconst (v := J 3) hx hb dX11_addMeeting_169 (by decide) ?_
                      refine j_iadd hx hb dX11_addMeeting_170 ?_
                      refine lv_iload hx hb dX11_addMeeting_171 (lv_at hl 4 rfl) ?_
                      obtain ⟨g99, h⟩ := h
                      refine j_iast hx hb hK hG (n := 1294) (kf_11_1 ka0) (by decide) g99 dX11_addMeeting_173 (fun M100 eM100 H locs hG => ?_)
                      have h := h M100 eM100
                      refine lv_aload_n hx hb dX11_addMeeting_174 rfl (lv_at hl 0 rfl) ?_
                      refine j_getr hx hb hts hown hK hG (k := a0) (fun w h => List.mem_cons_of_mem _ (u_X11 w h)) (ci := 10) rfl ka0 1 (k2 := a0 + 1) (by decide) (by show a0 + (1 : Int) = a0 + 1; omega) w_fl_RX11_9 dX11_addMeeting_175 ?_
                      refine lv_iload hx hb dX11_addMeeting_178 (lv_at hl 7 rfl) ?_
                      refine lv_iconst (v := J 4) hx hb dX11_addMeeting_180 (by decide) ?_
                      refine j_iadd hx hb dX11_addMeeting_181 ?_
                      refine lv_iload hx hb dX11_addMeeting_182 (lv_at hl 5 rfl) ?_
                      obtain ⟨g101, h⟩ := h
                      refine j_iast hx hb hK hG (n := 1294) (kf_11_1 ka0) (by decide) g101 dX11_addMeeting_184 (fun M102 eM102 H locs hG => ?_)
                      have h := h M102 eM102
                      refine lv_aload_n hx hb dX11_addMeeting_185 rfl (lv_at hl 0 rfl) ?_
                      refine j_getr hx hb hts hown hK hG (k := a0) (fun w h => List.mem_cons_of_mem _ (u_X11 w h)) (ci := 10) rfl ka0 1 (k2 := a0 + 1) (by decide) (by show a0 + (1 : Int) = a0 + 1; omega) w_fl_RX11_9 dX11_addMeeting_186 ?_
                      refine lv_iload hx hb dX11_addMeeting_189 (lv_at hl 7 rfl) ?_
                      refine lv_iconst (v := J 5) hx hb dX11_addMeeting_191 (by decide) ?_
                      refine j_iadd hx hb dX11_addMeeting_192 ?_
                      refine lv_iload hx hb dX11_addMeeting_193 (lv_at hl 6 rfl) ?_
                      obtain ⟨g103, h⟩ := h
                      refine j_iast hx hb hK hG (n := 1294) (kf_11_1 ka0) (by decide) g103 dX11_addMeeting_195 (fun M104 eM104 H locs hG => ?_)
                      have h := h M104 eM104
                      refine lv_aload_n hx hb dX11_addMeeting_196 rfl (lv_at hl 0 rfl) ?_
                      refine j_getr hx hb hts hown hK hG (k := a0) (fun w h => List.mem_cons_of_mem _ (u_X11 w h)) (ci := 10) rfl ka0 1 (k2 := a0 + 1) (by decide) (by show a0 + (1 : Int) = a0 + 1; omega) w_fl_RX11_9 dX11_addMeeting_197 ?_
                      refine lv_iload hx hb dX11_addMeeting_200 (lv_at hl 7 rfl) ?_
                      refine lv_bipush (v := J 7) hx hb dX11_addMeeting_202 (by decide) ?_
                      refine j_iadd hx hb dX11_addMeeting_204 ?_
                      refine lv_iconst (v := J 1) hx hb dX11_addMeeting_205 (by decide) ?_
                      obtain ⟨g105, h⟩ := h
                      refine j_iast hx hb hK hG (n := 1294) (kf_11_1 ka0) (by decide) g105 dX11_addMeeting_206 (fun M106 eM106 H locs hG => ?_)
                      have h := h M106 eM106
                      refine lv_aload_n hx hb dX11_addMeeting_207 rfl (lv_at hl 0 rfl) ?_
                      refine j_getr hx hb hts hown hK hG (k := a0) (fun w h => List.mem_cons_of_mem _ (u_X11 w h)) (ci := 10) rfl ka0 1 (k2 := a0 + 1) (by decide) (by show a0 + (1 : Int) = a0 + 1; omega) w_fl_RX11_9 dX11_addMeeting_208 ?_
                      refine lv_iconst (v := J 1) hx hb dX11_addMeeting_211 (by decide) ?_
                      refine lv_dup2_11 hx hb dX11_addMeeting_212 rfl rfl ?_
                      refine j_iald hx hb hK hG (n := 1294) (kf_11_1 ka0) (by decide) (by decide) dX11_addMeeting_213 ?_
                      refine lv_dup_x2 hx hb dX11_addMeeting_214 rfl rfl rfl ?_
                      refine lv_iconst (v := J 1) hx hb dX11_addMeeting_215 (by decide) ?_
                      refine j_iadd hx hb dX11_addMeeting_216 ?_
                      refine j_iast hx hb hK hG (n := 1294) (kf_11_1 ka0) (by decide) (by decide) dX11_addMeeting_217 (fun M107 eM107 H locs hG => ?_)
                      have h := h M107 eM107
                      rw [hQf]
                      exact j_ireti hx hb hr hlocks hG h (by decide) dX11_addMeeting_218
                    · have h := h.2 c91
                      refine lv_aload_n hx hb dX11_addMeeting_118 rfl (lv_at hl 0 rfl) ?_
                      refine j_getr hx hb hts hown hK hG (k := a0) (fun w h => List.mem_cons_of_mem _ (u_X11 w h)) (ci := 10) rfl ka0 1 (k2 := a0 + 1) (by decide) (by show a0 + (1 : Int) = a0 + 1; omega) w_fl_RX11_9 dX11_addMeeting_119 ?_
                      refine lv_iload hx hb dX11_addMeeting_122 (lv_at hl 7 rfl) ?_
                      refine lv_iload hx hb dX11_addMeeting_124 (lv_at hl 8 rfl) ?_
                      refine j_iadd hx hb dX11_addMeeting_126 ?_
                      refine lv_iconst (v := J 0) hx hb dX11_addMeeting_127 (by decide) ?_
                      obtain ⟨g108, h⟩ := h
                      refine j_iast hx hb hK hG (n := 1294) (kf_11_1 ka0) (by decide) g108 dX11_addMeeting_128 (fun M109 eM109 H locs hG => ?_)
                      have h := h M109 eM109
                      refine j_iinc hx hb dX11_addMeeting_129 hl (k := 8) rfl (by decide) (fun x110 ex110 ls hl => ?_)
                      have h := h x110 ex110
                      have hl : lv_has ls 9 [(8, .int (J x110)), (0, .ref (rA o a0)), (1, .int (J a1)), (2, .int (J a2)), (3, .int (J a3)), (4, .int (J a4)), (5, .int (J a5)), (6, .int (J a6)), (7, .int (J x86))] := hl
                      refine lv_goto (tgt := 111) hx hb dX11_addMeeting_132 (by decide) ?_
                      obtain ⟨n111, ln111, iI89⟩ := h
                      exact rI89 n111 ln111 x110 M109 iI89 H locs hG ls (lv_sub hl [1, 2, 3, 4, 5, 6, 7, 8, 0] rfl)
                exact lI89 n90s 0 M83 iI89 H locs hG ls (lv_sub hl [2, 3, 4, 5, 6, 7, 8, 1, 0] rfl)
              · have h := h.2 c80
                refine lv_aload_n hx hb dX11_addMeeting_87 rfl (lv_at hl 0 rfl) ?_
                refine lv_iconst (v := J 3) hx hb dX11_addMeeting_88 (by decide) ?_
                refine j_conti (va_runV (As := [.int (J 3)]) (rest := []) ⟨hx, hb, hml, hown, hts⟩ (A_X11_raises l ka0 h) (cwV 1 hts (gj_V ml_RX11_110 i_X11_raises s_X11_raises n_RX11 k_X11_raises) rfl rfl rfl (by decide +kernel) ⟨by exact Nat.le_of_ble_eq_true rfl, by exact Nat.le_of_ble_eq_true rfl⟩) (j_preV hK hSX hG (ci := 10) rfl ka0 (by decide)) rfl rfl hl.1 rfl (lv_room (Nat.le_of_ble_eq_true rfl)) dX11_addMeeting_89 ⟨by exact Nat.le_of_ble_eq_true rfl, by exact Nat.le_of_ble_eq_true rfl⟩) hG (c2 := 0) (s2 := 0) ⟨by exact Nat.le_of_ble_eq_true rfl, by exact Nat.le_of_ble_eq_true rfl⟩ (fun z112 M113 h H locs hG => ?_)
                rw [hQf]
                exact j_ireti hx hb hr hlocks hG h (by decide) dX11_addMeeting_92
            · have h := h.2 c79
              exact jK60 h H locs hG ls (lv_sub hl [0] rfl)
  · have h := h.2 c5
    refine lv_aload_n hx hb dX11_addMeeting_13 rfl (lv_at hl 0 rfl) ?_
    refine lv_iconst (v := J 1) hx hb dX11_addMeeting_14 (by decide) ?_
    refine j_conti (va_runV (As := [.int (J 1)]) (rest := []) ⟨hx, hb, hml, hown, hts⟩ (A_X11_raises l ka0 h) (cwV 1 hts (gj_V ml_RX11_110 i_X11_raises s_X11_raises n_RX11 k_X11_raises) rfl rfl rfl (by decide +kernel) ⟨by exact Nat.le_of_ble_eq_true rfl, by exact Nat.le_of_ble_eq_true rfl⟩) (j_preV hK hSX hG (ci := 10) rfl ka0 (by decide)) rfl rfl hl.1 rfl (lv_room (Nat.le_of_ble_eq_true rfl)) dX11_addMeeting_15 ⟨by exact Nat.le_of_ble_eq_true rfl, by exact Nat.le_of_ble_eq_true rfl⟩) hG (c2 := 0) (s2 := 0) ⟨by exact Nat.le_of_ble_eq_true rfl, by exact Nat.le_of_ble_eq_true rfl⟩ (fun z114 M115 h H locs hG => ?_)
    rw [hQf]
    exact j_ireti hx hb hr hlocks hG h (by decide) dX11_addMeeting_18

abbrev rm_X11_recur : Room := { frames := 5, cells := 0, slots := 0, locals := 121 }
set_option maxRecDepth 100000 in
set_option maxHeartbeats 4000000 in
theorem A_X11_recur (l : Launch) {D : va_G} {cy : Nat → ClassId} {o : Nat} {sK sV : Nat → Nat} {M : jT} {a0 : Int} {a1 : Int} {a2 : Int} {a3 : Int} {a4 : Int} (ka0 : kd a0 = 11) {Q : Int → jT → Prop} (h : wp_X11_recur M a0 a1 a2 a3 a4 Q) : CoI l yX11_recur (wj yX11_recur cX11_recur 7 (some .int)) rm_X11_recur D cy o sK sV M [.ref (rA o a0), .int (J a1), .int (J a2), .int (J a3), .int (J a4)] Q := by
  refine j_ofW (cc := cX11_recur) (maxL := 7) (ret := (some .int)) (by decide) rfl (Nat.le_of_ble_eq_true rfl) ?_
  intro p e s m args below meth c hx hb hr hlocks hml hown hts hK hSX H locs hG ls hl Qf hQf
  have hown : s.vm.findClass RX11 = some m.cls := hown
  have hl : lv_has ls 7 [(0, .ref (rA o a0)), (1, .int (J a1)), (2, .int (J a2)), (3, .int (J a3)), (4, .int (J a4))] := hl
  have w_fl_RX11_80 := hts _ (List.mem_cons_of_mem _ fl_RX11_80)
  have w_fl_RX11_9 := hts _ (List.mem_cons_of_mem _ fl_RX11_9)
  have w_fl_RX11_244 := hts _ (List.mem_cons_of_mem _ fl_RX11_244)
  unfold wp_X11_recur at h
  refine lv_aload_n hx hb dX11_recur_0 rfl (lv_at hl 0 rfl) ?_
  refine lv_iconst (v := J 0) hx hb dX11_recur_1 (by decide) ?_
  refine j_puti hx hb hts hown hK hG (k := a0) (fun w h => List.mem_cons_of_mem _ (u_X11 w h)) tyX11 tyX11_ok nmX11 (ci := 10) rfl ka0 0 (by decide) (jz := 0) rfl w_fl_RX11_80 (hd := rfl) (hn := rfl) (hfit := rfl) (hdg := dX11_recur_2) (fun M1 eM1 H locs hG => ?_)
  have h := h M1 eM1
  refine lv_aload_n hx hb dX11_recur_5 rfl (lv_at hl 0 rfl) ?_
  refine lv_iload_n hx hb dX11_recur_6 rfl (lv_at hl 1 rfl) ?_
  obtain ⟨g2, h⟩ := h
  refine j_conti (va_runV (As := [.int (J a1)]) (rest := []) ⟨hx, hb, hml, hown, hts⟩ (A_X11_isMeeting l ka0 g2) (cwV 1 hts (gj_V ml_RX11_238 i_X11_isMeeting s_X11_isMeeting n_RX11 k_X11_isMeeting) rfl rfl rfl (by decide +kernel) ⟨by exact Nat.le_of_ble_eq_true rfl, by exact Nat.le_of_ble_eq_true rfl⟩) (j_preV hK hSX hG (ci := 10) rfl ka0 (by decide)) rfl rfl hl.1 rfl (lv_room (Nat.le_of_ble_eq_true rfl)) dX11_recur_7 ⟨by exact Nat.le_of_ble_eq_true rfl, by exact Nat.le_of_ble_eq_true rfl⟩) hG (c2 := 0) (s2 := 0) ⟨by exact Nat.le_of_ble_eq_true rfl, by exact Nat.le_of_ble_eq_true rfl⟩ (fun z3 M4 ez3 H locs hG => ?_)
  obtain ⟨ez3, eM4⟩ := ez3
  subst ez3
  rw [eM4] at hG
  refine j_if_ne_b (tgt := 19) hx hb dX11_recur_10 (by decide) (fun c5 => ?_) (fun c5 => ?_)
  · have h := h.1 c5
    refine lv_iload_n hx hb dX11_recur_19 rfl (lv_at hl 2 rfl) ?_
    refine lv_iconst (v := J 0) hx hb dX11_recur_20 (by decide) ?_
    refine lv_iconst (v := J 3) hx hb dX11_recur_21 (by decide) ?_
    obtain ⟨g6, h⟩ := h
    refine j_conti (va_runS (As := [.int (J a2), .int (J 0), .int (J 3)]) (rest := []) ⟨hx, hb, hml, hown, hts⟩ (A_X11_in l g6) (va_cwS 3 hts (gj_S ml_RX11_106 i_X11_in n_RX11 k_X11_in) rfl rfl rfl (by decide +kernel) ⟨by exact Nat.le_of_ble_eq_true rfl, by exact Nat.le_of_ble_eq_true rfl⟩) (j_preS hK hSX hG) rfl rfl hl.1 rfl (lv_room (Nat.le_of_ble_eq_true rfl)) dX11_recur_22 ⟨by exact Nat.le_of_ble_eq_true rfl, by exact Nat.le_of_ble_eq_true rfl⟩) hG (c2 := 0) (s2 := 0) ⟨by exact Nat.le_of_ble_eq_true rfl, by exact Nat.le_of_ble_eq_true rfl⟩ (fun z7 M8 ez7 H locs hG => ?_)
    obtain ⟨ez7, eM8⟩ := ez7
    subst ez7
    rw [eM8] at hG
    obtain ⟨K84, hK84, h⟩ := h
    have jK84 : K84 → ∀ (H : Heap) (locs : List Loc), GM D cy o M1 s.heap H locs → ∀ ls : Array Slot, lv_has ls 7 [(0, .ref (rA o a0))] → W p l e rm_X11_recur s m args below meth c H locs 0 0 Qf (F0 m 57 ls []) := by
      intro hcK84 H locs hG ls hl
      have h := hK84 hcK84
      refine lv_aload_n hx hb dX11_recur_57 rfl (lv_at hl 0 rfl) ?_
      refine lv_iconst (v := J 2) hx hb dX11_recur_58 (by decide) ?_
      refine j_conti (va_runV (As := [.int (J 2)]) (rest := []) ⟨hx, hb, hml, hown, hts⟩ (A_X11_raises l ka0 h) (cwV 1 hts (gj_V ml_RX11_110 i_X11_raises s_X11_raises n_RX11 k_X11_raises) rfl rfl rfl (by decide +kernel) ⟨by exact Nat.le_of_ble_eq_true rfl, by exact Nat.le_of_ble_eq_true rfl⟩) (j_preV hK hSX hG (ci := 10) rfl ka0 (by decide)) rfl rfl hl.1 rfl (lv_room (Nat.le_of_ble_eq_true rfl)) dX11_recur_59 ⟨by exact Nat.le_of_ble_eq_true rfl, by exact Nat.le_of_ble_eq_true rfl⟩) hG (c2 := 0) (s2 := 0) ⟨by exact Nat.le_of_ble_eq_true rfl, by exact Nat.le_of_ble_eq_true rfl⟩ (fun z85 M86 h H locs hG => ?_)
      rw [hQf]
      exact j_ireti hx hb hr hlocks hG h (by decide) dX11_recur_62
    refine j_if_eq_b (tgt := 57) hx hb dX11_recur_25 (by decide) (fun c87 => ?_) (fun c87 => ?_)
    · have h := h.1 c87
      exact jK84 h H locs hG ls (lv_sub hl [0] rfl)
    · have h := h.2 c87
      refine lv_iload_n hx hb dX11_recur_28 rfl (lv_at hl 3 rfl) ?_
      refine lv_iconst (v := J 1) hx hb dX11_recur_29 (by decide) ?_
      refine lv_iload_n hx hb dX11_recur_30 rfl (lv_at hl 2 rfl) ?_
      obtain ⟨hg, h⟩ := h
      have jK92 : ∀ x91 : Int, (a2 ≠ 0 ∧ a2 ≠ 1 → x91 = 24) → (a2 ≠ 0 ∧ a2 = 1 → x91 = 8) → (a2 = 0 → x91 = 60) → ∀ (H : Heap) (locs : List Loc), GM D cy o M1 s.heap H locs → ∀ ls : Array Slot, lv_has ls 7 [(0, .ref (rA o a0)), (1, .int (J a1)), (2, .int (J a2)), (3, .int (J a3)), (4, .int (J a4))] → W p l e rm_X11_recur s m args below meth c H locs 0 0 Qf (F0 m 51 ls [.int (J x91), .int (J 1), .int (J a3)]) := by
        intro x91 qx91_0 qx91_1 qx91_2 H locs hG ls hl
        have h := h x91 qx91_0 qx91_1 qx91_2
        obtain ⟨g96, h⟩ := h
        refine j_conti (va_runS (As := [.int (J a3), .int (J 1), .int (J x91)]) (rest := []) ⟨hx, hb, hml, hown, hts⟩ (A_X11_in l g96) (va_cwS 3 hts (gj_S ml_RX11_106 i_X11_in n_RX11 k_X11_in) rfl rfl rfl (by decide +kernel) ⟨by exact Nat.le_of_ble_eq_true rfl, by exact Nat.le_of_ble_eq_true rfl⟩) (j_preS hK hSX hG) rfl rfl hl.1 rfl (lv_room (Nat.le_of_ble_eq_true rfl)) dX11_recur_51 ⟨by exact Nat.le_of_ble_eq_true rfl, by exact Nat.le_of_ble_eq_true rfl⟩) hG (c2 := 0) (s2 := 0) ⟨by exact Nat.le_of_ble_eq_true rfl, by exact Nat.le_of_ble_eq_true rfl⟩ (fun z97 M98 ez97 H locs hG => ?_)
        obtain ⟨ez97, eM98⟩ := ez97
        subst ez97
        rw [eM98] at hG
        refine j_if_ne_b (tgt := 63) hx hb dX11_recur_54 (by decide) (fun c99 => ?_) (fun c99 => ?_)
        · have h := h.1 c99
          refine lv_iload_n hx hb dX11_recur_63 rfl (lv_at hl 2 rfl) ?_
          refine lv_iconst (v := J 1) hx hb dX11_recur_64 (by decide) ?_
          obtain ⟨K119, hK119, h⟩ := h
          have jK119 : K119 → ∀ (H : Heap) (locs : List Loc), GM D cy o M1 s.heap H locs → ∀ ls : Array Slot, lv_has ls 7 [(0, .ref (rA o a0)), (1, .int (J a1)), (2, .int (J a2)), (3, .int (J a3)), (4, .int (J a4))] → W p l e rm_X11_recur s m args below meth c H locs 0 0 Qf (F0 m 93 ls []) := by
            intro hcK119 H locs hG ls hl
            have h := hK119 hcK119
            refine lv_aload_n hx hb dX11_recur_93 rfl (lv_at hl 0 rfl) ?_
            refine j_contv (va_runV (As := []) (rest := []) ⟨hx, hb, hml, hown, hts⟩ (A_X11_changes l ka0 h) (cwV 0 hts (gj_V ml_RX11_259 i_X11_changes s_X11_changes n_RX11 k_X11_changes) rfl rfl rfl (by decide +kernel) ⟨by exact Nat.le_of_ble_eq_true rfl, by exact Nat.le_of_ble_eq_true rfl⟩) (j_preV hK hSX hG (ci := 10) rfl ka0 (by decide)) rfl rfl hl.1 rfl (lv_room (Nat.le_of_ble_eq_true rfl)) dX11_recur_94 ⟨by exact Nat.le_of_ble_eq_true rfl, by exact Nat.le_of_ble_eq_true rfl⟩) hG (c2 := 0) (s2 := 0) ⟨by exact Nat.le_of_ble_eq_true rfl, by exact Nat.le_of_ble_eq_true rfl⟩ (fun M121 h H locs hG => ?_)
            refine lv_iload_n hx hb dX11_recur_97 rfl (lv_at hl 1 rfl) ?_
            refine j_conti (va_runS (As := [.int (J a1)]) (rest := []) ⟨hx, hb, hml, hown, hts⟩ (A_X11_meetingAt l) (va_cwS 1 hts (gj_S ml_RX11_145 i_X11_meetingAt n_RX11 k_X11_meetingAt) rfl rfl rfl (by decide +kernel) ⟨by exact Nat.le_of_ble_eq_true rfl, by exact Nat.le_of_ble_eq_true rfl⟩) (j_preS hK hSX hG) rfl rfl hl.1 rfl (lv_room (Nat.le_of_ble_eq_true rfl)) dX11_recur_98 ⟨by exact Nat.le_of_ble_eq_true rfl, by exact Nat.le_of_ble_eq_true rfl⟩) hG (c2 := 0) (s2 := 0) ⟨by exact Nat.le_of_ble_eq_true rfl, by exact Nat.le_of_ble_eq_true rfl⟩ (fun z122 M123 ez122 H locs hG => ?_)
            obtain ⟨ez122, eM123⟩ := ez122
            subst ez122
            rw [eM123] at hG
            refine j_topi (fun x124 ex124 => ?_)
            have h := h x124 ex124
            refine lv_istore (lv' := [(5, .int (J x124)), (0, .ref (rA o a0)), (1, .int (J a1)), (2, .int (J a2)), (3, .int (J a3)), (4, .int (J a4))]) hx hb dX11_recur_101 hl (by decide) rfl (fun ls hl => ?_)
            refine lv_aload_n hx hb dX11_recur_103 rfl (lv_at hl 1 rfl) ?_
            refine j_getr hx hb hts hown hK hG (k := a0) (fun w h => List.mem_cons_of_mem _ (u_X11 w h)) (ci := 10) rfl ka0 1 (k2 := a0 + 1) (by decide) (by show a0 + (1 : Int) = a0 + 1; omega) w_fl_RX11_9 dX11_recur_104 ?_
            refine lv_iload hx hb dX11_recur_107 (lv_at hl 0 rfl) ?_
            refine lv_bipush (v := J 6) hx hb dX11_recur_109 (by decide) ?_
            refine j_iadd hx hb dX11_recur_111 ?_
            refine lv_iload_n hx hb dX11_recur_112 rfl (lv_at hl 3 rfl) ?_
            obtain ⟨g125, h⟩ := h
            refine j_iast hx hb hK hG (n := 1294) (kf_11_1 ka0) (by decide) g125 dX11_recur_113 (fun M126 eM126 H locs hG => ?_)
            have h := h M126 eM126
            refine lv_aload_n hx hb dX11_recur_114 rfl (lv_at hl 1 rfl) ?_
            refine j_getr hx hb hts hown hK hG (k := a0) (fun w h => List.mem_cons_of_mem _ (u_X11 w h)) (ci := 10) rfl ka0 1 (k2 := a0 + 1) (by decide) (by show a0 + (1 : Int) = a0 + 1; omega) w_fl_RX11_9 dX11_recur_115 ?_
            refine lv_iload hx hb dX11_recur_118 (lv_at hl 0 rfl) ?_
            refine lv_bipush (v := J 7) hx hb dX11_recur_120 (by decide) ?_
            refine j_iadd hx hb dX11_recur_122 ?_
            refine lv_iload_n hx hb dX11_recur_123 rfl (lv_at hl 4 rfl) ?_
            obtain ⟨g127, h⟩ := h
            refine j_iast hx hb hK hG (n := 1294) (kf_11_1 ka0) (by decide) g127 dX11_recur_124 (fun M128 eM128 H locs hG => ?_)
            have h := h M128 eM128
            refine lv_aload_n hx hb dX11_recur_125 rfl (lv_at hl 1 rfl) ?_
            refine j_getr hx hb hts hown hK hG (k := a0) (fun w h => List.mem_cons_of_mem _ (u_X11 w h)) (ci := 10) rfl ka0 1 (k2 := a0 + 1) (by decide) (by show a0 + (1 : Int) = a0 + 1; omega) w_fl_RX11_9 dX11_recur_126 ?_
            refine lv_iload hx hb dX11_recur_129 (lv_at hl 0 rfl) ?_
            refine lv_bipush (v := J 8) hx hb dX11_recur_131 (by decide) ?_
            refine j_iadd hx hb dX11_recur_133 ?_
            refine lv_iload hx hb dX11_recur_134 (lv_at hl 5 rfl) ?_
            obtain ⟨g129, h⟩ := h
            refine j_iast hx hb hK hG (n := 1294) (kf_11_1 ka0) (by decide) g129 dX11_recur_136 (fun M130 eM130 H locs hG => ?_)
            have h := h M130 eM130
            refine lv_iconst (v := J 0) hx hb dX11_recur_137 (by decide) ?_
            refine lv_istore (lv' := [(6, .int (J 0)), (5, .int (J x124)), (0, .ref (rA o a0)), (1, .int (J a1)), (2, .int (J a2)), (3, .int (J a3)), (4, .int (J a4))]) hx hb dX11_recur_138 hl (by decide) rfl (fun ls hl => ?_)
            obtain ⟨I133, ⟨n134s, iI133⟩, qI133⟩ := h
            have lI133 : ∀ (n134 : Nat) (x131 : Int) (M132 : jT), I133 n134 x131 M132 → ∀ (H : Heap) (locs : List Loc), GM D cy o M132 s.heap H locs → ∀ ls : Array Slot, lv_has ls 7 [(0, .ref (rA o a0)), (1, .int (J a1)), (5, .int (J x124)), (6, .int (J x131))] → W p l e rm_X11_recur s m args below meth c H locs 0 0 Qf (F0 m 140 ls []) := by
              intro n134
              induction n134 using Nat.strongRecOn with
              | ind n134 rI133 =>
                intro x131 M132 iI133 H locs hG ls hl
                have h := qI133 n134 x131 M132 iI133
                refine lv_iload hx hb dX11_recur_140 (lv_at hl 3 rfl) ?_
                refine lv_bipush (v := J 80) hx hb dX11_recur_142 (by decide) ?_
                obtain ⟨g136, h⟩ := h
                refine j_icmp_ge (tgt := 167) hx hb dX11_recur_144 (by decide) g136 (by decide) (fun c135 => ?_) (fun c135 => ?_)
                · have h := h.1 c135
                  refine lv_aload_n hx hb dX11_recur_167 rfl (lv_at hl 0 rfl) ?_
                  refine lv_iload_n hx hb dX11_recur_168 rfl (lv_at hl 1 rfl) ?_
                  refine j_contv (va_runV (As := [.int (J a1)]) (rest := []) ⟨hx, hb, hml, hown, hts⟩ (A_X11_lists l ka0 h) (cwV 1 hts (gj_V ml_RX11_241 i_X11_lists s_X11_lists n_RX11 k_X11_lists) rfl rfl rfl (by decide +kernel) ⟨by exact Nat.le_of_ble_eq_true rfl, by exact Nat.le_of_ble_eq_true rfl⟩) (j_preV hK hSX hG (ci := 10) rfl ka0 (by decide)) rfl rfl hl.1 rfl (lv_room (Nat.le_of_ble_eq_true rfl)) dX11_recur_169 ⟨by exact Nat.le_of_ble_eq_true rfl, by exact Nat.le_of_ble_eq_true rfl⟩) hG (c2 := 0) (s2 := 0) ⟨by exact Nat.le_of_ble_eq_true rfl, by exact Nat.le_of_ble_eq_true rfl⟩ (fun M138 h H locs hG => ?_)
                  refine lv_aload_n hx hb dX11_recur_172 rfl (lv_at hl 0 rfl) ?_
                  refine j_geti hx hb hts hown hK hG (k := a0) (fun w h => List.mem_cons_of_mem _ (u_X11 w h)) (ci := 10) rfl ka0 33 (by decide) (jz := 33) rfl w_fl_RX11_244 dX11_recur_173 ?_
                  rw [hQf]
                  exact j_ireti hx hb hr hlocks hG h (by decide) dX11_recur_176
                · have h := h.2 c135
                  refine lv_aload_n hx hb dX11_recur_147 rfl (lv_at hl 0 rfl) ?_
                  refine j_getr hx hb hts hown hK hG (k := a0) (fun w h => List.mem_cons_of_mem _ (u_X11 w h)) (ci := 10) rfl ka0 1 (k2 := a0 + 1) (by decide) (by show a0 + (1 : Int) = a0 + 1; omega) w_fl_RX11_9 dX11_recur_148 ?_
                  refine lv_iload hx hb dX11_recur_151 (lv_at hl 2 rfl) ?_
                  refine lv_bipush (v := J 9) hx hb dX11_recur_153 (by decide) ?_
                  refine j_iadd hx hb dX11_recur_155 ?_
                  refine lv_iload hx hb dX11_recur_156 (lv_at hl 3 rfl) ?_
                  refine j_iadd hx hb dX11_recur_158 ?_
                  refine lv_iconst (v := J 0) hx hb dX11_recur_159 (by decide) ?_
                  obtain ⟨g139, h⟩ := h
                  refine j_iast hx hb hK hG (n := 1294) (kf_11_1 ka0) (by decide) g139 dX11_recur_160 (fun M140 eM140 H locs hG => ?_)
                  have h := h M140 eM140
                  refine j_iinc hx hb dX11_recur_161 hl (k := 3) rfl (by decide) (fun x141 ex141 ls hl => ?_)
                  have h := h x141 ex141
                  have hl : lv_has ls 7 [(6, .int (J x141)), (0, .ref (rA o a0)), (1, .int (J a1)), (5, .int (J x124))] := hl
                  refine lv_goto (tgt := 140) hx hb dX11_recur_164 (by decide) ?_
                  obtain ⟨n142, ln142, iI133⟩ := h
                  exact rI133 n142 ln142 x141 M140 iI133 H locs hG ls (lv_sub hl [1, 2, 3, 0] rfl)
            exact lI133 n134s 0 M130 iI133 H locs hG ls (lv_sub hl [2, 3, 1, 0] rfl)
          obtain ⟨K151, hK151, h⟩ := h
          have jK151 : K151 → ∀ (H : Heap) (locs : List Loc), GM D cy o M1 s.heap H locs → ∀ ls : Array Slot, lv_has ls 7 [(0, .ref (rA o a0))] → W p l e rm_X11_recur s m args below meth c H locs 0 0 Qf (F0 m 87 ls []) := by
            intro hcK151 H locs hG ls hl
            have h := hK151 hcK151
            refine lv_aload_n hx hb dX11_recur_87 rfl (lv_at hl 0 rfl) ?_
            refine lv_iconst (v := J 2) hx hb dX11_recur_88 (by decide) ?_
            refine j_conti (va_runV (As := [.int (J 2)]) (rest := []) ⟨hx, hb, hml, hown, hts⟩ (A_X11_raises l ka0 h) (cwV 1 hts (gj_V ml_RX11_110 i_X11_raises s_X11_raises n_RX11 k_X11_raises) rfl rfl rfl (by decide +kernel) ⟨by exact Nat.le_of_ble_eq_true rfl, by exact Nat.le_of_ble_eq_true rfl⟩) (j_preV hK hSX hG (ci := 10) rfl ka0 (by decide)) rfl rfl hl.1 rfl (lv_room (Nat.le_of_ble_eq_true rfl)) dX11_recur_89 ⟨by exact Nat.le_of_ble_eq_true rfl, by exact Nat.le_of_ble_eq_true rfl⟩) hG (c2 := 0) (s2 := 0) ⟨by exact Nat.le_of_ble_eq_true rfl, by exact Nat.le_of_ble_eq_true rfl⟩ (fun z152 M153 h H locs hG => ?_)
            rw [hQf]
            exact j_ireti hx hb hr hlocks hG h (by decide) dX11_recur_92
          obtain ⟨g155, h⟩ := h
          refine j_icmp_ne (tgt := 82) hx hb dX11_recur_65 (by decide) g155 (by decide) (fun c154 => ?_) (fun c154 => ?_)
          · have h := h.1 c154
            refine lv_iload hx hb dX11_recur_82 (lv_at hl 4 rfl) ?_
            obtain ⟨g157, h⟩ := h
            refine j_if_eq (tgt := 93) hx hb dX11_recur_84 (by decide) g157 (fun c156 => ?_) (fun c156 => ?_)
            · have h := h.1 c156
              exact jK119 h H locs hG ls (lv_sub hl [0, 1, 2, 3, 4] rfl)
            · have h := h.2 c156
              exact jK151 h H locs hG ls (lv_sub hl [0] rfl)
          · have h := h.2 c154
            refine lv_iload hx hb dX11_recur_68 (lv_at hl 4 rfl) ?_
            refine lv_iconst (v := J 1) hx hb dX11_recur_70 (by decide) ?_
            refine lv_bipush (v := J 127) hx hb dX11_recur_71 (by decide) ?_
            obtain ⟨g158, h⟩ := h
            refine j_conti (va_runS (As := [.int (J a4), .int (J 1), .int (J 127)]) (rest := []) ⟨hx, hb, hml, hown, hts⟩ (A_X11_in l g158) (va_cwS 3 hts (gj_S ml_RX11_106 i_X11_in n_RX11 k_X11_in) rfl rfl rfl (by decide +kernel) ⟨by exact Nat.le_of_ble_eq_true rfl, by exact Nat.le_of_ble_eq_true rfl⟩) (j_preS hK hSX hG) rfl rfl hl.1 rfl (lv_room (Nat.le_of_ble_eq_true rfl)) dX11_recur_73 ⟨by exact Nat.le_of_ble_eq_true rfl, by exact Nat.le_of_ble_eq_true rfl⟩) hG (c2 := 0) (s2 := 0) ⟨by exact Nat.le_of_ble_eq_true rfl, by exact Nat.le_of_ble_eq_true rfl⟩ (fun z159 M160 ez159 H locs hG => ?_)
            obtain ⟨ez159, eM160⟩ := ez159
            subst ez159
            rw [eM160] at hG
            refine j_if_ne_b (tgt := 93) hx hb dX11_recur_76 (by decide) (fun c161 => ?_) (fun c161 => ?_)
            · have h := h.1 c161
              exact jK119 h H locs hG ls (lv_sub hl [0, 1, 2, 3, 4] rfl)
            · have h := h.2 c161
              refine lv_goto (tgt := 87) hx hb dX11_recur_79 (by decide) ?_
              exact jK151 h H locs hG ls (lv_sub hl [0] rfl)
        · have h := h.2 c99
          exact jK84 h H locs hG ls (lv_sub hl [0] rfl)
      have h := hg
      obtain ⟨g94, h⟩ := h
      refine j_if_ne (tgt := 39) hx hb dX11_recur_31 (by decide) g94 (fun c93 => ?_) (fun c93 => ?_)
      · have h := h.1 c93
        refine lv_iload_n hx hb dX11_recur_39 rfl (lv_at hl 2 rfl) ?_
        refine lv_iconst (v := J 1) hx hb dX11_recur_40 (by decide) ?_
        refine j_icmp_ne (tgt := 49) hx hb dX11_recur_41 (by decide) g94 (by decide) (fun c95 => ?_) (fun c95 => ?_)
        · have h := h.1 c95
          refine lv_bipush (v := J 24) hx hb dX11_recur_49 (by decide) ?_
          exact jK92 24 (fun _ => rfl) (fun q => absurd q.2 (by omega)) (fun q => absurd q (by omega)) H locs hG ls (lv_sub hl [0, 1, 2, 3, 4] rfl)
        · have h := h.2 c95
          refine lv_bipush (v := J 8) hx hb dX11_recur_44 (by decide) ?_
          refine lv_goto (tgt := 51) hx hb dX11_recur_46 (by decide) ?_
          exact jK92 8 (fun q => absurd q.2 (by omega)) (fun _ => rfl) (fun q => absurd q (by omega)) H locs hG ls (lv_sub hl [0, 1, 2, 3, 4] rfl)
      · have h := h.2 c93
        refine lv_bipush (v := J 60) hx hb dX11_recur_34 (by decide) ?_
        refine lv_goto (tgt := 51) hx hb dX11_recur_36 (by decide) ?_
        exact jK92 60 (fun q => absurd q.1 (by omega)) (fun q => absurd q.1 (by omega)) (fun _ => rfl) H locs hG ls (lv_sub hl [0, 1, 2, 3, 4] rfl)
  · have h := h.2 c5
    refine lv_aload_n hx hb dX11_recur_13 rfl (lv_at hl 0 rfl) ?_
    refine lv_iconst (v := J 1) hx hb dX11_recur_14 (by decide) ?_
    refine j_conti (va_runV (As := [.int (J 1)]) (rest := []) ⟨hx, hb, hml, hown, hts⟩ (A_X11_raises l ka0 h) (cwV 1 hts (gj_V ml_RX11_110 i_X11_raises s_X11_raises n_RX11 k_X11_raises) rfl rfl rfl (by decide +kernel) ⟨by exact Nat.le_of_ble_eq_true rfl, by exact Nat.le_of_ble_eq_true rfl⟩) (j_preV hK hSX hG (ci := 10) rfl ka0 (by decide)) rfl rfl hl.1 rfl (lv_room (Nat.le_of_ble_eq_true rfl)) dX11_recur_15 ⟨by exact Nat.le_of_ble_eq_true rfl, by exact Nat.le_of_ble_eq_true rfl⟩) hG (c2 := 0) (s2 := 0) ⟨by exact Nat.le_of_ble_eq_true rfl, by exact Nat.le_of_ble_eq_true rfl⟩ (fun z162 M163 h H locs hG => ?_)
    rw [hQf]
    exact j_ireti hx hb hr hlocks hG h (by decide) dX11_recur_18

abbrev rm_X11_cancel : Room := { frames := 7, cells := 0, slots := 0, locals := 166 }
set_option maxRecDepth 100000 in
set_option maxHeartbeats 4000000 in
theorem A_X11_cancel (l : Launch) {D : va_G} {cy : Nat → ClassId} {o : Nat} {sK sV : Nat → Nat} {M : jT} {a0 : Int} {a1 : Int} {a2 : Int} (ka0 : kd a0 = 11) {Q : Int → jT → Prop} (h : wp_X11_cancel M a0 a1 a2 Q) : CoI l yX11_cancel (wj yX11_cancel cX11_cancel 3 (some .int)) rm_X11_cancel D cy o sK sV M [.ref (rA o a0), .int (J a1), .int (J a2)] Q := by
  refine j_ofW (cc := cX11_cancel) (maxL := 3) (ret := (some .int)) (by decide) rfl (Nat.le_of_ble_eq_true rfl) ?_
  intro p e s m args below meth c hx hb hr hlocks hml hown hts hK hSX H locs hG ls hl Qf hQf
  have hown : s.vm.findClass RX11 = some m.cls := hown
  have hl : lv_has ls 3 [(0, .ref (rA o a0)), (1, .int (J a1)), (2, .int (J a2))] := hl
  unfold wp_X11_cancel at h
  refine lv_aload_n hx hb dX11_cancel_0 rfl (lv_at hl 0 rfl) ?_
  refine j_contv (va_runV (As := []) (rest := []) ⟨hx, hb, hml, hown, hts⟩ (A_X11_tries l ka0 h) (cwV 0 hts (gj_V ml_RX11_148 i_X11_tries s_X11_tries n_RX11 k_X11_tries) rfl rfl rfl (by decide +kernel) ⟨by exact Nat.le_of_ble_eq_true rfl, by exact Nat.le_of_ble_eq_true rfl⟩) (j_preV hK hSX hG (ci := 10) rfl ka0 (by decide)) rfl rfl hl.1 rfl (lv_room (Nat.le_of_ble_eq_true rfl)) dX11_cancel_1 ⟨by exact Nat.le_of_ble_eq_true rfl, by exact Nat.le_of_ble_eq_true rfl⟩) hG (c2 := 0) (s2 := 0) ⟨by exact Nat.le_of_ble_eq_true rfl, by exact Nat.le_of_ble_eq_true rfl⟩ (fun M2 h H locs hG => ?_)
  refine lv_aload_n hx hb dX11_cancel_4 rfl (lv_at hl 0 rfl) ?_
  refine lv_aload_n hx hb dX11_cancel_5 rfl (lv_at hl 0 rfl) ?_
  refine lv_iload_n hx hb dX11_cancel_6 rfl (lv_at hl 1 rfl) ?_
  refine lv_iload_n hx hb dX11_cancel_7 rfl (lv_at hl 2 rfl) ?_
  refine j_conti (va_runV (As := [.int (J a1), .int (J a2)]) (rest := [.ref (rA o a0)]) ⟨hx, hb, hml, hown, hts⟩ (A_X11_cancelBy l ka0 h) (cwV 2 hts (gj_V ml_RX11_262 i_X11_cancelBy s_X11_cancelBy n_RX11 k_X11_cancelBy) rfl rfl rfl (by decide +kernel) ⟨by exact Nat.le_of_ble_eq_true rfl, by exact Nat.le_of_ble_eq_true rfl⟩) (j_preV hK hSX hG (ci := 10) rfl ka0 (by decide)) rfl rfl hl.1 rfl (lv_room (Nat.le_of_ble_eq_true rfl)) dX11_cancel_8 ⟨by exact Nat.le_of_ble_eq_true rfl, by exact Nat.le_of_ble_eq_true rfl⟩) hG (c2 := 0) (s2 := 0) ⟨by exact Nat.le_of_ble_eq_true rfl, by exact Nat.le_of_ble_eq_true rfl⟩ (fun z3 M4 h H locs hG => ?_)
  refine j_conti (va_runV (As := [.int (J z3)]) (rest := []) ⟨hx, hb, hml, hown, hts⟩ (A_X11_ends l ka0 h) (cwV 1 hts (gj_V ml_RX11_154 i_X11_ends s_X11_ends n_RX11 k_X11_ends) rfl rfl rfl (by decide +kernel) ⟨by exact Nat.le_of_ble_eq_true rfl, by exact Nat.le_of_ble_eq_true rfl⟩) (j_preV hK hSX hG (ci := 10) rfl ka0 (by decide)) rfl rfl hl.1 rfl (lv_room (Nat.le_of_ble_eq_true rfl)) dX11_cancel_11 ⟨by exact Nat.le_of_ble_eq_true rfl, by exact Nat.le_of_ble_eq_true rfl⟩) hG (c2 := 0) (s2 := 0) ⟨by exact Nat.le_of_ble_eq_true rfl, by exact Nat.le_of_ble_eq_true rfl⟩ (fun z5 M6 h H locs hG => ?_)
  rw [hQf]
  exact j_ireti hx hb hr hlocks hG h (by decide) dX11_cancel_14

abbrev rm_X11_shift : Room := { frames := 6, cells := 0, slots := 0, locals := 143 }
set_option maxRecDepth 100000 in
set_option maxHeartbeats 4000000 in
theorem A_X11_shift (l : Launch) {D : va_G} {cy : Nat → ClassId} {o : Nat} {sK sV : Nat → Nat} {M : jT} {a0 : Int} {a1 : Int} {a2 : Int} {a3 : Int} (ka0 : kd a0 = 11) {Q : Int → jT → Prop} (h : wp_X11_shift M a0 a1 a2 a3 Q) : CoI l yX11_shift (wj yX11_shift cX11_shift 6 (some .int)) rm_X11_shift D cy o sK sV M [.ref (rA o a0), .int (J a1), .int (J a2), .int (J a3)] Q := by
  refine j_ofW (cc := cX11_shift) (maxL := 6) (ret := (some .int)) (by decide) rfl (Nat.le_of_ble_eq_true rfl) ?_
  intro p e s m args below meth c hx hb hr hlocks hml hown hts hK hSX H locs hG ls hl Qf hQf
  have hown : s.vm.findClass RX11 = some m.cls := hown
  have hl : lv_has ls 6 [(0, .ref (rA o a0)), (1, .int (J a1)), (2, .int (J a2)), (3, .int (J a3))] := hl
  have w_fl_RX11_80 := hts _ (List.mem_cons_of_mem _ fl_RX11_80)
  have w_fl_RX11_9 := hts _ (List.mem_cons_of_mem _ fl_RX11_9)
  unfold wp_X11_shift at h
  refine lv_aload_n hx hb dX11_shift_0 rfl (lv_at hl 0 rfl) ?_
  refine lv_iconst (v := J 0) hx hb dX11_shift_1 (by decide) ?_
  refine j_puti hx hb hts hown hK hG (k := a0) (fun w h => List.mem_cons_of_mem _ (u_X11 w h)) tyX11 tyX11_ok nmX11 (ci := 10) rfl ka0 0 (by decide) (jz := 0) rfl w_fl_RX11_80 (hd := rfl) (hn := rfl) (hfit := rfl) (hdg := dX11_shift_2) (fun M1 eM1 H locs hG => ?_)
  have h := h M1 eM1
  refine lv_aload_n hx hb dX11_shift_5 rfl (lv_at hl 0 rfl) ?_
  refine lv_iload_n hx hb dX11_shift_6 rfl (lv_at hl 1 rfl) ?_
  refine lv_iload_n hx hb dX11_shift_7 rfl (lv_at hl 2 rfl) ?_
  refine j_conti (va_runV (As := [.int (J a1), .int (J a2)]) (rest := []) ⟨hx, hb, hml, hown, hts⟩ (A_X11_isOccurrence l ka0 h) (cwV 2 hts (gj_V ml_RX11_142 i_X11_isOccurrence s_X11_isOccurrence n_RX11 k_X11_isOccurrence) rfl rfl rfl (by decide +kernel) ⟨by exact Nat.le_of_ble_eq_true rfl, by exact Nat.le_of_ble_eq_true rfl⟩) (j_preV hK hSX hG (ci := 10) rfl ka0 (by decide)) rfl rfl hl.1 rfl (lv_room (Nat.le_of_ble_eq_true rfl)) dX11_shift_8 ⟨by exact Nat.le_of_ble_eq_true rfl, by exact Nat.le_of_ble_eq_true rfl⟩) hG (c2 := 0) (s2 := 0) ⟨by exact Nat.le_of_ble_eq_true rfl, by exact Nat.le_of_ble_eq_true rfl⟩ (fun z2 M3 h H locs hG => ?_)
  obtain ⟨g5, h⟩ := h
  refine j_if_ne (tgt := 20) hx hb dX11_shift_11 (by decide) g5 (fun c4 => ?_) (fun c4 => ?_)
  · have h := h.1 c4
    refine lv_iload_n hx hb dX11_shift_20 rfl (lv_at hl 3 rfl) ?_
    refine lv_sipush (v := J (-1440)) hx hb dX11_shift_21 (by decide) ?_
    refine lv_sipush (v := J 1440) hx hb dX11_shift_24 (by decide) ?_
    obtain ⟨g6, h⟩ := h
    refine j_conti (va_runS (As := [.int (J a3), .int (J ((-1440))), .int (J 1440)]) (rest := []) ⟨hx, hb, hml, hown, hts⟩ (A_X11_in l g6) (va_cwS 3 hts (gj_S ml_RX11_106 i_X11_in n_RX11 k_X11_in) rfl rfl rfl (by decide +kernel) ⟨by exact Nat.le_of_ble_eq_true rfl, by exact Nat.le_of_ble_eq_true rfl⟩) (j_preS hK hSX hG) rfl rfl hl.1 rfl (lv_room (Nat.le_of_ble_eq_true rfl)) dX11_shift_27 ⟨by exact Nat.le_of_ble_eq_true rfl, by exact Nat.le_of_ble_eq_true rfl⟩) hG (c2 := 0) (s2 := 0) ⟨by exact Nat.le_of_ble_eq_true rfl, by exact Nat.le_of_ble_eq_true rfl⟩ (fun z7 M8 ez7 H locs hG => ?_)
    obtain ⟨ez7, eM8⟩ := ez7
    subst ez7
    rw [eM8] at hG
    refine j_if_ne_b (tgt := 39) hx hb dX11_shift_30 (by decide) (fun c9 => ?_) (fun c9 => ?_)
    · have h := h.1 c9
      refine lv_aload_n hx hb dX11_shift_39 rfl (lv_at hl 0 rfl) ?_
      refine j_contv (va_runV (As := []) (rest := []) ⟨hx, hb, hml, hown, hts⟩ (A_X11_changes l ka0 h) (cwV 0 hts (gj_V ml_RX11_259 i_X11_changes s_X11_changes n_RX11 k_X11_changes) rfl rfl rfl (by decide +kernel) ⟨by exact Nat.le_of_ble_eq_true rfl, by exact Nat.le_of_ble_eq_true rfl⟩) (j_preV hK hSX hG (ci := 10) rfl ka0 (by decide)) rfl rfl hl.1 rfl (lv_room (Nat.le_of_ble_eq_true rfl)) dX11_shift_40 ⟨by exact Nat.le_of_ble_eq_true rfl, by exact Nat.le_of_ble_eq_true rfl⟩) hG (c2 := 0) (s2 := 0) ⟨by exact Nat.le_of_ble_eq_true rfl, by exact Nat.le_of_ble_eq_true rfl⟩ (fun M11 h H locs hG => ?_)
      refine lv_iload_n hx hb dX11_shift_43 rfl (lv_at hl 1 rfl) ?_
      refine j_conti (va_runS (As := [.int (J a1)]) (rest := []) ⟨hx, hb, hml, hown, hts⟩ (A_X11_meetingAt l) (va_cwS 1 hts (gj_S ml_RX11_145 i_X11_meetingAt n_RX11 k_X11_meetingAt) rfl rfl rfl (by decide +kernel) ⟨by exact Nat.le_of_ble_eq_true rfl, by exact Nat.le_of_ble_eq_true rfl⟩) (j_preS hK hSX hG) rfl rfl hl.1 rfl (lv_room (Nat.le_of_ble_eq_true rfl)) dX11_shift_44 ⟨by exact Nat.le_of_ble_eq_true rfl, by exact Nat.le_of_ble_eq_true rfl⟩) hG (c2 := 0) (s2 := 0) ⟨by exact Nat.le_of_ble_eq_true rfl, by exact Nat.le_of_ble_eq_true rfl⟩ (fun z12 M13 ez12 H locs hG => ?_)
      obtain ⟨ez12, eM13⟩ := ez12
      subst ez12
      rw [eM13] at hG
      refine lv_bipush (v := J 9) hx hb dX11_shift_47 (by decide) ?_
      refine j_iadd hx hb dX11_shift_49 ?_
      refine lv_iload_n hx hb dX11_shift_50 rfl (lv_at hl 2 rfl) ?_
      refine j_iadd hx hb dX11_shift_51 ?_
      refine j_topi (fun x14 ex14 => ?_)
      have h := h x14 ex14
      refine lv_istore (lv' := [(4, .int (J x14)), (0, .ref (rA o a0)), (1, .int (J a1)), (2, .int (J a2)), (3, .int (J a3))]) hx hb dX11_shift_52 hl (by decide) rfl (fun ls hl => ?_)
      refine lv_aload_n hx hb dX11_shift_54 rfl (lv_at hl 1 rfl) ?_
      refine j_getr hx hb hts hown hK hG (k := a0) (fun w h => List.mem_cons_of_mem _ (u_X11 w h)) (ci := 10) rfl ka0 1 (k2 := a0 + 1) (by decide) (by show a0 + (1 : Int) = a0 + 1; omega) w_fl_RX11_9 dX11_shift_55 ?_
      refine lv_iload hx hb dX11_shift_58 (lv_at hl 0 rfl) ?_
      obtain ⟨g15, h⟩ := h
      refine j_iald hx hb hK hG (n := 1294) (kf_11_1 ka0) (by decide) g15 dX11_shift_60 ?_
      refine j_topi (fun x16 ex16 => ?_)
      have h := h x16 ex16
      refine lv_istore (lv' := [(5, .int (J x16)), (4, .int (J x14)), (0, .ref (rA o a0)), (1, .int (J a1)), (2, .int (J a2)), (3, .int (J a3))]) hx hb dX11_shift_61 hl (by decide) rfl (fun ls hl => ?_)
      refine lv_aload_n hx hb dX11_shift_63 rfl (lv_at hl 2 rfl) ?_
      refine j_getr hx hb hts hown hK hG (k := a0) (fun w h => List.mem_cons_of_mem _ (u_X11 w h)) (ci := 10) rfl ka0 1 (k2 := a0 + 1) (by decide) (by show a0 + (1 : Int) = a0 + 1; omega) w_fl_RX11_9 dX11_shift_64 ?_
      refine lv_iload hx hb dX11_shift_67 (lv_at hl 1 rfl) ?_
      refine lv_iload_n hx hb dX11_shift_69 rfl (lv_at hl 5 rfl) ?_
      refine j_iast hx hb hK hG (n := 1294) (kf_11_1 ka0) (by decide) g15 dX11_shift_70 (fun M17 eM17 H locs hG => ?_)
      have h := h M17 eM17
      refine lv_iload hx hb dX11_shift_71 (lv_at hl 0 rfl) ?_
      rw [hQf]
      exact j_ireti hx hb hr hlocks hG h (by decide) dX11_shift_73
    · have h := h.2 c9
      refine lv_aload_n hx hb dX11_shift_33 rfl (lv_at hl 0 rfl) ?_
      refine lv_iconst (v := J 2) hx hb dX11_shift_34 (by decide) ?_
      refine j_conti (va_runV (As := [.int (J 2)]) (rest := []) ⟨hx, hb, hml, hown, hts⟩ (A_X11_raises l ka0 h) (cwV 1 hts (gj_V ml_RX11_110 i_X11_raises s_X11_raises n_RX11 k_X11_raises) rfl rfl rfl (by decide +kernel) ⟨by exact Nat.le_of_ble_eq_true rfl, by exact Nat.le_of_ble_eq_true rfl⟩) (j_preV hK hSX hG (ci := 10) rfl ka0 (by decide)) rfl rfl hl.1 rfl (lv_room (Nat.le_of_ble_eq_true rfl)) dX11_shift_35 ⟨by exact Nat.le_of_ble_eq_true rfl, by exact Nat.le_of_ble_eq_true rfl⟩) hG (c2 := 0) (s2 := 0) ⟨by exact Nat.le_of_ble_eq_true rfl, by exact Nat.le_of_ble_eq_true rfl⟩ (fun z18 M19 h H locs hG => ?_)
      rw [hQf]
      exact j_ireti hx hb hr hlocks hG h (by decide) dX11_shift_38
  · have h := h.2 c4
    refine lv_aload_n hx hb dX11_shift_14 rfl (lv_at hl 0 rfl) ?_
    refine lv_iconst (v := J 1) hx hb dX11_shift_15 (by decide) ?_
    refine j_conti (va_runV (As := [.int (J 1)]) (rest := []) ⟨hx, hb, hml, hown, hts⟩ (A_X11_raises l ka0 h) (cwV 1 hts (gj_V ml_RX11_110 i_X11_raises s_X11_raises n_RX11 k_X11_raises) rfl rfl rfl (by decide +kernel) ⟨by exact Nat.le_of_ble_eq_true rfl, by exact Nat.le_of_ble_eq_true rfl⟩) (j_preV hK hSX hG (ci := 10) rfl ka0 (by decide)) rfl rfl hl.1 rfl (lv_room (Nat.le_of_ble_eq_true rfl)) dX11_shift_16 ⟨by exact Nat.le_of_ble_eq_true rfl, by exact Nat.le_of_ble_eq_true rfl⟩) hG (c2 := 0) (s2 := 0) ⟨by exact Nat.le_of_ble_eq_true rfl, by exact Nat.le_of_ble_eq_true rfl⟩ (fun z20 M21 h H locs hG => ?_)
    rw [hQf]
    exact j_ireti hx hb hr hlocks hG h (by decide) dX11_shift_19
