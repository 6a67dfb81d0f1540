abbrev rm_X11_writes_a : Room := { frames := 0, cells := 0, slots := 0, locals := 0 }
set_option maxRecDepth 100000 in
set_option maxHeartbeats 4000000 in
theorem A_X11_writes_a (l : Launch) {D : va_G} {cy : Nat → ClassId} {o : Nat} {sK sV : Nat → Nat} {M : jT} {a0 : Int} {a1 : Int} (ka0 : kd a0 = 11) {Q : jT → Prop} (h : wp_X11_writes_a M a0 a1 Q) : CoV l yX11_writes (wj yX11_writes cX11_writes 2 none) rm_X11_writes_a D cy o sK sV M [.ref (rA o a0), .int (J a1)] Q := by
  refine j_ofW (cc := cX11_writes) (maxL := 2) (ret := none) (by decide) rfl (Nat.le_of_ble_eq_true rfl) ?_
  intro p e s m args below meth c hx hb hr hlocks hml hown hts hK hSX H locs hG ls hl Qf hQf
  have hown : s.vm.findClass RX11 = some m.cls := hown
  have hl : lv_has ls 2 [(0, .ref (rA o a0)), (1, .int (J a1))] := hl
  have w_fl_RX11_29 := hts _ (List.mem_cons_of_mem _ fl_RX11_29)
  have w_fl_RX11_332 := hts _ (List.mem_cons_of_mem _ fl_RX11_332)
  unfold wp_X11_writes_a at h
  refine lv_iload_n hx hb dX11_writes_0 rfl (lv_at hl 1 rfl) ?_
  refine lv_bipush (v := J 9) hx hb dX11_writes_1 (by decide) ?_
  obtain ⟨g5, h⟩ := h
  refine j_icmp_le (tgt := 14) hx hb dX11_writes_3 (by decide) g5 (by decide) (fun c4 => ?_) (fun c4 => ?_)
  · have h := h.1 c4
    refine lv_aload_n hx hb dX11_writes_14 rfl (lv_at hl 0 rfl) ?_
    refine j_getr hx hb hts hown hK hG (k := a0) (fun w h => List.mem_cons_of_mem _ (u_X11 w h)) (ci := 10) rfl ka0 11 (k2 := a0 + 6) (by decide) (by show a0 + (6 : Int) = a0 + 6; omega) w_fl_RX11_29 dX11_writes_15 ?_
    refine lv_aload_n hx hb dX11_writes_18 rfl (lv_at hl 0 rfl) ?_
    refine lv_dup hx hb dX11_writes_19 rfl ?_
    refine j_geti hx hb hts hown hK hG (k := a0) (fun w h => List.mem_cons_of_mem _ (u_X11 w h)) (ci := 10) rfl ka0 12 (by decide) (jz := 12) rfl w_fl_RX11_332 dX11_writes_20 ?_
    refine lv_dup_x1 hx hb dX11_writes_23 rfl rfl ?_
    refine lv_iconst (v := J 1) hx hb dX11_writes_24 (by decide) ?_
    refine j_iadd hx hb dX11_writes_25 ?_
    refine j_puti hx hb hts hown hK hG (k := a0) (fun w h => List.mem_cons_of_mem _ (u_X11 w h)) tyX11 tyX11_ok nmX11 (ci := 10) rfl ka0 12 (by decide) (jz := 12) rfl w_fl_RX11_332 (hd := rfl) (hn := rfl) (hfit := rfl) (hdg := dX11_writes_26) (fun M6 eM6 H locs hG => ?_)
    have h := h M6 eM6
    refine lv_bipush (v := J 48) hx hb dX11_writes_29 (by decide) ?_
    refine lv_iload_n hx hb dX11_writes_31 rfl (lv_at hl 1 rfl) ?_
    refine lv_bipush (v := J 10) hx hb dX11_writes_32 (by decide) ?_
    obtain ⟨g7, h⟩ := h
    refine j_irem hx hb dX11_writes_34 g7 (by decide) ?_
    refine j_iadd hx hb dX11_writes_35 ?_
    obtain ⟨g8, h⟩ := h
    refine j_iast hx hb hK hG (n := 60) (kf_11_11 ka0) (by decide) g8 dX11_writes_36 (fun M9 eM9 H locs hG => ?_)
    have h := h M9 eM9
    rw [hQf]
    exact j_vret hx hb hr hlocks hG h (by decide) dX11_writes_37
  · have h := h.2 c4
    refine lv_aload_n hx hb dX11_writes_6 rfl (lv_at hl 0 rfl) ?_
    refine lv_iload_n hx hb dX11_writes_7 rfl (lv_at hl 1 rfl) ?_
    refine lv_bipush (v := J 10) hx hb dX11_writes_8 (by decide) ?_
    obtain ⟨g10, h⟩ := h
    refine j_idiv hx hb dX11_writes_10 g10 (by decide) ?_
    exact h.elim
abbrev rm_X11_writes_b : Room := { frames := 1, cells := 0, slots := 0, locals := 21 }
set_option maxRecDepth 100000 in
set_option maxHeartbeats 4000000 in
theorem A_X11_writes_b (l : Launch) {D : va_G} {cy : Nat → ClassId} {o : Nat} {sK sV : Nat → Nat} {M : jT} {a0 : Int} {a1 : Int} (ka0 : kd a0 = 11) {Q : jT → Prop} (h : wp_X11_writes_b M a0 a1 Q) : CoV l yX11_writes (wj yX11_writes cX11_writes 2 none) rm_X11_writes_b D cy o sK sV M [.ref (rA o a0), .int (J a1)] Q := by
  refine j_ofW (cc := cX11_writes) (maxL := 2) (ret := none) (by decide) rfl (Nat.le_of_ble_eq_true rfl) ?_
  intro p e s m args below meth c hx hb hr hlocks hml hown hts hK hSX H locs hG ls hl Qf hQf
  have hown : s.vm.findClass RX11 = some m.cls := hown
  have hl : lv_has ls 2 [(0, .ref (rA o a0)), (1, .int (J a1))] := hl
  have w_fl_RX11_29 := hts _ (List.mem_cons_of_mem _ fl_RX11_29)
  have w_fl_RX11_332 := hts _ (List.mem_cons_of_mem _ fl_RX11_332)
  unfold wp_X11_writes_b at h
  refine lv_iload_n hx hb dX11_writes_0 rfl (lv_at hl 1 rfl) ?_
  refine lv_bipush (v := J 9) hx hb dX11_writes_1 (by decide) ?_
  obtain ⟨K7, hK7, h⟩ := h
  have jK7 : ∀ (M6 : jT), K7 M6 → ∀ (H : Heap) (locs : List Loc), GM D cy o M6 s.heap H locs → ∀ ls : Array Slot, lv_has ls 2 [(0, .ref (rA o a0)), (1, .int (J a1))] → W p l e rm_X11_writes_b s m args below meth c H locs 0 0 Qf (F0 m 14 ls []) := by
    intro M6 hcK7 H locs hG ls hl
    have h := hK7 M6 hcK7
    refine lv_aload_n hx hb dX11_writes_14 rfl (lv_at hl 0 rfl) ?_
    refine j_getr hx hb hts hown hK hG (k := a0) (fun w h => List.mem_cons_of_mem _ (u_X11 w h)) (ci := 10) rfl ka0 11 (k2 := a0 + 6) (by decide) (by show a0 + (6 : Int) = a0 + 6; omega) w_fl_RX11_29 dX11_writes_15 ?_
    refine lv_aload_n hx hb dX11_writes_18 rfl (lv_at hl 0 rfl) ?_
    refine lv_dup hx hb dX11_writes_19 rfl ?_
    refine j_geti hx hb hts hown hK hG (k := a0) (fun w h => List.mem_cons_of_mem _ (u_X11 w h)) (ci := 10) rfl ka0 12 (by decide) (jz := 12) rfl w_fl_RX11_332 dX11_writes_20 ?_
    refine lv_dup_x1 hx hb dX11_writes_23 rfl rfl ?_
    refine lv_iconst (v := J 1) hx hb dX11_writes_24 (by decide) ?_
    refine j_iadd hx hb dX11_writes_25 ?_
    refine j_puti hx hb hts hown hK hG (k := a0) (fun w h => List.mem_cons_of_mem _ (u_X11 w h)) tyX11 tyX11_ok nmX11 (ci := 10) rfl ka0 12 (by decide) (jz := 12) rfl w_fl_RX11_332 (hd := rfl) (hn := rfl) (hfit := rfl) (hdg := dX11_writes_26) (fun M8 eM8 H locs hG => ?_)
    have h := h M8 eM8
    refine lv_bipush (v := J 48) hx hb dX11_writes_29 (by decide) ?_
    refine lv_iload_n hx hb dX11_writes_31 rfl (lv_at hl 1 rfl) ?_
    refine lv_bipush (v := J 10) hx hb dX11_writes_32 (by decide) ?_
    obtain ⟨g9, h⟩ := h
    refine j_irem hx hb dX11_writes_34 g9 (by decide) ?_
    refine j_iadd hx hb dX11_writes_35 ?_
    obtain ⟨g10, h⟩ := h
    refine j_iast hx hb hK hG (n := 60) (kf_11_11 ka0) (by decide) g10 dX11_writes_36 (fun M11 eM11 H locs hG => ?_)
    have h := h M11 eM11
    rw [hQf]
    exact j_vret hx hb hr hlocks hG h (by decide) dX11_writes_37
  obtain ⟨g13, h⟩ := h
  refine j_icmp_le (tgt := 14) hx hb dX11_writes_3 (by decide) g13 (by decide) (fun c12 => ?_) (fun c12 => ?_)
  · have h := h.1 c12
    exact jK7 M h H locs hG ls (lv_sub hl [0, 1] rfl)
  · have h := h.2 c12
    refine lv_aload_n hx hb dX11_writes_6 rfl (lv_at hl 0 rfl) ?_
    refine lv_iload_n hx hb dX11_writes_7 rfl (lv_at hl 1 rfl) ?_
    refine lv_bipush (v := J 10) hx hb dX11_writes_8 (by decide) ?_
    obtain ⟨g14, h⟩ := h
    refine j_idiv hx hb dX11_writes_10 g14 (by decide) ?_
    refine j_contv (va_runV (As := [.int (J (a1 / 10))]) (rest := []) ⟨hx, hb, hml, hown, hts⟩ (A_X11_writes_a l ka0 h) (cwV 1 hts (gj_V ml_RX11_329 i_X11_writes s_X11_writes n_RX11 k_X11_writes) rfl rfl rfl (by decide +kernel) ⟨by exact Nat.le_of_ble_eq_true rfl, by exact Nat.le_of_ble_eq_true rfl⟩) (j_preV hK hSX hG (ci := 10) rfl ka0 (by decide)) rfl rfl hl.1 rfl (lv_room (Nat.le_of_ble_eq_true rfl)) dX11_writes_11 ⟨by exact Nat.le_of_ble_eq_true rfl, by exact Nat.le_of_ble_eq_true rfl⟩) hG (c2 := 0) (s2 := 0) ⟨by exact Nat.le_of_ble_eq_true rfl, by exact Nat.le_of_ble_eq_true rfl⟩ (fun M16 h H locs hG => ?_)
    exact jK7 M16 h H locs hG ls (lv_sub hl [0, 1] rfl)
abbrev rm_X11_writes_c : Room := { frames := 2, cells := 0, slots := 0, locals := 42 }
set_option maxRecDepth 100000 in
set_option maxHeartbeats 4000000 in
theorem A_X11_writes_c (l : Launch) {D : va_G} {cy : Nat → ClassId} {o : Nat} {sK sV : Nat → Nat} {M : jT} {a0 : Int} {a1 : Int} (ka0 : kd a0 = 11) {Q : jT → Prop} (h : wp_X11_writes_c M a0 a1 Q) : CoV l yX11_writes (wj yX11_writes cX11_writes 2 none) rm_X11_writes_c D cy o sK sV M [.ref (rA o a0), .int (J a1)] Q := by
  refine j_ofW (cc := cX11_writes) (maxL := 2) (ret := none) (by decide) rfl (Nat.le_of_ble_eq_true rfl) ?_
  intro p e s m args below meth c hx hb hr hlocks hml hown hts hK hSX H locs hG ls hl Qf hQf
  have hown : s.vm.findClass RX11 = some m.cls := hown
  have hl : lv_has ls 2 [(0, .ref (rA o a0)), (1, .int (J a1))] := hl
  have w_fl_RX11_29 := hts _ (List.mem_cons_of_mem _ fl_RX11_29)
  have w_fl_RX11_332 := hts _ (List.mem_cons_of_mem _ fl_RX11_332)
  unfold wp_X11_writes_c at h
  refine lv_iload_n hx hb dX11_writes_0 rfl (lv_at hl 1 rfl) ?_
  refine lv_bipush (v := J 9) hx hb dX11_writes_1 (by decide) ?_
  obtain ⟨K7, hK7, h⟩ := h
  have jK7 : ∀ (M6 : jT), K7 M6 → ∀ (H : Heap) (locs : List Loc), GM D cy o M6 s.heap H locs → ∀ ls : Array Slot, lv_has ls 2 [(0, .ref (rA o a0)), (1, .int (J a1))] → W p l e rm_X11_writes_c s m args below meth c H locs 0 0 Qf (F0 m 14 ls []) := by
    intro M6 hcK7 H locs hG ls hl
    have h := hK7 M6 hcK7
    refine lv_aload_n hx hb dX11_writes_14 rfl (lv_at hl 0 rfl) ?_
    refine j_getr hx hb hts hown hK hG (k := a0) (fun w h => List.mem_cons_of_mem _ (u_X11 w h)) (ci := 10) rfl ka0 11 (k2 := a0 + 6) (by decide) (by show a0 + (6 : Int) = a0 + 6; omega) w_fl_RX11_29 dX11_writes_15 ?_
    refine lv_aload_n hx hb dX11_writes_18 rfl (lv_at hl 0 rfl) ?_
    refine lv_dup hx hb dX11_writes_19 rfl ?_
    refine j_geti hx hb hts hown hK hG (k := a0) (fun w h => List.mem_cons_of_mem _ (u_X11 w h)) (ci := 10) rfl ka0 12 (by decide) (jz := 12) rfl w_fl_RX11_332 dX11_writes_20 ?_
    refine lv_dup_x1 hx hb dX11_writes_23 rfl rfl ?_
    refine lv_iconst (v := J 1) hx hb dX11_writes_24 (by decide) ?_
    refine j_iadd hx hb dX11_writes_25 ?_
    refine j_puti hx hb hts hown hK hG (k := a0) (fun w h => List.mem_cons_of_mem _ (u_X11 w h)) tyX11 tyX11_ok nmX11 (ci := 10) rfl ka0 12 (by decide) (jz := 12) rfl w_fl_RX11_332 (hd := rfl) (hn := rfl) (hfit := rfl) (hdg := dX11_writes_26) (fun M8 eM8 H locs hG => ?_)
    have h := h M8 eM8
    refine lv_bipush (v := J 48) hx hb dX11_writes_29 (by decide) ?_
    refine lv_iload_n hx hb dX11_writes_31 rfl (lv_at hl 1 rfl) ?_
    refine lv_bipush (v := J 10) hx hb dX11_writes_32 (by decide) ?_
    obtain ⟨g9, h⟩ := h
    refine j_irem hx hb dX11_writes_34 g9 (by decide) ?_
    refine j_iadd hx hb dX11_writes_35 ?_
    obtain ⟨g10, h⟩ := h
    refine j_iast hx hb hK hG (n := 60) (kf_11_11 ka0) (by decide) g10 dX11_writes_36 (fun M11 eM11 H locs hG => ?_)
    have h := h M11 eM11
    rw [hQf]
    exact j_vret hx hb hr hlocks hG h (by decide) dX11_writes_37
  obtain ⟨g13, h⟩ := h
  refine j_icmp_le (tgt := 14) hx hb dX11_writes_3 (by decide) g13 (by decide) (fun c12 => ?_) (fun c12 => ?_)
  · have h := h.1 c12
    exact jK7 M h H locs hG ls (lv_sub hl [0, 1] rfl)
  · have h := h.2 c12
    refine lv_aload_n hx hb dX11_writes_6 rfl (lv_at hl 0 rfl) ?_
    refine lv_iload_n hx hb dX11_writes_7 rfl (lv_at hl 1 rfl) ?_
    refine lv_bipush (v := J 10) hx hb dX11_writes_8 (by decide) ?_
    obtain ⟨g14, h⟩ := h
    refine j_idiv hx hb dX11_writes_10 g14 (by decide) ?_
    refine j_contv (va_runV (As := [.int (J (a1 / 10))]) (rest := []) ⟨hx, hb, hml, hown, hts⟩ (A_X11_writes_b l ka0 h) (cwV 1 hts (gj_V ml_RX11_329 i_X11_writes s_X11_writes n_RX11 k_X11_writes) rfl rfl rfl (by decide +kernel) ⟨by exact Nat.le_of_ble_eq_true rfl, by exact Nat.le_of_ble_eq_true rfl⟩) (j_preV hK hSX hG (ci := 10) rfl ka0 (by decide)) rfl rfl hl.1 rfl (lv_room (Nat.le_of_ble_eq_true rfl)) dX11_writes_11 ⟨by exact Nat.le_of_ble_eq_true rfl, by exact Nat.le_of_ble_eq_true rfl⟩) hG (c2 := 0) (s2 := 0) ⟨by exact Nat.le_of_ble_eq_true rfl, by exact Nat.le_of_ble_eq_true rfl⟩ (fun M16 h H locs hG => ?_)
    exact jK7 M16 h H locs hG ls (lv_sub hl [0, 1] rfl)
abbrev rm_X11_writes : Room := { frames := 3, cells := 0, slots := 0, locals := 63 }
set_option maxRecDepth 100000 in
set_option maxHeartbeats 4000000 in
theorem A_X11_writes (l : Launch) {D : va_G} {cy : Nat → ClassId} {o : Nat} {sK sV : Nat → Nat} {M : jT} {a0 : Int} {a1 : Int} (ka0 : kd a0 = 11) {Q : jT → Prop} (h : wp_X11_writes M a0 a1 Q) : CoV l yX11_writes (wj yX11_writes cX11_writes 2 none) rm_X11_writes D cy o sK sV M [.ref (rA o a0), .int (J a1)] Q := by
  refine j_ofW (cc := cX11_writes) (maxL := 2) (ret := none) (by decide) rfl (Nat.le_of_ble_eq_true rfl) ?_
  intro p e s m args below meth c hx hb hr hlocks hml hown hts hK hSX H locs hG ls hl Qf hQf
  have hown : s.vm.findClass RX11 = some m.cls := hown
  have hl : lv_has ls 2 [(0, .ref (rA o a0)), (1, .int (J a1))] := hl
  have w_fl_RX11_29 := hts _ (List.mem_cons_of_mem _ fl_RX11_29)
  have w_fl_RX11_332 := hts _ (List.mem_cons_of_mem _ fl_RX11_332)
  unfold wp_X11_writes at h
  refine lv_iload_n hx hb dX11_writes_0 rfl (lv_at hl 1 rfl) ?_
  refine lv_bipush (v := J 9) hx hb dX11_writes_1 (by decide) ?_
  obtain ⟨K7, hK7, h⟩ := h
  have jK7 : ∀ (M6 : jT), K7 M6 → ∀ (H : Heap) (locs : List Loc), GM D cy o M6 s.heap H locs → ∀ ls : Array Slot, lv_has ls 2 [(0, .ref (rA o a0)), (1, .int (J a1))] → W p l e rm_X11_writes s m args below meth c H locs 0 0 Qf (F0 m 14 ls []) := by
    intro M6 hcK7 H locs hG ls hl
    have h := hK7 M6 hcK7
    refine lv_aload_n hx hb dX11_writes_14 rfl (lv_at hl 0 rfl) ?_
    refine j_getr hx hb hts hown hK hG (k := a0) (fun w h => List.mem_cons_of_mem _ (u_X11 w h)) (ci := 10) rfl ka0 11 (k2 := a0 + 6) (by decide) (by show a0 + (6 : Int) = a0 + 6; omega) w_fl_RX11_29 dX11_writes_15 ?_
    refine lv_aload_n hx hb dX11_writes_18 rfl (lv_at hl 0 rfl) ?_
    refine lv_dup hx hb dX11_writes_19 rfl ?_
    refine j_geti hx hb hts hown hK hG (k := a0) (fun w h => List.mem_cons_of_mem _ (u_X11 w h)) (ci := 10) rfl ka0 12 (by decide) (jz := 12) rfl w_fl_RX11_332 dX11_writes_20 ?_
    refine lv_dup_x1 hx hb dX11_writes_23 rfl rfl ?_
    refine lv_iconst (v := J 1) hx hb dX11_writes_24 (by decide) ?_
    refine j_iadd hx hb dX11_writes_25 ?_
    refine j_puti hx hb hts hown hK hG (k := a0) (fun w h => List.mem_cons_of_mem _ (u_X11 w h)) tyX11 tyX11_ok nmX11 (ci := 10) rfl ka0 12 (by decide) (jz := 12) rfl w_fl_RX11_332 (hd := rfl) (hn := rfl) (hfit := rfl) (hdg := dX11_writes_26) (fun M8 eM8 H locs hG => ?_)
    have h := h M8 eM8
    refine lv_bipush (v := J 48) hx hb dX11_writes_29 (by decide) ?_
    refine lv_iload_n hx hb dX11_writes_31 rfl (lv_at hl 1 rfl) ?_
    refine lv_bipush (v := J 10) hx hb dX11_writes_32 (by decide) ?_
    obtain ⟨g9, h⟩ := h
    refine j_irem hx hb dX11_writes_34 g9 (by decide) ?_
    refine j_iadd hx hb dX11_writes_35 ?_
    obtain ⟨g10, h⟩ := h
    refine j_iast hx hb hK hG (n := 60) (kf_11_11 ka0) (by decide) g10 dX11_writes_36 (fun M11 eM11 H locs hG => ?_)
    have h := h M11 eM11
    rw [hQf]
    exact j_vret hx hb hr hlocks hG h (by decide) dX11_writes_37
  obtain ⟨g13, h⟩ := h
  refine j_icmp_le (tgt := 14) hx hb dX11_writes_3 (by decide) g13 (by decide) (fun c12 => ?_) (fun c12 => ?_)
  · have h := h.1 c12
    exact jK7 M h H locs hG ls (lv_sub hl [0, 1] rfl)
  · have h := h.2 c12
    refine lv_aload_n hx hb dX11_writes_6 rfl (lv_at hl 0 rfl) ?_
    refine lv_iload_n hx hb dX11_writes_7 rfl (lv_at hl 1 rfl) ?_
    refine lv_bipush (v := J 10) hx hb dX11_writes_8 (by decide) ?_
    obtain ⟨g14, h⟩ := h
    refine j_idiv hx hb dX11_writes_10 g14 (by decide) ?_
    refine j_contv (va_runV (As := [.int (J (a1 / 10))]) (rest := []) ⟨hx, hb, hml, hown, hts⟩ (A_X11_writes_c l ka0 h) (cwV 1 hts (gj_V ml_RX11_329 i_X11_writes s_X11_writes n_RX11 k_X11_writes) rfl rfl rfl (by decide +kernel) ⟨by exact Nat.le_of_ble_eq_true rfl, by exact Nat.le_of_ble_eq_true rfl⟩) (j_preV hK hSX hG (ci := 10) rfl ka0 (by decide)) rfl rfl hl.1 rfl (lv_room (Nat.le_of_ble_eq_true rfl)) dX11_writes_11 ⟨by exact Nat.le_of_ble_eq_true rfl, by exact Nat.le_of_ble_eq_true rfl⟩) hG (c2 := 0) (s2 := 0) ⟨by exact Nat.le_of_ble_eq_true rfl, by exact Nat.le_of_ble_eq_true rfl⟩ (fun M16 h H locs hG => ?_)
    exact jK7 M16 h H locs hG ls (lv_sub hl [0, 1] rfl)
abbrev rm_X11_write : Room := { frames := 4, cells := 0, slots := 0, locals := 84 }
set_option maxRecDepth 100000 in
set_option maxHeartbeats 4000000 in
theorem A_X11_write (l : Launch) {D : va_G} {cy : Nat → ClassId} {o : Nat} {sK sV : Nat → Nat} {M : jT} {a0 : Int} {a1 : Int} {a2 : Int} (ka0 : kd a0 = 11) {Q : Int → jT → Prop} (h : wp_X11_write M a0 a1 a2 Q) : CoI l yX11_write (wj yX11_write cX11_write 6 (some .int)) rm_X11_write D cy o sK sV M [.ref (rA o a0), .int (J a1), .int (J a2)] Q := by
  refine j_ofW (cc := cX11_write) (maxL := 6) (ret := (some .int)) (by decide) rfl (Nat.le_of_ble_eq_true rfl) ?_
  intro p e s m args below meth c hx hb hr hlocks hml hown hts hK hSX H locs hG ls hl Qf hQf
  have hown : s.vm.findClass RX11 = some m.cls := hown
  have hl : lv_has ls 6 [(0, .ref (rA o a0)), (1, .int (J a1)), (2, .int (J a2))] := hl
  have w_fl_RX11_80 := hts _ (List.mem_cons_of_mem _ fl_RX11_80)
  have w_fl_RX11_332 := hts _ (List.mem_cons_of_mem _ fl_RX11_332)
  have w_fl_RX11_29 := hts _ (List.mem_cons_of_mem _ fl_RX11_29)
  have w_fl_RX11_9 := hts _ (List.mem_cons_of_mem _ fl_RX11_9)
  unfold wp_X11_write at h
  refine lv_aload_n hx hb dX11_write_0 rfl (lv_at hl 0 rfl) ?_
  refine lv_iconst (v := J 0) hx hb dX11_write_1 (by decide) ?_
  refine j_puti hx hb hts hown hK hG (k := a0) (fun w h => List.mem_cons_of_mem _ (u_X11 w h)) tyX11 tyX11_ok nmX11 (ci := 10) rfl ka0 0 (by decide) (jz := 0) rfl w_fl_RX11_80 (hd := rfl) (hn := rfl) (hfit := rfl) (hdg := dX11_write_2) (fun M1 eM1 H locs hG => ?_)
  have h := h M1 eM1
  refine lv_aload_n hx hb dX11_write_5 rfl (lv_at hl 0 rfl) ?_
  refine lv_iload_n hx hb dX11_write_6 rfl (lv_at hl 1 rfl) ?_
  refine lv_iload_n hx hb dX11_write_7 rfl (lv_at hl 2 rfl) ?_
  obtain ⟨g2, h⟩ := h
  refine j_conti (va_runV (As := [.int (J a1), .int (J a2)]) (rest := []) ⟨hx, hb, hml, hown, hts⟩ (A_X11_isRule l ka0 g2) (cwV 2 hts (gj_V ml_RX11_138 i_X11_isRule s_X11_isRule n_RX11 k_X11_isRule) rfl rfl rfl (by decide +kernel) ⟨by exact Nat.le_of_ble_eq_true rfl, by exact Nat.le_of_ble_eq_true rfl⟩) (j_preV hK hSX hG (ci := 10) rfl ka0 (by decide)) rfl rfl hl.1 rfl (lv_room (Nat.le_of_ble_eq_true rfl)) dX11_write_8 ⟨by exact Nat.le_of_ble_eq_true rfl, by exact Nat.le_of_ble_eq_true rfl⟩) hG (c2 := 0) (s2 := 0) ⟨by exact Nat.le_of_ble_eq_true rfl, by exact Nat.le_of_ble_eq_true rfl⟩ (fun z3 M4 ez3 H locs hG => ?_)
  obtain ⟨ez3, eM4⟩ := ez3
  subst ez3
  rw [eM4] at hG
  refine j_if_ne_b (tgt := 20) hx hb dX11_write_11 (by decide) (fun c5 => ?_) (fun c5 => ?_)
  · have h := h.1 c5
    refine lv_aload_n hx hb dX11_write_20 rfl (lv_at hl 0 rfl) ?_
    refine lv_iconst (v := J 0) hx hb dX11_write_21 (by decide) ?_
    refine j_puti hx hb hts hown hK hG (k := a0) (fun w h => List.mem_cons_of_mem _ (u_X11 w h)) tyX11 tyX11_ok nmX11 (ci := 10) rfl ka0 12 (by decide) (jz := 12) rfl w_fl_RX11_332 (hd := rfl) (hn := rfl) (hfit := rfl) (hdg := dX11_write_22) (fun M6 eM6 H locs hG => ?_)
    have h := h M6 eM6
    refine lv_iload_n hx hb dX11_write_25 rfl (lv_at hl 1 rfl) ?_
    refine lv_iload_n hx hb dX11_write_26 rfl (lv_at hl 2 rfl) ?_
    refine j_conti (va_runS (As := [.int (J a1), .int (J a2)]) (rest := []) ⟨hx, hb, hml, hown, hts⟩ (A_X11_ruleAt l) (va_cwS 2 hts (gj_S ml_RX11_135 i_X11_ruleAt n_RX11 k_X11_ruleAt) rfl rfl rfl (by decide +kernel) ⟨by exact Nat.le_of_ble_eq_true rfl, by exact Nat.le_of_ble_eq_true rfl⟩) (j_preS hK hSX hG) rfl rfl hl.1 rfl (lv_room (Nat.le_of_ble_eq_true rfl)) dX11_write_27 ⟨by exact Nat.le_of_ble_eq_true rfl, by exact Nat.le_of_ble_eq_true rfl⟩) hG (c2 := 0) (s2 := 0) ⟨by exact Nat.le_of_ble_eq_true rfl, by exact Nat.le_of_ble_eq_true rfl⟩ (fun z7 M8 ez7 H locs hG => ?_)
    obtain ⟨ez7, eM8⟩ := ez7
    subst ez7
    rw [eM8] at hG
    refine j_topi (fun x9 ex9 => ?_)
    have h := h x9 ex9
    refine lv_istore_n (lv' := [(3, .int (J x9)), (0, .ref (rA o a0)), (1, .int (J a1)), (2, .int (J a2))]) hx hb dX11_write_30 rfl hl (by decide) rfl (fun ls hl => ?_)
    refine lv_iconst (v := J 0) hx hb dX11_write_31 (by decide) ?_
    refine lv_istore (lv' := [(4, .int (J 0)), (3, .int (J x9)), (0, .ref (rA o a0)), (1, .int (J a1)), (2, .int (J a2))]) hx hb dX11_write_32 hl (by decide) rfl (fun ls hl => ?_)
    obtain ⟨I12, ⟨n13s, iI12⟩, qI12⟩ := h
    have lI12 : ∀ (n13 : Nat) (x10 : Int) (M11 : jT), I12 n13 x10 M11 → ∀ (H : Heap) (locs : List Loc), GM D cy o M11 s.heap H locs → ∀ ls : Array Slot, lv_has ls 6 [(0, .ref (rA o a0)), (3, .int (J x9)), (4, .int (J x10))] → W p l e rm_X11_write s m args below meth c H locs 0 0 Qf (F0 m 34 ls []) := by
      intro n13
      induction n13 using Nat.strongRecOn with
      | ind n13 rI12 =>
        intro x10 M11 iI12 H locs hG ls hl
        have h := qI12 n13 x10 M11 iI12
        refine lv_iload hx hb dX11_write_34 (lv_at hl 2 rfl) ?_
        refine lv_bipush (v := J 7) hx hb dX11_write_36 (by decide) ?_
        obtain ⟨g15, h⟩ := h
        refine j_icmp_ge (tgt := 293) hx hb dX11_write_38 (by decide) g15 (by decide) (fun c14 => ?_) (fun c14 => ?_)
        · have h := h.1 c14
          refine lv_aload_n hx hb dX11_write_293 rfl (lv_at hl 0 rfl) ?_
          refine j_geti hx hb hts hown hK hG (k := a0) (fun w h => List.mem_cons_of_mem _ (u_X11 w h)) (ci := 10) rfl ka0 12 (by decide) (jz := 12) rfl w_fl_RX11_332 dX11_write_294 ?_
          rw [hQf]
          exact j_ireti hx hb hr hlocks hG h (by decide) dX11_write_297
        · have h := h.2 c14
          refine lv_iload hx hb dX11_write_41 (lv_at hl 2 rfl) ?_
          obtain ⟨K21, hK21, h⟩ := h
          have jK21 : ∀ (M20 : jT), K21 M20 → ∀ (H : Heap) (locs : List Loc), GM D cy o M20 s.heap H locs → ∀ ls : Array Slot, lv_has ls 6 [(0, .ref (rA o a0)), (3, .int (J x9)), (4, .int (J x10))] → W p l e rm_X11_write s m args below meth c H locs 0 0 Qf (F0 m 64 ls []) := by
            intro M20 hcK21 H locs hG ls hl
            have h := hK21 M20 hcK21
            refine lv_aload_n hx hb dX11_write_64 rfl (lv_at hl 0 rfl) ?_
            refine j_getr hx hb hts hown hK hG (k := a0) (fun w h => List.mem_cons_of_mem _ (u_X11 w h)) (ci := 10) rfl ka0 1 (k2 := a0 + 1) (by decide) (by show a0 + (1 : Int) = a0 + 1; omega) w_fl_RX11_9 dX11_write_65 ?_
            refine lv_iload_n hx hb dX11_write_68 rfl (lv_at hl 1 rfl) ?_
            refine lv_iload hx hb dX11_write_69 (lv_at hl 2 rfl) ?_
            refine j_iadd hx hb dX11_write_71 ?_
            obtain ⟨g22, h⟩ := h
            refine j_iald hx hb hK hG (n := 1294) (kf_11_1 ka0) (by decide) g22 dX11_write_72 ?_
            refine j_topi (fun x23 ex23 => ?_)
            have h := h x23 ex23
            refine lv_istore (lv' := [(5, .int (J x23)), (0, .ref (rA o a0)), (3, .int (J x9)), (4, .int (J x10))]) hx hb dX11_write_73 hl (by decide) rfl (fun ls hl => ?_)
            refine lv_iload hx hb dX11_write_75 (lv_at hl 3 rfl) ?_
            refine lv_iconst (v := J 5) hx hb dX11_write_77 (by decide) ?_
            obtain ⟨K113, hK113, h⟩ := h
            have jK113 : ∀ (M112 : jT), K113 M112 → ∀ (H : Heap) (locs : List Loc), GM D cy o M112 s.heap H locs → ∀ ls : Array Slot, lv_has ls 6 [(0, .ref (rA o a0)), (3, .int (J x9)), (4, .int (J x10))] → W p l e rm_X11_write s m args below meth c H locs 0 0 Qf (F0 m 287 ls []) := by
              intro M112 hcK113 H locs hG ls hl
              have h := hK113 M112 hcK113
              refine j_iinc hx hb dX11_write_287 hl (k := 2) rfl (by decide) (fun x114 ex114 ls hl => ?_)
              have h := h x114 ex114
              have hl : lv_has ls 6 [(4, .int (J x114)), (0, .ref (rA o a0)), (3, .int (J x9))] := hl
              refine lv_goto (tgt := 34) hx hb dX11_write_290 (by decide) ?_
              obtain ⟨n115, ln115, iI12⟩ := h
              exact rI12 n115 ln115 x114 M112 iI12 H locs hG ls (lv_sub hl [1, 2, 0] rfl)
            refine j_icmp_ne (tgt := 123) hx hb dX11_write_78 (by decide) g15 (by decide) (fun c116 => ?_) (fun c116 => ?_)
            · have h := h.1 c116
              refine lv_iload hx hb dX11_write_123 (lv_at hl 3 rfl) ?_
              refine lv_iconst (v := J 2) hx hb dX11_write_125 (by decide) ?_
              refine j_icmp_ge (tgt := 142) hx hb dX11_write_126 (by decide) g15 (by decide) (fun c117 => ?_) (fun c117 => ?_)
              · have h := h.1 c117
                refine lv_iload hx hb dX11_write_142 (lv_at hl 3 rfl) ?_
                refine lv_iconst (v := J 3) hx hb dX11_write_144 (by decide) ?_
                obtain ⟨K153, hK153, h⟩ := h
                have jK153 : K153 → ∀ (H : Heap) (locs : List Loc), GM D cy o M20 s.heap H locs → ∀ ls : Array Slot, lv_has ls 6 [(0, .ref (rA o a0)), (3, .int (J x9)), (4, .int (J x10)), (5, .int (J x23))] → W p l e rm_X11_write s m args below meth c H locs 0 0 Qf (F0 m 155 ls []) := by
                  intro hcK153 H locs hG ls hl
                  have h := hK153 hcK153
                  refine lv_aload_n hx hb dX11_write_155 rfl (lv_at hl 0 rfl) ?_
                  refine lv_iload hx hb dX11_write_156 (lv_at hl 3 rfl) ?_
                  refine j_contv (va_runV (As := [.int (J x23)]) (rest := []) ⟨hx, hb, hml, hown, hts⟩ (A_X11_writes l ka0 h) (cwV 1 hts (gj_V ml_RX11_329 i_X11_writes s_X11_writes n_RX11 k_X11_writes) rfl rfl rfl (by decide +kernel) ⟨by exact Nat.le_of_ble_eq_true rfl, by exact Nat.le_of_ble_eq_true rfl⟩) (j_preV hK hSX hG (ci := 10) rfl ka0 (by decide)) rfl rfl hl.1 rfl (lv_room (Nat.le_of_ble_eq_true rfl)) dX11_write_158 ⟨by exact Nat.le_of_ble_eq_true rfl, by exact Nat.le_of_ble_eq_true rfl⟩) hG (c2 := 0) (s2 := 0) ⟨by exact Nat.le_of_ble_eq_true rfl, by exact Nat.le_of_ble_eq_true rfl⟩ (fun M155 h H locs hG => ?_)
                  refine lv_goto (tgt := 287) hx hb dX11_write_161 (by decide) ?_
                  exact jK113 M155 h H locs hG ls (lv_sub hl [0, 1, 2] rfl)
                refine j_icmp_ne (tgt := 155) hx hb dX11_write_145 (by decide) g15 (by decide) (fun c156 => ?_) (fun c156 => ?_)
                · have h := h.1 c156
                  exact jK153 h H locs hG ls (lv_sub hl [1, 2, 3, 0] rfl)
                · have h := h.2 c156
                  refine lv_iload hx hb dX11_write_148 (lv_at hl 0 rfl) ?_
                  refine lv_bipush (v := J 31) hx hb dX11_write_150 (by decide) ?_
                  obtain ⟨g158, h⟩ := h
                  refine j_icmp_gt (tgt := 164) hx hb dX11_write_152 (by decide) g158 (by decide) (fun c157 => ?_) (fun c157 => ?_)
                  · have h := h.1 c157
                    refine lv_iload hx hb dX11_write_164 (lv_at hl 0 rfl) ?_
                    refine lv_sipush (v := J 1000) hx hb dX11_write_166 (by decide) ?_
                    refine j_icmp_lt (tgt := 215) hx hb dX11_write_169 (by decide) g158 (by decide) (fun c159 => ?_) (fun c159 => ?_)
                    · have h := h.1 c159
                      refine lv_aload_n hx hb dX11_write_215 rfl (lv_at hl 1 rfl) ?_
                      refine j_getr hx hb hts hown hK hG (k := a0) (fun w h => List.mem_cons_of_mem _ (u_X11 w h)) (ci := 10) rfl ka0 11 (k2 := a0 + 6) (by decide) (by show a0 + (6 : Int) = a0 + 6; omega) w_fl_RX11_29 dX11_write_216 ?_
                      refine lv_aload_n hx hb dX11_write_219 rfl (lv_at hl 1 rfl) ?_
                      refine lv_dup hx hb dX11_write_220 rfl ?_
                      refine j_geti hx hb hts hown hK hG (k := a0) (fun w h => List.mem_cons_of_mem _ (u_X11 w h)) (ci := 10) rfl ka0 12 (by decide) (jz := 12) rfl w_fl_RX11_332 dX11_write_221 ?_
                      refine lv_dup_x1 hx hb dX11_write_224 rfl rfl ?_
                      refine lv_iconst (v := J 1) hx hb dX11_write_225 (by decide) ?_
                      refine j_iadd hx hb dX11_write_226 ?_
                      refine j_puti hx hb hts hown hK hG (k := a0) (fun w h => List.mem_cons_of_mem _ (u_X11 w h)) tyX11 tyX11_ok nmX11 (ci := 10) rfl ka0 12 (by decide) (jz := 12) rfl w_fl_RX11_332 (hd := rfl) (hn := rfl) (hfit := rfl) (hdg := dX11_write_227) (fun M160 eM160 H locs hG => ?_)
                      have h := h M160 eM160
                      refine lv_iload hx hb dX11_write_230 (lv_at hl 0 rfl) ?_
                      refine lv_sipush (v := J 500) hx hb dX11_write_232 (by decide) ?_
                      obtain ⟨hg, h⟩ := h
                      have jK164 : ∀ x163 : Int, (x23 < 500 → x163 = 48 + (x23 / 100)) → (500 ≤ x23 → x163 = 108) → ∀ (H : Heap) (locs : List Loc), GM D cy o M160 s.heap H locs → ∀ ls : Array Slot, lv_has ls 6 [(0, .ref (rA o a0)), (3, .int (J x9)), (4, .int (J x10)), (5, .int (J x23))] → W p l e rm_X11_write s m args below meth c H locs 0 0 Qf (F0 m 251 ls [.int (J x163), .int (J (M20 a0 12)), .ref (rA o (a0 + 6))]) := by
                        intro x163 qx163_0 qx163_1 H locs hG ls hl
                        have h := h x163 qx163_0 qx163_1
                        obtain ⟨g167, h⟩ := h
                        refine j_iast hx hb hK hG (n := 60) (kf_11_11 ka0) (by decide) g167 dX11_write_251 (fun M168 eM168 H locs hG => ?_)
                        have h := h M168 eM168
                        refine lv_iload hx hb dX11_write_252 (lv_at hl 3 rfl) ?_
                        refine lv_sipush (v := J 500) hx hb dX11_write_254 (by decide) ?_
                        obtain ⟨K174, hK174, h⟩ := h
                        have jK174 : ∀ (M173 : jT), K174 M173 → ∀ (H : Heap) (locs : List Loc), GM D cy o M173 s.heap H locs → ∀ ls : Array Slot, lv_has ls 6 [(0, .ref (rA o a0)), (3, .int (J x9)), (4, .int (J x10)), (5, .int (J x23))] → W p l e rm_X11_write s m args below meth c H locs 0 0 Qf (F0 m 278 ls []) := by
                          intro M173 hcK174 H locs hG ls hl
                          have h := hK174 M173 hcK174
                          refine lv_aload_n hx hb dX11_write_278 rfl (lv_at hl 0 rfl) ?_
                          refine lv_iload hx hb dX11_write_279 (lv_at hl 3 rfl) ?_
                          refine lv_bipush (v := J 100) hx hb dX11_write_281 (by decide) ?_
                          obtain ⟨g175, h⟩ := h
                          refine j_irem hx hb dX11_write_283 g175 (by decide) ?_
                          refine j_contv (va_runV (As := [.int (J (x23 % 100))]) (rest := []) ⟨hx, hb, hml, hown, hts⟩ (A_X11_writes l ka0 h) (cwV 1 hts (gj_V ml_RX11_329 i_X11_writes s_X11_writes n_RX11 k_X11_writes) rfl rfl rfl (by decide +kernel) ⟨by exact Nat.le_of_ble_eq_true rfl, by exact Nat.le_of_ble_eq_true rfl⟩) (j_preV hK hSX hG (ci := 10) rfl ka0 (by decide)) rfl rfl hl.1 rfl (lv_room (Nat.le_of_ble_eq_true rfl)) dX11_write_284 ⟨by exact Nat.le_of_ble_eq_true rfl, by exact Nat.le_of_ble_eq_true rfl⟩) hG (c2 := 0) (s2 := 0) ⟨by exact Nat.le_of_ble_eq_true rfl, by exact Nat.le_of_ble_eq_true rfl⟩ (fun M177 h H locs hG => ?_)
                          exact jK113 M177 h H locs hG ls (lv_sub hl [0, 1, 2] rfl)
                        refine j_icmp_ge (tgt := 278) hx hb dX11_write_257 (by decide) g158 (by decide) (fun c178 => ?_) (fun c178 => ?_)
                        · have h := h.1 c178
                          exact jK174 M168 h H locs hG ls (lv_sub hl [0, 1, 2, 3] rfl)
                        · have h := h.2 c178
                          refine lv_aload_n hx hb dX11_write_260 rfl (lv_at hl 0 rfl) ?_
                          refine j_getr hx hb hts hown hK hG (k := a0) (fun w h => List.mem_cons_of_mem _ (u_X11 w h)) (ci := 10) rfl ka0 11 (k2 := a0 + 6) (by decide) (by show a0 + (6 : Int) = a0 + 6; omega) w_fl_RX11_29 dX11_write_261 ?_
                          refine lv_aload_n hx hb dX11_write_264 rfl (lv_at hl 0 rfl) ?_
                          refine lv_dup hx hb dX11_write_265 rfl ?_
                          refine j_geti hx hb hts hown hK hG (k := a0) (fun w h => List.mem_cons_of_mem _ (u_X11 w h)) (ci := 10) rfl ka0 12 (by decide) (jz := 12) rfl w_fl_RX11_332 dX11_write_266 ?_
                          refine lv_dup_x1 hx hb dX11_write_269 rfl rfl ?_
                          refine lv_iconst (v := J 1) hx hb dX11_write_270 (by decide) ?_
                          refine j_iadd hx hb dX11_write_271 ?_
                          refine j_puti hx hb hts hown hK hG (k := a0) (fun w h => List.mem_cons_of_mem _ (u_X11 w h)) tyX11 tyX11_ok nmX11 (ci := 10) rfl ka0 12 (by decide) (jz := 12) rfl w_fl_RX11_332 (hd := rfl) (hn := rfl) (hfit := rfl) (hdg := dX11_write_272) (fun M179 eM179 H locs hG => ?_)
                          have h := h M179 eM179
                          refine lv_bipush (v := J 120) hx hb dX11_write_275 (by decide) ?_
                          obtain ⟨g180, h⟩ := h
                          refine j_iast hx hb hK hG (n := 60) (kf_11_11 ka0) (by decide) g180 dX11_write_277 (fun M181 eM181 H locs hG => ?_)
                          have h := h M181 eM181
                          exact jK174 M181 h H locs hG ls (lv_sub hl [0, 1, 2, 3] rfl)
                      have h := hg
                      refine j_icmp_lt (tgt := 243) hx hb dX11_write_235 (by decide) g158 (by decide) (fun c165 => ?_) (fun c165 => ?_)
                      · have h := h.1 c165
                        refine lv_bipush (v := J 48) hx hb dX11_write_243 (by decide) ?_
                        refine lv_iload hx hb dX11_write_245 (lv_at hl 0 rfl) ?_
                        refine lv_bipush (v := J 100) hx hb dX11_write_247 (by decide) ?_
                        obtain ⟨g166, h⟩ := h
                        refine j_idiv hx hb dX11_write_249 g166 (by decide) ?_
                        refine j_iadd hx hb dX11_write_250 ?_
                        exact jK164 (48 + (x23 / 100)) (fun _ => rfl) (fun q => absurd q (by omega)) H locs hG ls (lv_sub hl [1, 2, 3, 0] rfl)
                      · have h := h.2 c165
                        refine lv_bipush (v := J 108) hx hb dX11_write_238 (by decide) ?_
                        refine lv_goto (tgt := 251) hx hb dX11_write_240 (by decide) ?_
                        exact jK164 108 (fun q => absurd q (by omega)) (fun _ => rfl) H locs hG ls (lv_sub hl [1, 2, 3, 0] rfl)
                    · have h := h.2 c159
                      refine lv_aload_n hx hb dX11_write_172 rfl (lv_at hl 1 rfl) ?_
                      refine lv_iload hx hb dX11_write_173 (lv_at hl 0 rfl) ?_
                      refine lv_bipush (v := J 10) hx hb dX11_write_175 (by decide) ?_
                      obtain ⟨g182, h⟩ := h
                      refine j_irem hx hb dX11_write_177 g182 (by decide) ?_
                      refine j_contv (va_runV (As := [.int (J (x23 % 10))]) (rest := []) ⟨hx, hb, hml, hown, hts⟩ (A_X11_writes l ka0 h) (cwV 1 hts (gj_V ml_RX11_329 i_X11_writes s_X11_writes n_RX11 k_X11_writes) rfl rfl rfl (by decide +kernel) ⟨by exact Nat.le_of_ble_eq_true rfl, by exact Nat.le_of_ble_eq_true rfl⟩) (j_preV hK hSX hG (ci := 10) rfl ka0 (by decide)) rfl rfl hl.1 rfl (lv_room (Nat.le_of_ble_eq_true rfl)) dX11_write_178 ⟨by exact Nat.le_of_ble_eq_true rfl, by exact Nat.le_of_ble_eq_true rfl⟩) hG (c2 := 0) (s2 := 0) ⟨by exact Nat.le_of_ble_eq_true rfl, by exact Nat.le_of_ble_eq_true rfl⟩ (fun M184 h H locs hG => ?_)
                      refine lv_aload_n hx hb dX11_write_181 rfl (lv_at hl 1 rfl) ?_
                      refine j_getr hx hb hts hown hK hG (k := a0) (fun w h => List.mem_cons_of_mem _ (u_X11 w h)) (ci := 10) rfl ka0 11 (k2 := a0 + 6) (by decide) (by show a0 + (6 : Int) = a0 + 6; omega) w_fl_RX11_29 dX11_write_182 ?_
                      refine lv_aload_n hx hb dX11_write_185 rfl (lv_at hl 1 rfl) ?_
                      refine lv_dup hx hb dX11_write_186 rfl ?_
                      refine j_geti hx hb hts hown hK hG (k := a0) (fun w h => List.mem_cons_of_mem _ (u_X11 w h)) (ci := 10) rfl ka0 12 (by decide) (jz := 12) rfl w_fl_RX11_332 dX11_write_187 ?_
                      refine lv_dup_x1 hx hb dX11_write_190 rfl rfl ?_
                      refine lv_iconst (v := J 1) hx hb dX11_write_191 (by decide) ?_
                      refine j_iadd hx hb dX11_write_192 ?_
                      refine j_puti hx hb hts hown hK hG (k := a0) (fun w h => List.mem_cons_of_mem _ (u_X11 w h)) tyX11 tyX11_ok nmX11 (ci := 10) rfl ka0 12 (by decide) (jz := 12) rfl w_fl_RX11_332 (hd := rfl) (hn := rfl) (hfit := rfl) (hdg := dX11_write_193) (fun M185 eM185 H locs hG => ?_)
                      have h := h M185 eM185
                      refine lv_bipush (v := J 62) hx hb dX11_write_196 (by decide) ?_
                      obtain ⟨g186, h⟩ := h
                      refine j_iast hx hb hK hG (n := 60) (kf_11_11 ka0) (by decide) g186 dX11_write_198 (fun M187 eM187 H locs hG => ?_)
                      have h := h M187 eM187
                      refine lv_aload_n hx hb dX11_write_199 rfl (lv_at hl 1 rfl) ?_
                      refine lv_iload hx hb dX11_write_200 (lv_at hl 0 rfl) ?_
                      refine lv_sipush (v := J 1000) hx hb dX11_write_202 (by decide) ?_
                      refine j_isub hx hb dX11_write_205 ?_
                      refine lv_bipush (v := J 10) hx hb dX11_write_206 (by decide) ?_
                      obtain ⟨g188, h⟩ := h
                      refine j_idiv hx hb dX11_write_208 g188 (by decide) ?_
                      refine j_contv (va_runV (As := [.int (J ((x23 - 1000) / 10))]) (rest := []) ⟨hx, hb, hml, hown, hts⟩ (A_X11_writes l ka0 h) (cwV 1 hts (gj_V ml_RX11_329 i_X11_writes s_X11_writes n_RX11 k_X11_writes) rfl rfl rfl (by decide +kernel) ⟨by exact Nat.le_of_ble_eq_true rfl, by exact Nat.le_of_ble_eq_true rfl⟩) (j_preV hK hSX hG (ci := 10) rfl ka0 (by decide)) rfl rfl hl.1 rfl (lv_room (Nat.le_of_ble_eq_true rfl)) dX11_write_209 ⟨by exact Nat.le_of_ble_eq_true rfl, by exact Nat.le_of_ble_eq_true rfl⟩) hG (c2 := 0) (s2 := 0) ⟨by exact Nat.le_of_ble_eq_true rfl, by exact Nat.le_of_ble_eq_true rfl⟩ (fun M190 h H locs hG => ?_)
                      refine lv_goto (tgt := 287) hx hb dX11_write_212 (by decide) ?_
                      exact jK113 M190 h H locs hG ls (lv_sub hl [1, 2, 3] rfl)
                  · have h := h.2 c157
                    exact jK153 h H locs hG ls (lv_sub hl [1, 2, 3, 0] rfl)
              · have h := h.2 c117
                refine lv_aload_n hx hb dX11_write_129 rfl (lv_at hl 1 rfl) ?_
                refine lv_sipush (v := J 2000) hx hb dX11_write_130 (by decide) ?_
                refine lv_iload hx hb dX11_write_133 (lv_at hl 0 rfl) ?_
                refine j_iadd hx hb dX11_write_135 ?_
                refine j_contv (va_runV (As := [.int (J (2000 + x23))]) (rest := []) ⟨hx, hb, hml, hown, hts⟩ (A_X11_writes l ka0 h) (cwV 1 hts (gj_V ml_RX11_329 i_X11_writes s_X11_writes n_RX11 k_X11_writes) rfl rfl rfl (by decide +kernel) ⟨by exact Nat.le_of_ble_eq_true rfl, by exact Nat.le_of_ble_eq_true rfl⟩) (j_preV hK hSX hG (ci := 10) rfl ka0 (by decide)) rfl rfl hl.1 rfl (lv_room (Nat.le_of_ble_eq_true rfl)) dX11_write_136 ⟨by exact Nat.le_of_ble_eq_true rfl, by exact Nat.le_of_ble_eq_true rfl⟩) hG (c2 := 0) (s2 := 0) ⟨by exact Nat.le_of_ble_eq_true rfl, by exact Nat.le_of_ble_eq_true rfl⟩ (fun M192 h H locs hG => ?_)
                refine lv_goto (tgt := 287) hx hb dX11_write_139 (by decide) ?_
                exact jK113 M192 h H locs hG ls (lv_sub hl [1, 2, 3] rfl)
            · have h := h.2 c116
              refine lv_aload_n hx hb dX11_write_81 rfl (lv_at hl 1 rfl) ?_
              refine j_getr hx hb hts hown hK hG (k := a0) (fun w h => List.mem_cons_of_mem _ (u_X11 w h)) (ci := 10) rfl ka0 11 (k2 := a0 + 6) (by decide) (by show a0 + (6 : Int) = a0 + 6; omega) w_fl_RX11_29 dX11_write_82 ?_
              refine lv_aload_n hx hb dX11_write_85 rfl (lv_at hl 1 rfl) ?_
              refine lv_dup hx hb dX11_write_86 rfl ?_
              refine j_geti hx hb hts hown hK hG (k := a0) (fun w h => List.mem_cons_of_mem _ (u_X11 w h)) (ci := 10) rfl ka0 12 (by decide) (jz := 12) rfl w_fl_RX11_332 dX11_write_87 ?_
              refine lv_dup_x1 hx hb dX11_write_90 rfl rfl ?_
              refine lv_iconst (v := J 1) hx hb dX11_write_91 (by decide) ?_
              refine j_iadd hx hb dX11_write_92 ?_
              refine j_puti hx hb hts hown hK hG (k := a0) (fun w h => List.mem_cons_of_mem _ (u_X11 w h)) tyX11 tyX11_ok nmX11 (ci := 10) rfl ka0 12 (by decide) (jz := 12) rfl w_fl_RX11_332 (hd := rfl) (hn := rfl) (hfit := rfl) (hdg := dX11_write_93) (fun M193 eM193 H locs hG => ?_)
              have h := h M193 eM193
              refine lv_iload hx hb dX11_write_96 (lv_at hl 0 rfl) ?_
              obtain ⟨hg, h⟩ := h
              have jK198 : ∀ x197 : Int, (x23 ≠ 0 ∧ x23 ≠ 1 → x197 = 105) → (x23 ≠ 0 ∧ x23 = 1 → x197 = 98) → (x23 = 0 → x197 = 119) → ∀ (H : Heap) (locs : List Loc), GM D cy o M193 s.heap H locs → ∀ ls : Array Slot, lv_has ls 6 [(0, .ref (rA o a0)), (3, .int (J x9)), (4, .int (J x10))] → W p l e rm_X11_write s m args below meth c H locs 0 0 Qf (F0 m 119 ls [.int (J x197), .int (J (M20 a0 12)), .ref (rA o (a0 + 6))]) := by
                intro x197 qx197_0 qx197_1 qx197_2 H locs hG ls hl
                have h := h x197 qx197_0 qx197_1 qx197_2
                obtain ⟨g202, h⟩ := h
                refine j_iast hx hb hK hG (n := 60) (kf_11_11 ka0) (by decide) g202 dX11_write_119 (fun M203 eM203 H locs hG => ?_)
                have h := h M203 eM203
                refine lv_goto (tgt := 287) hx hb dX11_write_120 (by decide) ?_
                exact jK113 M203 h H locs hG ls (lv_sub hl [0, 1, 2] rfl)
              have h := hg
              obtain ⟨g200, h⟩ := h
              refine j_if_ne (tgt := 106) hx hb dX11_write_98 (by decide) g200 (fun c199 => ?_) (fun c199 => ?_)
              · have h := h.1 c199
                refine lv_iload hx hb dX11_write_106 (lv_at hl 0 rfl) ?_
                refine lv_iconst (v := J 1) hx hb dX11_write_108 (by decide) ?_
                refine j_icmp_ne (tgt := 117) hx hb dX11_write_109 (by decide) g200 (by decide) (fun c201 => ?_) (fun c201 => ?_)
                · have h := h.1 c201
                  refine lv_bipush (v := J 105) hx hb dX11_write_117 (by decide) ?_
                  exact jK198 105 (fun _ => rfl) (fun q => absurd q.2 (by omega)) (fun q => absurd q (by omega)) H locs hG ls (lv_sub hl [1, 2, 3] rfl)
                · have h := h.2 c201
                  refine lv_bipush (v := J 98) hx hb dX11_write_112 (by decide) ?_
                  refine lv_goto (tgt := 119) hx hb dX11_write_114 (by decide) ?_
                  exact jK198 98 (fun q => absurd q.2 (by omega)) (fun _ => rfl) (fun q => absurd q (by omega)) H locs hG ls (lv_sub hl [1, 2, 3] rfl)
              · have h := h.2 c199
                refine lv_bipush (v := J 119) hx hb dX11_write_101 (by decide) ?_
                refine lv_goto (tgt := 119) hx hb dX11_write_103 (by decide) ?_
                exact jK198 119 (fun q => absurd q.1 (by omega)) (fun q => absurd q.1 (by omega)) (fun _ => rfl) H locs hG ls (lv_sub hl [1, 2, 3] rfl)
          refine j_if_le (tgt := 64) hx hb dX11_write_43 (by decide) g15 (fun c204 => ?_) (fun c204 => ?_)
          · have h := h.1 c204
            exact jK21 M11 h H locs hG ls (lv_sub hl [0, 1, 2] rfl)
          · have h := h.2 c204
            refine lv_aload_n hx hb dX11_write_46 rfl (lv_at hl 0 rfl) ?_
            refine j_getr hx hb hts hown hK hG (k := a0) (fun w h => List.mem_cons_of_mem _ (u_X11 w h)) (ci := 10) rfl ka0 11 (k2 := a0 + 6) (by decide) (by show a0 + (6 : Int) = a0 + 6; omega) w_fl_RX11_29 dX11_write_47 ?_
            refine lv_aload_n hx hb dX11_write_50 rfl (lv_at hl 0 rfl) ?_
            refine lv_dup hx hb dX11_write_51 rfl ?_
            refine j_geti hx hb hts hown hK hG (k := a0) (fun w h => List.mem_cons_of_mem _ (u_X11 w h)) (ci := 10) rfl ka0 12 (by decide) (jz := 12) rfl w_fl_RX11_332 dX11_write_52 ?_
            refine lv_dup_x1 hx hb dX11_write_55 rfl rfl ?_
            refine lv_iconst (v := J 1) hx hb dX11_write_56 (by decide) ?_
            refine j_iadd hx hb dX11_write_57 ?_
            refine j_puti hx hb hts hown hK hG (k := a0) (fun w h => List.mem_cons_of_mem _ (u_X11 w h)) tyX11 tyX11_ok nmX11 (ci := 10) rfl ka0 12 (by decide) (jz := 12) rfl w_fl_RX11_332 (hd := rfl) (hn := rfl) (hfit := rfl) (hdg := dX11_write_58) (fun M205 eM205 H locs hG => ?_)
            have h := h M205 eM205
            refine lv_bipush (v := J 44) hx hb dX11_write_61 (by decide) ?_
            obtain ⟨g206, h⟩ := h
            refine j_iast hx hb hK hG (n := 60) (kf_11_11 ka0) (by decide) g206 dX11_write_63 (fun M207 eM207 H locs hG => ?_)
            have h := h M207 eM207
            exact jK21 M207 h H locs hG ls (lv_sub hl [0, 1, 2] rfl)
    exact lI12 n13s 0 M6 iI12 H locs hG ls (lv_sub hl [2, 1, 0] rfl)
  · have h := h.2 c5
    refine lv_aload_n hx hb dX11_write_14 rfl (lv_at hl 0 rfl) ?_
    refine lv_iconst (v := J 1) hx hb dX11_write_15 (by decide) ?_
    refine j_conti (va_runV (As := [.int (J 1)]) (rest := []) ⟨hx, hb, hml, hown, hts⟩ (A_X11_raises l ka0 h) (cwV 1 hts (gj_V ml_RX11_110 i_X11_raises s_X11_raises n_RX11 k_X11_raises) rfl rfl rfl (by decide +kernel) ⟨by exact Nat.le_of_ble_eq_true rfl, by exact Nat.le_of_ble_eq_true rfl⟩) (j_preV hK hSX hG (ci := 10) rfl ka0 (by decide)) rfl rfl hl.1 rfl (lv_room (Nat.le_of_ble_eq_true rfl)) dX11_write_16 ⟨by exact Nat.le_of_ble_eq_true rfl, by exact Nat.le_of_ble_eq_true rfl⟩) hG (c2 := 0) (s2 := 0) ⟨by exact Nat.le_of_ble_eq_true rfl, by exact Nat.le_of_ble_eq_true rfl⟩ (fun z208 M209 h H locs hG => ?_)
    rw [hQf]
    exact j_ireti hx hb hr hlocks hG h (by decide) dX11_write_19
abbrev rm_X11_word : Room := { frames := 4, cells := 0, slots := 0, locals := 85 }
set_option maxRecDepth 100000 in
set_option maxHeartbeats 4000000 in
theorem A_X11_word (l : Launch) {D : va_G} {cy : Nat → ClassId} {o : Nat} {sK sV : Nat → Nat} {M : jT} {a0 : Int} (ka0 : kd a0 = 11) {Q : Int → jT → Prop} (h : wp_X11_word M a0 Q) : CoI l yX11_word (wj yX11_word cX11_word 5 (some .int)) rm_X11_word D cy o sK sV M [.ref (rA o a0)] Q := by
  refine j_ofW (cc := cX11_word) (maxL := 5) (ret := (some .int)) (by decide) rfl (Nat.le_of_ble_eq_true rfl) ?_
  intro p e s m args below meth c hx hb hr hlocks hml hown hts hK hSX H locs hG ls hl Qf hQf
  have hown : s.vm.findClass RX11 = some m.cls := hown
  have hl : lv_has ls 5 [(0, .ref (rA o a0))] := hl
  have w_fl_RX11_286 := hts _ (List.mem_cons_of_mem _ fl_RX11_286)
  have w_fl_RX11_22 := hts _ (List.mem_cons_of_mem _ fl_RX11_22)
  unfold wp_X11_word at h
  refine lv_aload_n hx hb dX11_word_0 rfl (lv_at hl 0 rfl) ?_
  refine j_geti hx hb hts hown hK hG (k := a0) (fun w h => List.mem_cons_of_mem _ (u_X11 w h)) (ci := 10) rfl ka0 9 (by decide) (jz := 9) rfl w_fl_RX11_286 dX11_word_1 ?_
  refine j_topi (fun x1 ex1 => ?_)
  have h := h x1 ex1
  refine lv_istore_n (lv' := [(1, .int (J x1)), (0, .ref (rA o a0))]) hx hb dX11_word_4 rfl hl (by decide) rfl (fun ls hl => ?_)
  obtain ⟨I3, ⟨n4s, iI3⟩, qI3⟩ := h
  have lI3 : ∀ (n4 : Nat) (M2 : jT), I3 n4 M2 → ∀ (H : Heap) (locs : List Loc), GM D cy o M2 s.heap H locs → ∀ ls : Array Slot, lv_has ls 5 [(0, .ref (rA o a0)), (1, .int (J x1))] → W p l e rm_X11_word s m args below meth c H locs 0 0 Qf (F0 m 5 ls []) := by
    intro n4
    induction n4 using Nat.strongRecOn with
    | ind n4 rI3 =>
      intro M2 iI3 H locs hG ls hl
      have h := qI3 n4 M2 iI3
      refine lv_aload_n hx hb dX11_word_5 rfl (lv_at hl 0 rfl) ?_
      obtain ⟨g5, h⟩ := h
      refine j_conti (va_runV (As := []) (rest := []) ⟨hx, hb, hml, hown, hts⟩ (A_X11_here l ka0 g5) (cwV 0 hts (gj_V ml_RX11_289 i_X11_here s_X11_here n_RX11 k_X11_here) rfl rfl rfl (by decide +kernel) ⟨by exact Nat.le_of_ble_eq_true rfl, by exact Nat.le_of_ble_eq_true rfl⟩) (j_preV hK hSX hG (ci := 10) rfl ka0 (by decide)) rfl rfl hl.1 rfl (lv_room (Nat.le_of_ble_eq_true rfl)) dX11_word_6 ⟨by exact Nat.le_of_ble_eq_true rfl, by exact Nat.le_of_ble_eq_true rfl⟩) hG (c2 := 0) (s2 := 0) ⟨by exact Nat.le_of_ble_eq_true rfl, by exact Nat.le_of_ble_eq_true rfl⟩ (fun z6 M7 ez6 H locs hG => ?_)
      obtain ⟨ez6, eM7⟩ := ez6
      subst ez6
      rw [eM7] at hG
      refine lv_bipush (v := J 97) hx hb dX11_word_9 (by decide) ?_
      refine lv_bipush (v := J 122) hx hb dX11_word_11 (by decide) ?_
      obtain ⟨g8, h⟩ := h
      refine j_conti (va_runS (As := [.int (J (pf_X11_here M2 a0)), .int (J 97), .int (J 122)]) (rest := []) ⟨hx, hb, hml, hown, hts⟩ (A_X11_in l g8) (va_cwS 3 hts (gj_S ml_RX11_106 i_X11_in n_RX11 k_X11_in) rfl rfl rfl (by decide +kernel) ⟨by exact Nat.le_of_ble_eq_true rfl, by exact Nat.le_of_ble_eq_true rfl⟩) (j_preS hK hSX hG) rfl rfl hl.1 rfl (lv_room (Nat.le_of_ble_eq_true rfl)) dX11_word_13 ⟨by exact Nat.le_of_ble_eq_true rfl, by exact Nat.le_of_ble_eq_true rfl⟩) hG (c2 := 0) (s2 := 0) ⟨by exact Nat.le_of_ble_eq_true rfl, by exact Nat.le_of_ble_eq_true rfl⟩ (fun z9 M10 ez9 H locs hG => ?_)
      obtain ⟨ez9, eM10⟩ := ez9
      subst ez9
      rw [eM10] at hG
      refine j_if_eq_b (tgt := 32) hx hb dX11_word_16 (by decide) (fun c11 => ?_) (fun c11 => ?_)
      · have h := h.1 c11
        refine lv_iconst (v := J 0) hx hb dX11_word_32 (by decide) ?_
        refine lv_istore_n (lv' := [(2, .int (J 0)), (0, .ref (rA o a0)), (1, .int (J x1))]) hx hb dX11_word_33 rfl hl (by decide) rfl (fun ls hl => ?_)
        refine lv_iconst (v := J 0) hx hb dX11_word_34 (by decide) ?_
        refine lv_istore_n (lv' := [(3, .int (J 0)), (2, .int (J 0)), (0, .ref (rA o a0)), (1, .int (J x1))]) hx hb dX11_word_35 rfl hl (by decide) rfl (fun ls hl => ?_)
        obtain ⟨I14, ⟨n15s, iI14⟩, qI14⟩ := h
        have lI14 : ∀ (n15 : Nat) (x12 : Int) (x13 : Int), I14 n15 x12 x13 → ∀ (H : Heap) (locs : List Loc), GM D cy o M2 s.heap H locs → ∀ ls : Array Slot, lv_has ls 5 [(0, .ref (rA o a0)), (1, .int (J x1)), (2, .int (J x12)), (3, .int (J x13))] → W p l e rm_X11_word s m args below meth c H locs 0 0 Qf (F0 m 36 ls []) := by
          intro n15
          induction n15 using Nat.strongRecOn with
          | ind n15 rI14 =>
            intro x12 x13 iI14 H locs hG ls hl
            have h := qI14 n15 x12 x13 iI14
            refine lv_iload_n hx hb dX11_word_36 rfl (lv_at hl 3 rfl) ?_
            refine lv_iconst (v := J 5) hx hb dX11_word_37 (by decide) ?_
            obtain ⟨g17, h⟩ := h
            refine j_icmp_ge (tgt := 162) hx hb dX11_word_38 (by decide) g17 (by decide) (fun c16 => ?_) (fun c16 => ?_)
            · have h := h.1 c16
              refine lv_aload_n hx hb dX11_word_162 rfl (lv_at hl 0 rfl) ?_
              refine lv_iload_n hx hb dX11_word_163 rfl (lv_at hl 1 rfl) ?_
              refine j_puti hx hb hts hown hK hG (k := a0) (fun w h => List.mem_cons_of_mem _ (u_X11 w h)) tyX11 tyX11_ok nmX11 (ci := 10) rfl ka0 9 (by decide) (jz := 9) rfl w_fl_RX11_286 (hd := rfl) (hn := rfl) (hfit := rfl) (hdg := dX11_word_164) (fun M18 eM18 H locs hG => ?_)
              have h := h M18 eM18
              refine lv_iconst (v := J (-1)) hx hb dX11_word_167 (by decide) ?_
              rw [hQf]
              exact j_ireti hx hb hr hlocks hG h (by decide) dX11_word_168
            · have h := h.2 c16
              refine lv_iload_n hx hb dX11_word_41 rfl (lv_at hl 1 rfl) ?_
              refine lv_istore (lv' := [(4, .int (J x1)), (0, .ref (rA o a0)), (1, .int (J x1)), (2, .int (J x12)), (3, .int (J x13))]) hx hb dX11_word_42 hl (by decide) rfl (fun ls hl => ?_)
              obtain ⟨I21, ⟨n22s, iI21⟩, qI21⟩ := h
              have lI21 : ∀ (n22 : Nat) (x19 : Int) (x20 : Int), I21 n22 x19 x20 → ∀ (H : Heap) (locs : List Loc), GM D cy o M2 s.heap H locs → ∀ ls : Array Slot, lv_has ls 5 [(0, .ref (rA o a0)), (1, .int (J x1)), (2, .int (J x19)), (3, .int (J x13)), (4, .int (J x20))] → W p l e rm_X11_word s m args below meth c H locs 0 0 Qf (F0 m 44 ls []) := by
                intro n22
                induction n22 using Nat.strongRecOn with
                | ind n22 rI21 =>
                  intro x19 x20 iI21 H locs hG ls hl
                  have h := qI21 n22 x19 x20 iI21
                  refine j_ldcwS hx hb hown (hSX.2.2.2.1 15 _ rfl) dX11_word_44 ?_
                  refine lv_iload_n hx hb dX11_word_47 rfl (lv_at hl 2 rfl) ?_
                  obtain ⟨g23, h⟩ := h
                  refine j_conti (va_runV (As := [.int (J x19)]) (rest := []) ⟨hx, hb, hml, hown, hts⟩ (A_J0_charAt l (by decide) g23) (cwV 1 hts (gj_V ml_RX11_298 i_J0_charAt_5068e s_J0_charAt_5068e n_RJ0 k_J0_charAt_5068e) rfl rfl rfl (by decide +kernel) ⟨by exact Nat.le_of_ble_eq_true rfl, by exact Nat.le_of_ble_eq_true rfl⟩) (j_preVS hK hSX hG (by decide)) rfl rfl hl.1 rfl (lv_room (Nat.le_of_ble_eq_true rfl)) dX11_word_48 ⟨by exact Nat.le_of_ble_eq_true rfl, by exact Nat.le_of_ble_eq_true rfl⟩) hG (c2 := 0) (s2 := 0) ⟨by exact Nat.le_of_ble_eq_true rfl, by exact Nat.le_of_ble_eq_true rfl⟩ (fun z24 M25 ez24 H locs hG => ?_)
                  obtain ⟨ez24, eM25⟩ := ez24
                  subst ez24
                  rw [eM25] at hG
                  refine lv_bipush (v := J 58) hx hb dX11_word_51 (by decide) ?_
                  obtain ⟨K39, hK39, h⟩ := h
                  have jK39 : K39 → ∀ (H : Heap) (locs : List Loc), GM D cy o M2 s.heap H locs → ∀ ls : Array Slot, lv_has ls 5 [(0, .ref (rA o a0)), (1, .int (J x1)), (2, .int (J x19)), (3, .int (J x13)), (4, .int (J x20))] → W p l e rm_X11_word s m args below meth c H locs 0 0 Qf (F0 m 91 ls []) := by
                    intro hcK39 H locs hG ls hl
                    have h := hK39 hcK39
                    refine j_ldcwS hx hb hown (hSX.2.2.2.1 15 _ rfl) dX11_word_91 ?_
                    refine lv_iload_n hx hb dX11_word_94 rfl (lv_at hl 2 rfl) ?_
                    refine j_conti (va_runV (As := [.int (J x19)]) (rest := []) ⟨hx, hb, hml, hown, hts⟩ (A_J0_charAt l (by decide) g23) (cwV 1 hts (gj_V ml_RX11_298 i_J0_charAt_5068e s_J0_charAt_5068e n_RJ0 k_J0_charAt_5068e) rfl rfl rfl (by decide +kernel) ⟨by exact Nat.le_of_ble_eq_true rfl, by exact Nat.le_of_ble_eq_true rfl⟩) (j_preVS hK hSX hG (by decide)) rfl rfl hl.1 rfl (lv_room (Nat.le_of_ble_eq_true rfl)) dX11_word_95 ⟨by exact Nat.le_of_ble_eq_true rfl, by exact Nat.le_of_ble_eq_true rfl⟩) hG (c2 := 0) (s2 := 0) ⟨by exact Nat.le_of_ble_eq_true rfl, by exact Nat.le_of_ble_eq_true rfl⟩ (fun z40 M41 ez40 H locs hG => ?_)
                    obtain ⟨ez40, eM41⟩ := ez40
                    subst ez40
                    rw [eM41] at hG
                    refine lv_bipush (v := J 58) hx hb dX11_word_98 (by decide) ?_
                    obtain ⟨K57, hK57, h⟩ := h
                    have jK57 : K57 → ∀ (H : Heap) (locs : List Loc), GM D cy o M2 s.heap H locs → ∀ ls : Array Slot, lv_has ls 5 [(0, .ref (rA o a0)), (1, .int (J x1)), (2, .int (J x19)), (3, .int (J x13))] → W p l e rm_X11_word s m args below meth c H locs 0 0 Qf (F0 m 135 ls []) := by
                      intro hcK57 H locs hG ls hl
                      have h := hK57 hcK57
                      refine j_ldcwS hx hb hown (hSX.2.2.2.1 15 _ rfl) dX11_word_135 ?_
                      refine lv_iload_n hx hb dX11_word_138 rfl (lv_at hl 2 rfl) ?_
                      refine j_conti (va_runV (As := [.int (J x19)]) (rest := []) ⟨hx, hb, hml, hown, hts⟩ (A_J0_charAt l (by decide) g23) (cwV 1 hts (gj_V ml_RX11_298 i_J0_charAt_5068e s_J0_charAt_5068e n_RJ0 k_J0_charAt_5068e) rfl rfl rfl (by decide +kernel) ⟨by exact Nat.le_of_ble_eq_true rfl, by exact Nat.le_of_ble_eq_true rfl⟩) (j_preVS hK hSX hG (by decide)) rfl rfl hl.1 rfl (lv_room (Nat.le_of_ble_eq_true rfl)) dX11_word_139 ⟨by exact Nat.le_of_ble_eq_true rfl, by exact Nat.le_of_ble_eq_true rfl⟩) hG (c2 := 0) (s2 := 0) ⟨by exact Nat.le_of_ble_eq_true rfl, by exact Nat.le_of_ble_eq_true rfl⟩ (fun z58 M59 ez58 H locs hG => ?_)
                      obtain ⟨ez58, eM59⟩ := ez58
                      subst ez58
                      rw [eM59] at hG
                      refine lv_bipush (v := J 58) hx hb dX11_word_142 (by decide) ?_
                      obtain ⟨g61, h⟩ := h
                      refine j_icmp_eq (tgt := 153) hx hb dX11_word_144 (by decide) g61 (by decide) (fun c60 => ?_) (fun c60 => ?_)
                      · have h := h.1 c60
                        refine j_iinc hx hb dX11_word_153 hl (k := 2) rfl (by decide) (fun x62 ex62 ls hl => ?_)
                        have h := h x62 ex62
                        have hl : lv_has ls 5 [(2, .int (J x62)), (0, .ref (rA o a0)), (1, .int (J x1)), (3, .int (J x13))] := hl
                        refine j_iinc hx hb dX11_word_156 hl (k := 3) rfl (by decide) (fun x63 ex63 ls hl => ?_)
                        have h := h x63 ex63
                        have hl : lv_has ls 5 [(3, .int (J x63)), (2, .int (J x62)), (0, .ref (rA o a0)), (1, .int (J x1))] := hl
                        refine lv_goto (tgt := 36) hx hb dX11_word_159 (by decide) ?_
                        obtain ⟨n64, ln64, iI14⟩ := h
                        exact rI14 n64 ln64 x62 x63 iI14 H locs hG ls (lv_sub hl [2, 3, 1, 0] rfl)
                      · have h := h.2 c60
                        refine j_iinc hx hb dX11_word_147 hl (k := 2) rfl (by decide) (fun x65 ex65 ls hl => ?_)
                        have h := h x65 ex65
                        have hl : lv_has ls 5 [(2, .int (J x65)), (0, .ref (rA o a0)), (1, .int (J x1)), (3, .int (J x13))] := hl
                        refine lv_goto (tgt := 135) hx hb dX11_word_150 (by decide) ?_
                        obtain ⟨I67, ⟨n68s, iI67⟩, qI67⟩ := h
                        have lI67 : ∀ (n68 : Nat) (x66 : Int), I67 n68 x66 → ∀ (H : Heap) (locs : List Loc), GM D cy o M2 s.heap H locs → ∀ ls : Array Slot, lv_has ls 5 [(0, .ref (rA o a0)), (1, .int (J x1)), (2, .int (J x66)), (3, .int (J x13))] → W p l e rm_X11_word s m args below meth c H locs 0 0 Qf (F0 m 135 ls []) := by
                          intro n68
                          induction n68 using Nat.strongRecOn with
                          | ind n68 rI67 =>
                            intro x66 iI67 H locs hG ls hl
                            have h := qI67 n68 x66 iI67
                            refine j_ldcwS hx hb hown (hSX.2.2.2.1 15 _ rfl) dX11_word_135 ?_
                            refine lv_iload_n hx hb dX11_word_138 rfl (lv_at hl 2 rfl) ?_
                            obtain ⟨g69, h⟩ := h
                            refine j_conti (va_runV (As := [.int (J x66)]) (rest := []) ⟨hx, hb, hml, hown, hts⟩ (A_J0_charAt l (by decide) g69) (cwV 1 hts (gj_V ml_RX11_298 i_J0_charAt_5068e s_J0_charAt_5068e n_RJ0 k_J0_charAt_5068e) rfl rfl rfl (by decide +kernel) ⟨by exact Nat.le_of_ble_eq_true rfl, by exact Nat.le_of_ble_eq_true rfl⟩) (j_preVS hK hSX hG (by decide)) rfl rfl hl.1 rfl (lv_room (Nat.le_of_ble_eq_true rfl)) dX11_word_139 ⟨by exact Nat.le_of_ble_eq_true rfl, by exact Nat.le_of_ble_eq_true rfl⟩) hG (c2 := 0) (s2 := 0) ⟨by exact Nat.le_of_ble_eq_true rfl, by exact Nat.le_of_ble_eq_true rfl⟩ (fun z70 M71 ez70 H locs hG => ?_)
                            obtain ⟨ez70, eM71⟩ := ez70
                            subst ez70
                            rw [eM71] at hG
                            refine lv_bipush (v := J 58) hx hb dX11_word_142 (by decide) ?_
                            obtain ⟨g73, h⟩ := h
                            refine j_icmp_eq (tgt := 153) hx hb dX11_word_144 (by decide) g73 (by decide) (fun c72 => ?_) (fun c72 => ?_)
                            · have h := h.1 c72
                              refine j_iinc hx hb dX11_word_153 hl (k := 2) rfl (by decide) (fun x74 ex74 ls hl => ?_)
                              have h := h x74 ex74
                              have hl : lv_has ls 5 [(2, .int (J x74)), (0, .ref (rA o a0)), (1, .int (J x1)), (3, .int (J x13))] := hl
                              refine j_iinc hx hb dX11_word_156 hl (k := 3) rfl (by decide) (fun x75 ex75 ls hl => ?_)
                              have h := h x75 ex75
                              have hl : lv_has ls 5 [(3, .int (J x75)), (2, .int (J x74)), (0, .ref (rA o a0)), (1, .int (J x1))] := hl
                              refine lv_goto (tgt := 36) hx hb dX11_word_159 (by decide) ?_
                              obtain ⟨n76, ln76, iI14⟩ := h
                              exact rI14 n76 ln76 x74 x75 iI14 H locs hG ls (lv_sub hl [2, 3, 1, 0] rfl)
                            · have h := h.2 c72
                              refine j_iinc hx hb dX11_word_147 hl (k := 2) rfl (by decide) (fun x77 ex77 ls hl => ?_)
                              have h := h x77 ex77
                              have hl : lv_has ls 5 [(2, .int (J x77)), (0, .ref (rA o a0)), (1, .int (J x1)), (3, .int (J x13))] := hl
                              refine lv_goto (tgt := 135) hx hb dX11_word_150 (by decide) ?_
                              obtain ⟨n78, ln78, iI67⟩ := h
                              exact rI67 n78 ln78 x77 iI67 H locs hG ls (lv_sub hl [1, 2, 0, 3] rfl)
                        exact lI67 n68s x65 iI67 H locs hG ls (lv_sub hl [1, 2, 0, 3] rfl)
                    obtain ⟨g80, h⟩ := h
                    refine j_icmp_ne (tgt := 135) hx hb dX11_word_100 (by decide) g80 (by decide) (fun c79 => ?_) (fun c79 => ?_)
                    · have h := h.1 c79
                      exact jK57 h H locs hG ls (lv_sub hl [0, 1, 2, 3] rfl)
                    · have h := h.2 c79
                      refine lv_iload hx hb dX11_word_103 (lv_at hl 4 rfl) ?_
                      refine lv_aload_n hx hb dX11_word_105 rfl (lv_at hl 0 rfl) ?_
                      refine j_geti hx hb hts hown hK hG (k := a0) (fun w h => List.mem_cons_of_mem _ (u_X11 w h)) (ci := 10) rfl ka0 9 (by decide) (jz := 9) rfl w_fl_RX11_286 dX11_word_106 ?_
                      obtain ⟨g82, h⟩ := h
                      obtain ⟨g83, h⟩ := h
                      refine j_icmp_ne (tgt := 135) hx hb dX11_word_109 (by decide) g82 g83 (fun c81 => ?_) (fun c81 => ?_)
                      · have h := h.1 c81
                        exact jK57 h H locs hG ls (lv_sub hl [0, 1, 2, 3] rfl)
                      · have h := h.2 c81
                        refine lv_aload_n hx hb dX11_word_112 rfl (lv_at hl 0 rfl) ?_
                        refine j_geti hx hb hts hown hK hG (k := a0) (fun w h => List.mem_cons_of_mem _ (u_X11 w h)) (ci := 10) rfl ka0 9 (by decide) (jz := 9) rfl w_fl_RX11_286 dX11_word_113 ?_
                        refine lv_iload_n hx hb dX11_word_116 rfl (lv_at hl 1 rfl) ?_
                        obtain ⟨g85, h⟩ := h
                        refine j_icmp_le (tgt := 135) hx hb dX11_word_117 (by decide) g83 g85 (fun c84 => ?_) (fun c84 => ?_)
                        · have h := h.1 c84
                          exact jK57 h H locs hG ls (lv_sub hl [0, 1, 2, 3] rfl)
                        · have h := h.2 c84
                          refine lv_aload_n hx hb dX11_word_120 rfl (lv_at hl 0 rfl) ?_
                          refine lv_bipush (v := J 58) hx hb dX11_word_121 (by decide) ?_
                          refine j_conti (va_runV (As := [.int (J 58)]) (rest := []) ⟨hx, hb, hml, hown, hts⟩ (A_X11_takes l ka0 h) (cwV 1 hts (gj_V ml_RX11_304 i_X11_takes s_X11_takes n_RX11 k_X11_takes) rfl rfl rfl (by decide +kernel) ⟨by exact Nat.le_of_ble_eq_true rfl, by exact Nat.le_of_ble_eq_true rfl⟩) (j_preV hK hSX hG (ci := 10) rfl ka0 (by decide)) rfl rfl hl.1 rfl (lv_room (Nat.le_of_ble_eq_true rfl)) dX11_word_123 ⟨by exact Nat.le_of_ble_eq_true rfl, by exact Nat.le_of_ble_eq_true rfl⟩) hG (c2 := 0) (s2 := 0) ⟨by exact Nat.le_of_ble_eq_true rfl, by exact Nat.le_of_ble_eq_true rfl⟩ (fun z86 M87 h H locs hG => ?_)
                          obtain ⟨hg, h⟩ := h
                          have jK91 : ∀ x90 : Int, (z86 = 0 → x90 = (-1)) → (z86 ≠ 0 → x90 = x13) → ∀ (H : Heap) (locs : List Loc), GM D cy o M87 s.heap H locs → ∀ ls : Array Slot, lv_has ls 5 [] → W p l e rm_X11_word s m args below meth c H locs 0 0 Qf (F0 m 134 ls [.int (J x90)]) := by
                            intro x90 qx90_0 qx90_1 H locs hG ls hl
                            have h := h x90 qx90_0 qx90_1
                            rw [hQf]
                            exact j_ireti hx hb hr hlocks hG h (by decide) dX11_word_134
                          have h := hg
                          obtain ⟨g93, h⟩ := h
                          refine j_if_eq (tgt := 133) hx hb dX11_word_126 (by decide) g93 (fun c92 => ?_) (fun c92 => ?_)
                          · have h := h.1 c92
                            refine lv_iconst (v := J (-1)) hx hb dX11_word_133 (by decide) ?_
                            exact jK91 ((-1)) (fun _ => rfl) (fun q => absurd q (by omega)) H locs hG ls (lv_sub hl [] rfl)
                          · have h := h.2 c92
                            refine lv_iload_n hx hb dX11_word_129 rfl (lv_at hl 3 rfl) ?_
                            refine lv_goto (tgt := 134) hx hb dX11_word_130 (by decide) ?_
                            exact jK91 x13 (fun q => absurd q (by omega)) (fun _ => rfl) H locs hG ls (lv_sub hl [] rfl)
                  obtain ⟨g95, h⟩ := h
                  refine j_icmp_eq (tgt := 91) hx hb dX11_word_53 (by decide) g95 (by decide) (fun c94 => ?_) (fun c94 => ?_)
                  · have h := h.1 c94
                    exact jK39 h H locs hG ls (lv_sub hl [0, 1, 2, 3, 4] rfl)
                  · have h := h.2 c94
                    refine lv_iload hx hb dX11_word_56 (lv_at hl 4 rfl) ?_
                    refine lv_aload_n hx hb dX11_word_58 rfl (lv_at hl 0 rfl) ?_
                    refine j_geti hx hb hts hown hK hG (k := a0) (fun w h => List.mem_cons_of_mem _ (u_X11 w h)) (ci := 10) rfl ka0 9 (by decide) (jz := 9) rfl w_fl_RX11_286 dX11_word_59 ?_
                    obtain ⟨g97, h⟩ := h
                    obtain ⟨g98, h⟩ := h
                    refine j_icmp_ge (tgt := 91) hx hb dX11_word_62 (by decide) g97 g98 (fun c96 => ?_) (fun c96 => ?_)
                    · have h := h.1 c96
                      exact jK39 h H locs hG ls (lv_sub hl [0, 1, 2, 3, 4] rfl)
                    · have h := h.2 c96
                      refine lv_aload_n hx hb dX11_word_65 rfl (lv_at hl 0 rfl) ?_
                      refine j_getr hx hb hts hown hK hG (k := a0) (fun w h => List.mem_cons_of_mem _ (u_X11 w h)) (ci := 10) rfl ka0 7 (k2 := a0 + 5) (by decide) (by show a0 + (5 : Int) = a0 + 5; omega) w_fl_RX11_22 dX11_word_66 ?_
                      refine lv_iload hx hb dX11_word_69 (lv_at hl 4 rfl) ?_
                      obtain ⟨g99, h⟩ := h
                      refine j_iald hx hb hK hG (n := 60) (kf_11_7 ka0) (by decide) g99 dX11_word_71 ?_
                      refine j_ldcwS hx hb hown (hSX.2.2.2.1 15 _ rfl) dX11_word_72 ?_
                      refine lv_iload_n hx hb dX11_word_75 rfl (lv_at hl 2 rfl) ?_
                      refine j_conti (va_runV (As := [.int (J x19)]) (rest := [.int (J (M2 (a0 + 5) x20))]) ⟨hx, hb, hml, hown, hts⟩ (A_J0_charAt l (by decide) g23) (cwV 1 hts (gj_V ml_RX11_298 i_J0_charAt_5068e s_J0_charAt_5068e n_RJ0 k_J0_charAt_5068e) rfl rfl rfl (by decide +kernel) ⟨by exact Nat.le_of_ble_eq_true rfl, by exact Nat.le_of_ble_eq_true rfl⟩) (j_preVS hK hSX hG (by decide)) rfl rfl hl.1 rfl (lv_room (Nat.le_of_ble_eq_true rfl)) dX11_word_76 ⟨by exact Nat.le_of_ble_eq_true rfl, by exact Nat.le_of_ble_eq_true rfl⟩) hG (c2 := 0) (s2 := 0) ⟨by exact Nat.le_of_ble_eq_true rfl, by exact Nat.le_of_ble_eq_true rfl⟩ (fun z100 M101 ez100 H locs hG => ?_)
                      obtain ⟨ez100, eM101⟩ := ez100
                      subst ez100
                      rw [eM101] at hG
                      obtain ⟨g103, h⟩ := h
                      refine j_icmp_ne (tgt := 91) hx hb dX11_word_79 (by decide) g103 g95 (fun c102 => ?_) (fun c102 => ?_)
                      · have h := h.1 c102
                        exact jK39 h H locs hG ls (lv_sub hl [0, 1, 2, 3, 4] rfl)
                      · have h := h.2 c102
                        refine j_iinc hx hb dX11_word_82 hl (k := 4) rfl (by decide) (fun x104 ex104 ls hl => ?_)
                        have h := h x104 ex104
                        have hl : lv_has ls 5 [(4, .int (J x104)), (0, .ref (rA o a0)), (1, .int (J x1)), (2, .int (J x19)), (3, .int (J x13))] := hl
                        refine j_iinc hx hb dX11_word_85 hl (k := 3) rfl (by decide) (fun x105 ex105 ls hl => ?_)
                        have h := h x105 ex105
                        have hl : lv_has ls 5 [(2, .int (J x105)), (4, .int (J x104)), (0, .ref (rA o a0)), (1, .int (J x1)), (3, .int (J x13))] := hl
                        refine lv_goto (tgt := 44) hx hb dX11_word_88 (by decide) ?_
                        obtain ⟨n106, ln106, iI21⟩ := h
                        exact rI21 n106 ln106 x105 x104 iI21 H locs hG ls (lv_sub hl [2, 3, 0, 4, 1] rfl)
              exact lI21 n22s x12 x1 iI21 H locs hG ls (lv_sub hl [1, 2, 3, 4, 0] rfl)
        exact lI14 n15s 0 0 iI14 H locs hG ls (lv_sub hl [2, 3, 1, 0] rfl)
      · have h := h.2 c11
        refine lv_aload_n hx hb dX11_word_19 rfl (lv_at hl 0 rfl) ?_
        refine lv_dup hx hb dX11_word_20 rfl ?_
        refine j_geti hx hb hts hown hK hG (k := a0) (fun w h => List.mem_cons_of_mem _ (u_X11 w h)) (ci := 10) rfl ka0 9 (by decide) (jz := 9) rfl w_fl_RX11_286 dX11_word_21 ?_
        refine lv_iconst (v := J 1) hx hb dX11_word_24 (by decide) ?_
        refine j_iadd hx hb dX11_word_25 ?_
        refine j_puti hx hb hts hown hK hG (k := a0) (fun w h => List.mem_cons_of_mem _ (u_X11 w h)) tyX11 tyX11_ok nmX11 (ci := 10) rfl ka0 9 (by decide) (jz := 9) rfl w_fl_RX11_286 (hd := rfl) (hn := rfl) (hfit := rfl) (hdg := dX11_word_26) (fun M107 eM107 H locs hG => ?_)
        have h := h M107 eM107
        refine lv_goto (tgt := 5) hx hb dX11_word_29 (by decide) ?_
        obtain ⟨n108, ln108, iI3⟩ := h
        exact rI3 n108 ln108 M107 iI3 H locs hG ls (lv_sub hl [0, 1] rfl)
  exact lI3 n4s M iI3 H locs hG ls (lv_sub hl [1, 0] rfl)
abbrev rm_X11_run : Room := { frames := 8, cells := 0, slots := 0, locals := 187 }
set_option maxRecDepth 100000 in
set_option maxHeartbeats 4000000 in
theorem A_X11_run (l : Launch) {D : va_G} {cy : Nat → ClassId} {o : Nat} {sK sV : Nat → Nat} {M : jT} {a0 : Int} (ka0 : kd a0 = 11) {Q : Int → jT → Prop} (h : wp_X11_run M a0 Q) : CoI l yX11_run (wj yX11_run cX11_run 6 (some .int)) rm_X11_run D cy o sK sV M [.ref (rA o a0)] Q := by
  refine j_ofW (cc := cX11_run) (maxL := 6) (ret := (some .int)) (by decide) rfl (Nat.le_of_ble_eq_true rfl) ?_
  intro p e s m args below meth c hx hb hr hlocks hml hown hts hK hSX H locs hG ls hl Qf hQf
  have hown : s.vm.findClass RX11 = some m.cls := hown
  have hl : lv_has ls 6 [(0, .ref (rA o a0))] := hl
  have w_fl_RX11_286 := hts _ (List.mem_cons_of_mem _ fl_RX11_286)
  have w_fl_RX11_25 := hts _ (List.mem_cons_of_mem _ fl_RX11_25)
  have w_fl_RX11_283 := hts _ (List.mem_cons_of_mem _ fl_RX11_283)
  have w_fl_RX11_35 := hts _ (List.mem_cons_of_mem _ fl_RX11_35)
  unfold wp_X11_run at h
  refine lv_aload_n hx hb dX11_run_0 rfl (lv_at hl 0 rfl) ?_
  refine j_contv (va_runV (As := []) (rest := []) ⟨hx, hb, hml, hown, hts⟩ (A_X11_tries l ka0 h) (cwV 0 hts (gj_V ml_RX11_148 i_X11_tries s_X11_tries n_RX11 k_X11_tries) rfl rfl rfl (by decide +kernel) ⟨by exact Nat.le_of_ble_eq_true rfl, by exact Nat.le_of_ble_eq_true rfl⟩) (j_preV hK hSX hG (ci := 10) rfl ka0 (by decide)) rfl rfl hl.1 rfl (lv_room (Nat.le_of_ble_eq_true rfl)) dX11_run_1 ⟨by exact Nat.le_of_ble_eq_true rfl, by exact Nat.le_of_ble_eq_true rfl⟩) hG (c2 := 0) (s2 := 0) ⟨by exact Nat.le_of_ble_eq_true rfl, by exact Nat.le_of_ble_eq_true rfl⟩ (fun M2 h H locs hG => ?_)
  refine lv_aload_n hx hb dX11_run_4 rfl (lv_at hl 0 rfl) ?_
  refine lv_iconst (v := J 0) hx hb dX11_run_5 (by decide) ?_
  refine j_puti hx hb hts hown hK hG (k := a0) (fun w h => List.mem_cons_of_mem _ (u_X11 w h)) tyX11 tyX11_ok nmX11 (ci := 10) rfl ka0 9 (by decide) (jz := 9) rfl w_fl_RX11_286 (hd := rfl) (hn := rfl) (hfit := rfl) (hdg := dX11_run_6) (fun M3 eM3 H locs hG => ?_)
  have h := h M3 eM3
  refine lv_iconst (v := J 0) hx hb dX11_run_9 (by decide) ?_
  refine lv_istore_n (lv' := [(1, .int (J 0)), (0, .ref (rA o a0))]) hx hb dX11_run_10 rfl hl (by decide) rfl (fun ls hl => ?_)
  refine lv_iconst (v := J (-1)) hx hb dX11_run_11 (by decide) ?_
  refine lv_istore_n (lv' := [(2, .int (J ((-1)))), (1, .int (J 0)), (0, .ref (rA o a0))]) hx hb dX11_run_12 rfl hl (by decide) rfl (fun ls hl => ?_)
  refine lv_iconst (v := J 1) hx hb dX11_run_13 (by decide) ?_
  refine lv_istore_n (lv' := [(3, .int (J 1)), (2, .int (J ((-1)))), (1, .int (J 0)), (0, .ref (rA o a0))]) hx hb dX11_run_14 rfl hl (by decide) rfl (fun ls hl => ?_)
  obtain ⟨I8, ⟨n9s, iI8⟩, qI8⟩ := h
  have lI8 : ∀ (n9 : Nat) (x4 : Int) (x5 : Int) (x6 : Int) (M7 : jT), I8 n9 x4 x5 x6 M7 → ∀ (H : Heap) (locs : List Loc), GM D cy o M7 s.heap H locs → ∀ ls : Array Slot, lv_has ls 6 [(0, .ref (rA o a0)), (1, .int (J x4)), (2, .int (J x5)), (3, .int (J x6))] → W p l e rm_X11_run s m args below meth c H locs 0 0 Qf (F0 m 15 ls []) := by
    intro n9
    induction n9 using Nat.strongRecOn with
    | ind n9 rI8 =>
      intro x4 x5 x6 M7 iI8 H locs hG ls hl
      have h := qI8 n9 x4 x5 x6 M7 iI8
      refine lv_iload_n hx hb dX11_run_15 rfl (lv_at hl 3 rfl) ?_
      obtain ⟨g11, h⟩ := h
      refine j_if_eq (tgt := 113) hx hb dX11_run_16 (by decide) g11 (fun c10 => ?_) (fun c10 => ?_)
      · have h := h.1 c10
        refine lv_aload_n hx hb dX11_run_113 rfl (lv_at hl 0 rfl) ?_
        refine lv_iload_n hx hb dX11_run_114 rfl (lv_at hl 2 rfl) ?_
        refine j_puti hx hb hts hown hK hG (k := a0) (fun w h => List.mem_cons_of_mem _ (u_X11 w h)) tyX11 tyX11_ok nmX11 (ci := 10) rfl ka0 10 (by decide) (jz := 10) rfl w_fl_RX11_25 (hd := rfl) (hn := rfl) (hfit := rfl) (hdg := dX11_run_115) (fun M12 eM12 H locs hG => ?_)
        have h := h M12 eM12
        refine lv_aload_n hx hb dX11_run_118 rfl (lv_at hl 0 rfl) ?_
        refine lv_iconst (v := J 0) hx hb dX11_run_119 (by decide) ?_
        refine j_puti hx hb hts hown hK hG (k := a0) (fun w h => List.mem_cons_of_mem _ (u_X11 w h)) tyX11 tyX11_ok nmX11 (ci := 10) rfl ka0 8 (by decide) (jz := 8) rfl w_fl_RX11_283 (hd := rfl) (hn := rfl) (hfit := rfl) (hdg := dX11_run_120) (fun M13 eM13 H locs hG => ?_)
        have h := h M13 eM13
        refine lv_aload_n hx hb dX11_run_123 rfl (lv_at hl 0 rfl) ?_
        refine lv_iload_n hx hb dX11_run_124 rfl (lv_at hl 2 rfl) ?_
        obtain ⟨hg, h⟩ := h
        have jK17 : ∀ x16 : Int, (0 ≤ x5 → x16 = (-2)) → (x5 < 0 → x16 = x4) → ∀ (H : Heap) (locs : List Loc), GM D cy o M13 s.heap H locs → ∀ ls : Array Slot, lv_has ls 6 [] → W p l e rm_X11_run s m args below meth c H locs 0 0 Qf (F0 m 134 ls [.int (J x16), .ref (rA o a0)]) := by
          intro x16 qx16_0 qx16_1 H locs hG ls hl
          have h := h x16 qx16_0 qx16_1
          refine j_conti (va_runV (As := [.int (J x16)]) (rest := []) ⟨hx, hb, hml, hown, hts⟩ (A_X11_ends l ka0 h) (cwV 1 hts (gj_V ml_RX11_154 i_X11_ends s_X11_ends n_RX11 k_X11_ends) rfl rfl rfl (by decide +kernel) ⟨by exact Nat.le_of_ble_eq_true rfl, by exact Nat.le_of_ble_eq_true rfl⟩) (j_preV hK hSX hG (ci := 10) rfl ka0 (by decide)) rfl rfl hl.1 rfl (lv_room (Nat.le_of_ble_eq_true rfl)) dX11_run_134 ⟨by exact Nat.le_of_ble_eq_true rfl, by exact Nat.le_of_ble_eq_true rfl⟩) hG (c2 := 0) (s2 := 0) ⟨by exact Nat.le_of_ble_eq_true rfl, by exact Nat.le_of_ble_eq_true rfl⟩ (fun z20 M21 h H locs hG => ?_)
          rw [hQf]
          exact j_ireti hx hb hr hlocks hG h (by decide) dX11_run_137
        have h := hg
        obtain ⟨g19, h⟩ := h
        refine j_if_ge (tgt := 132) hx hb dX11_run_125 (by decide) g19 (fun c18 => ?_) (fun c18 => ?_)
        · have h := h.1 c18
          refine lv_bipush (v := J (-2)) hx hb dX11_run_132 (by decide) ?_
          exact jK17 ((-2)) (fun _ => rfl) (fun q => absurd q (by omega)) H locs hG ls (lv_sub hl [] rfl)
        · have h := h.2 c18
          refine lv_iload_n hx hb dX11_run_128 rfl (lv_at hl 1 rfl) ?_
          refine lv_goto (tgt := 134) hx hb dX11_run_129 (by decide) ?_
          exact jK17 x4 (fun q => absurd q (by omega)) (fun _ => rfl) H locs hG ls (lv_sub hl [] rfl)
      · have h := h.2 c10
        refine lv_aload_n hx hb dX11_run_19 rfl (lv_at hl 0 rfl) ?_
        refine j_geti hx hb hts hown hK hG (k := a0) (fun w h => List.mem_cons_of_mem _ (u_X11 w h)) (ci := 10) rfl ka0 9 (by decide) (jz := 9) rfl w_fl_RX11_286 dX11_run_20 ?_
        refine j_topi (fun x22 ex22 => ?_)
        have h := h x22 ex22
        refine lv_istore (lv' := [(4, .int (J x22)), (0, .ref (rA o a0)), (1, .int (J x4)), (2, .int (J x5)), (3, .int (J x6))]) hx hb dX11_run_23 hl (by decide) rfl (fun ls hl => ?_)
        refine lv_aload_n hx hb dX11_run_25 rfl (lv_at hl 1 rfl) ?_
        refine j_conti (va_runV (As := []) (rest := []) ⟨hx, hb, hml, hown, hts⟩ (A_X11_word l ka0 h) (cwV 0 hts (gj_V ml_RX11_320 i_X11_word s_X11_word n_RX11 k_X11_word) rfl rfl rfl (by decide +kernel) ⟨by exact Nat.le_of_ble_eq_true rfl, by exact Nat.le_of_ble_eq_true rfl⟩) (j_preV hK hSX hG (ci := 10) rfl ka0 (by decide)) rfl rfl hl.1 rfl (lv_room (Nat.le_of_ble_eq_true rfl)) dX11_run_26 ⟨by exact Nat.le_of_ble_eq_true rfl, by exact Nat.le_of_ble_eq_true rfl⟩) hG (c2 := 0) (s2 := 0) ⟨by exact Nat.le_of_ble_eq_true rfl, by exact Nat.le_of_ble_eq_true rfl⟩ (fun z23 M24 h H locs hG => ?_)
        refine lv_istore (lv' := [(5, .int (J z23)), (4, .int (J x22)), (0, .ref (rA o a0)), (1, .int (J x4)), (2, .int (J x5)), (3, .int (J x6))]) hx hb dX11_run_29 hl (by decide) rfl (fun ls hl => ?_)
        refine lv_iload hx hb dX11_run_31 (lv_at hl 0 rfl) ?_
        obtain ⟨K58, hK58, h⟩ := h
        have jK58 : ∀ (M57 : jT), K58 M57 → ∀ (H : Heap) (locs : List Loc), GM D cy o M57 s.heap H locs → ∀ ls : Array Slot, lv_has ls 6 [(0, .ref (rA o a0))] → W p l e rm_X11_run s m args below meth c H locs 0 0 Qf (F0 m 45 ls []) := by
          intro M57 hcK58 H locs hG ls hl
          have h := hK58 M57 hcK58
          refine lv_aload_n hx hb dX11_run_45 rfl (lv_at hl 0 rfl) ?_
          refine lv_aload_n hx hb dX11_run_46 rfl (lv_at hl 0 rfl) ?_
          refine j_geti hx hb hts hown hK hG (k := a0) (fun w h => List.mem_cons_of_mem _ (u_X11 w h)) (ci := 10) rfl ka0 9 (by decide) (jz := 9) rfl w_fl_RX11_286 dX11_run_47 ?_
          refine j_puti hx hb hts hown hK hG (k := a0) (fun w h => List.mem_cons_of_mem _ (u_X11 w h)) tyX11 tyX11_ok nmX11 (ci := 10) rfl ka0 10 (by decide) (jz := 10) rfl w_fl_RX11_25 (hd := rfl) (hn := rfl) (hfit := rfl) (hdg := dX11_run_50) (fun M59 eM59 H locs hG => ?_)
          have h := h M59 eM59
          refine lv_aload_n hx hb dX11_run_53 rfl (lv_at hl 0 rfl) ?_
          refine lv_iconst (v := J 0) hx hb dX11_run_54 (by decide) ?_
          refine j_puti hx hb hts hown hK hG (k := a0) (fun w h => List.mem_cons_of_mem _ (u_X11 w h)) tyX11 tyX11_ok nmX11 (ci := 10) rfl ka0 8 (by decide) (jz := 8) rfl w_fl_RX11_283 (hd := rfl) (hn := rfl) (hfit := rfl) (hdg := dX11_run_55) (fun M60 eM60 H locs hG => ?_)
          have h := h M60 eM60
          refine lv_aload_n hx hb dX11_run_58 rfl (lv_at hl 0 rfl) ?_
          refine lv_iconst (v := J (-1)) hx hb dX11_run_59 (by decide) ?_
          refine j_puti hx hb hts hown hK hG (k := a0) (fun w h => List.mem_cons_of_mem _ (u_X11 w h)) tyX11 tyX11_ok nmX11 (ci := 10) rfl ka0 14 (by decide) (jz := 14) rfl w_fl_RX11_35 (hd := rfl) (hn := rfl) (hfit := rfl) (hdg := dX11_run_60) (fun M61 eM61 H locs hG => ?_)
          have h := h M61 eM61
          refine lv_aload_n hx hb dX11_run_63 rfl (lv_at hl 0 rfl) ?_
          refine lv_iconst (v := J (-1)) hx hb dX11_run_64 (by decide) ?_
          refine j_conti (va_runV (As := [.int (J ((-1)))]) (rest := []) ⟨hx, hb, hml, hown, hts⟩ (A_X11_ends l ka0 h) (cwV 1 hts (gj_V ml_RX11_154 i_X11_ends s_X11_ends n_RX11 k_X11_ends) rfl rfl rfl (by decide +kernel) ⟨by exact Nat.le_of_ble_eq_true rfl, by exact Nat.le_of_ble_eq_true rfl⟩) (j_preV hK hSX hG (ci := 10) rfl ka0 (by decide)) rfl rfl hl.1 rfl (lv_room (Nat.le_of_ble_eq_true rfl)) dX11_run_65 ⟨by exact Nat.le_of_ble_eq_true rfl, by exact Nat.le_of_ble_eq_true rfl⟩) hG (c2 := 0) (s2 := 0) ⟨by exact Nat.le_of_ble_eq_true rfl, by exact Nat.le_of_ble_eq_true rfl⟩ (fun z62 M63 h H locs hG => ?_)
          rw [hQf]
          exact j_ireti hx hb hr hlocks hG h (by decide) dX11_run_68
        obtain ⟨g65, h⟩ := h
        refine j_if_lt (tgt := 45) hx hb dX11_run_33 (by decide) g65 (fun c64 => ?_) (fun c64 => ?_)
        · have h := h.1 c64
          exact jK58 M24 h H locs hG ls (lv_sub hl [2] rfl)
        · have h := h.2 c64
          refine lv_aload_n hx hb dX11_run_36 rfl (lv_at hl 2 rfl) ?_
          refine lv_iload hx hb dX11_run_37 (lv_at hl 0 rfl) ?_
          refine j_conti (va_runV (As := [.int (J z23)]) (rest := []) ⟨hx, hb, hml, hown, hts⟩ (A_X11_items l ka0 h) (cwV 1 hts (gj_V ml_RX11_323 i_X11_items s_X11_items n_RX11 k_X11_items) rfl rfl rfl (by decide +kernel) ⟨by exact Nat.le_of_ble_eq_true rfl, by exact Nat.le_of_ble_eq_true rfl⟩) (j_preV hK hSX hG (ci := 10) rfl ka0 (by decide)) rfl rfl hl.1 rfl (lv_room (Nat.le_of_ble_eq_true rfl)) dX11_run_39 ⟨by exact Nat.le_of_ble_eq_true rfl, by exact Nat.le_of_ble_eq_true rfl⟩) hG (c2 := 0) (s2 := 0) ⟨by exact Nat.le_of_ble_eq_true rfl, by exact Nat.le_of_ble_eq_true rfl⟩ (fun z66 M67 h H locs hG => ?_)
          obtain ⟨g69, h⟩ := h
          refine j_if_ne (tgt := 69) hx hb dX11_run_42 (by decide) g69 (fun c68 => ?_) (fun c68 => ?_)
          · have h := h.1 c68
            refine lv_iload_n hx hb dX11_run_69 rfl (lv_at hl 4 rfl) ?_
            obtain ⟨K78, hK78, h⟩ := h
            have jK78 : ∀ (x76 : Int) (M77 : jT), K78 x76 M77 → ∀ (H : Heap) (locs : List Loc), GM D cy o M77 s.heap H locs → ∀ ls : Array Slot, lv_has ls 6 [(0, .ref (rA o a0)), (1, .int (J x4)), (2, .int (J x76))] → W p l e rm_X11_run s m args below meth c H locs 0 0 Qf (F0 m 85 ls []) := by
              intro x76 M77 hcK78 H locs hG ls hl
              have h := hK78 x76 M77 hcK78
              refine lv_aload_n hx hb dX11_run_85 rfl (lv_at hl 0 rfl) ?_
              refine lv_iconst (v := J (-1)) hx hb dX11_run_86 (by decide) ?_
              refine j_puti hx hb hts hown hK hG (k := a0) (fun w h => List.mem_cons_of_mem _ (u_X11 w h)) tyX11 tyX11_ok nmX11 (ci := 10) rfl ka0 14 (by decide) (jz := 14) rfl w_fl_RX11_35 (hd := rfl) (hn := rfl) (hfit := rfl) (hdg := dX11_run_87) (fun M79 eM79 H locs hG => ?_)
              have h := h M79 eM79
              refine j_iinc hx hb dX11_run_90 hl (k := 1) rfl (by decide) (fun x80 ex80 ls hl => ?_)
              have h := h x80 ex80
              have hl : lv_has ls 6 [(1, .int (J x80)), (0, .ref (rA o a0)), (2, .int (J x76))] := hl
              refine lv_aload_n hx hb dX11_run_93 rfl (lv_at hl 1 rfl) ?_
              refine j_geti hx hb hts hown hK hG (k := a0) (fun w h => List.mem_cons_of_mem _ (u_X11 w h)) (ci := 10) rfl ka0 9 (by decide) (jz := 9) rfl w_fl_RX11_286 dX11_run_94 ?_
              refine lv_aload_n hx hb dX11_run_97 rfl (lv_at hl 1 rfl) ?_
              refine j_geti hx hb hts hown hK hG (k := a0) (fun w h => List.mem_cons_of_mem _ (u_X11 w h)) (ci := 10) rfl ka0 8 (by decide) (jz := 8) rfl w_fl_RX11_283 dX11_run_98 ?_
              obtain ⟨hg, h⟩ := h
              have jK85 : ∀ x84 : Int, x84 = b2i (M79 a0 9 < M79 a0 8) → ∀ (H : Heap) (locs : List Loc), GM D cy o M79 s.heap H locs → ∀ ls : Array Slot, lv_has ls 6 [(0, .ref (rA o a0)), (1, .int (J x80)), (2, .int (J x76))] → W p l e rm_X11_run s m args below meth c H locs 0 0 Qf (F0 m 109 ls [.int (J x84)]) := by
                intro x84 ex84 H locs hG ls hl
                subst ex84
                refine lv_istore_n (lv' := [(3, .int (J (b2i (M79 a0 9 < M79 a0 8)))), (0, .ref (rA o a0)), (1, .int (J x80)), (2, .int (J x76))]) hx hb dX11_run_109 rfl hl (by decide) rfl (fun ls hl => ?_)
                refine lv_goto (tgt := 15) hx hb dX11_run_110 (by decide) ?_
                obtain ⟨n89, ln89, iI8⟩ := h
                exact rI8 n89 ln89 x80 x76 (b2i (M79 a0 9 < M79 a0 8)) M79 iI8 H locs hG ls (lv_sub hl [1, 2, 3, 0] rfl)
              have h := hg
              obtain ⟨g87, h⟩ := h
              obtain ⟨g88, h⟩ := h
              refine j_icmp_ge (tgt := 108) hx hb dX11_run_101 (by decide) g87 g88 (fun c86 => ?_) (fun c86 => ?_)
              · have h := h.1 c86
                refine lv_iconst (v := J 0) hx hb dX11_run_108 (by decide) ?_
                exact jK85 0 (b2i_iff0 (iff_of_false (show ¬ (M79 a0 9 < M79 a0 8) from by omega) id)) H locs hG ls (lv_sub hl [1, 0, 2] rfl)
              · have h := h.2 c86
                refine lv_iconst (v := J 1) hx hb dX11_run_104 (by decide) ?_
                refine lv_goto (tgt := 109) hx hb dX11_run_105 (by decide) ?_
                exact jK85 1 (b2i_iff1 (iff_of_true c86 trivial)) H locs hG ls (lv_sub hl [1, 0, 2] rfl)
            obtain ⟨g91, h⟩ := h
            refine j_if_ge (tgt := 85) hx hb dX11_run_70 (by decide) g91 (fun c90 => ?_) (fun c90 => ?_)
            · have h := h.1 c90
              exact jK78 x5 M67 h H locs hG ls (lv_sub hl [2, 3, 4] rfl)
            · have h := h.2 c90
              refine lv_aload_n hx hb dX11_run_73 rfl (lv_at hl 2 rfl) ?_
              refine lv_iload hx hb dX11_run_74 (lv_at hl 0 rfl) ?_
              refine j_conti (va_runV (As := [.int (J z23)]) (rest := []) ⟨hx, hb, hml, hown, hts⟩ (A_X11_does l ka0 h) (cwV 1 hts (gj_V ml_RX11_326 i_X11_does s_X11_does n_RX11 k_X11_does) rfl rfl rfl (by decide +kernel) ⟨by exact Nat.le_of_ble_eq_true rfl, by exact Nat.le_of_ble_eq_true rfl⟩) (j_preV hK hSX hG (ci := 10) rfl ka0 (by decide)) rfl rfl hl.1 rfl (lv_room (Nat.le_of_ble_eq_true rfl)) dX11_run_76 ⟨by exact Nat.le_of_ble_eq_true rfl, by exact Nat.le_of_ble_eq_true rfl⟩) hG (c2 := 0) (s2 := 0) ⟨by exact Nat.le_of_ble_eq_true rfl, by exact Nat.le_of_ble_eq_true rfl⟩ (fun z92 M93 h H locs hG => ?_)
              obtain ⟨g95, h⟩ := h
              refine j_if_ge (tgt := 85) hx hb dX11_run_79 (by decide) g95 (fun c94 => ?_) (fun c94 => ?_)
              · have h := h.1 c94
                exact jK78 x5 M93 h H locs hG ls (lv_sub hl [2, 3, 4] rfl)
              · have h := h.2 c94
                refine lv_iload hx hb dX11_run_82 (lv_at hl 1 rfl) ?_
                refine lv_istore_n (lv' := [(2, .int (J x22)), (5, .int (J z23)), (4, .int (J x22)), (0, .ref (rA o a0)), (1, .int (J x4)), (3, .int (J x6))]) hx hb dX11_run_84 rfl hl (by decide) rfl (fun ls hl => ?_)
                exact jK78 x22 M93 h H locs hG ls (lv_sub hl [3, 4, 0] rfl)
          · have h := h.2 c68
            exact jK58 M67 h H locs hG ls (lv_sub hl [2] rfl)
  exact lI8 n9s 0 ((-1)) 1 M3 iI8 H locs hG ls (lv_sub hl [3, 2, 1, 0] rfl)
abbrev rm_X11_drift : Room := { frames := 10, cells := 0, slots := 0, locals := 241 }
set_option maxRecDepth 100000 in
set_option maxHeartbeats 4000000 in
theorem A_X11_drift (l : Launch) {D : va_G} {cy : Nat → ClassId} {o : Nat} {sK sV : Nat → Nat} {M : jT} {a0 : Int} {a1 : Int} {a2 : Int} (ka0 : kd a0 = 11) {Q : Int → jT → Prop} (h : wp_X11_drift M a0 a1 a2 Q) : CoI l yX11_drift (wj yX11_drift cX11_drift 6 (some .int)) rm_X11_drift D cy o sK sV M [.ref (rA o a0), .int (J a1), .int (J a2)] Q := by
  refine j_ofW (cc := cX11_drift) (maxL := 6) (ret := (some .int)) (by decide) rfl (Nat.le_of_ble_eq_true rfl) ?_
  intro p e s m args below meth c hx hb hr hlocks hml hown hts hK hSX H locs hG ls hl Qf hQf
  have hown : s.vm.findClass RX11 = some m.cls := hown
  have hl : lv_has ls 6 [(0, .ref (rA o a0)), (1, .int (J a1)), (2, .int (J a2))] := hl
  have w_fl_RX11_80 := hts _ (List.mem_cons_of_mem _ fl_RX11_80)
  have w_fl_RX11_268 := hts _ (List.mem_cons_of_mem _ fl_RX11_268)
  have w_fl_RX11_77 := hts _ (List.mem_cons_of_mem _ fl_RX11_77)
  have w_fl_RX11_74 := hts _ (List.mem_cons_of_mem _ fl_RX11_74)
  unfold wp_X11_drift at h
  refine lv_aload_n hx hb dX11_drift_0 rfl (lv_at hl 0 rfl) ?_
  refine lv_iconst (v := J 0) hx hb dX11_drift_1 (by decide) ?_
  refine j_puti hx hb hts hown hK hG (k := a0) (fun w h => List.mem_cons_of_mem _ (u_X11 w h)) tyX11 tyX11_ok nmX11 (ci := 10) rfl ka0 0 (by decide) (jz := 0) rfl w_fl_RX11_80 (hd := rfl) (hn := rfl) (hfit := rfl) (hdg := dX11_drift_2) (fun M1 eM1 H locs hG => ?_)
  have h := h M1 eM1
  refine lv_aload_n hx hb dX11_drift_5 rfl (lv_at hl 0 rfl) ?_
  refine lv_iload_n hx hb dX11_drift_6 rfl (lv_at hl 1 rfl) ?_
  obtain ⟨g2, h⟩ := h
  refine j_conti (va_runV (As := [.int (J a1)]) (rest := []) ⟨hx, hb, hml, hown, hts⟩ (A_X11_isMeeting l ka0 g2) (cwV 1 hts (gj_V ml_RX11_238 i_X11_isMeeting s_X11_isMeeting n_RX11 k_X11_isMeeting) rfl rfl rfl (by decide +kernel) ⟨by exact Nat.le_of_ble_eq_true rfl, by exact Nat.le_of_ble_eq_true rfl⟩) (j_preV hK hSX hG (ci := 10) rfl ka0 (by decide)) rfl rfl hl.1 rfl (lv_room (Nat.le_of_ble_eq_true rfl)) dX11_drift_7 ⟨by exact Nat.le_of_ble_eq_true rfl, by exact Nat.le_of_ble_eq_true rfl⟩) hG (c2 := 0) (s2 := 0) ⟨by exact Nat.le_of_ble_eq_true rfl, by exact Nat.le_of_ble_eq_true rfl⟩ (fun z3 M4 ez3 H locs hG => ?_)
  obtain ⟨ez3, eM4⟩ := ez3
  subst ez3
  rw [eM4] at hG
  obtain ⟨K55, hK55, h⟩ := h
  have jK55 : K55 → ∀ (H : Heap) (locs : List Loc), GM D cy o M1 s.heap H locs → ∀ ls : Array Slot, lv_has ls 6 [(0, .ref (rA o a0))] → W p l e rm_X11_drift s m args below meth c H locs 0 0 Qf (F0 m 21 ls []) := by
    intro hcK55 H locs hG ls hl
    have h := hK55 hcK55
    refine lv_aload_n hx hb dX11_drift_21 rfl (lv_at hl 0 rfl) ?_
    refine lv_iconst (v := J 1) hx hb dX11_drift_22 (by decide) ?_
    refine j_conti (va_runV (As := [.int (J 1)]) (rest := []) ⟨hx, hb, hml, hown, hts⟩ (A_X11_raises l ka0 h) (cwV 1 hts (gj_V ml_RX11_110 i_X11_raises s_X11_raises n_RX11 k_X11_raises) rfl rfl rfl (by decide +kernel) ⟨by exact Nat.le_of_ble_eq_true rfl, by exact Nat.le_of_ble_eq_true rfl⟩) (j_preV hK hSX hG (ci := 10) rfl ka0 (by decide)) rfl rfl hl.1 rfl (lv_room (Nat.le_of_ble_eq_true rfl)) dX11_drift_23 ⟨by exact Nat.le_of_ble_eq_true rfl, by exact Nat.le_of_ble_eq_true rfl⟩) hG (c2 := 0) (s2 := 0) ⟨by exact Nat.le_of_ble_eq_true rfl, by exact Nat.le_of_ble_eq_true rfl⟩ (fun z56 M57 h H locs hG => ?_)
    rw [hQf]
    exact j_ireti hx hb hr hlocks hG h (by decide) dX11_drift_26
  refine j_if_eq_b (tgt := 21) hx hb dX11_drift_10 (by decide) (fun c58 => ?_) (fun c58 => ?_)
  · have h := h.1 c58
    exact jK55 h H locs hG ls (lv_sub hl [0] rfl)
  · have h := h.2 c58
    refine lv_aload_n hx hb dX11_drift_13 rfl (lv_at hl 0 rfl) ?_
    refine lv_iload_n hx hb dX11_drift_14 rfl (lv_at hl 2 rfl) ?_
    obtain ⟨g59, h⟩ := h
    refine j_conti (va_runV (As := [.int (J a2)]) (rest := []) ⟨hx, hb, hml, hown, hts⟩ (A_X11_isZone l ka0 g59) (cwV 1 hts (gj_V ml_RX11_126 i_X11_isZone s_X11_isZone n_RX11 k_X11_isZone) rfl rfl rfl (by decide +kernel) ⟨by exact Nat.le_of_ble_eq_true rfl, by exact Nat.le_of_ble_eq_true rfl⟩) (j_preV hK hSX hG (ci := 10) rfl ka0 (by decide)) rfl rfl hl.1 rfl (lv_room (Nat.le_of_ble_eq_true rfl)) dX11_drift_15 ⟨by exact Nat.le_of_ble_eq_true rfl, by exact Nat.le_of_ble_eq_true rfl⟩) hG (c2 := 0) (s2 := 0) ⟨by exact Nat.le_of_ble_eq_true rfl, by exact Nat.le_of_ble_eq_true rfl⟩ (fun z60 M61 ez60 H locs hG => ?_)
    obtain ⟨ez60, eM61⟩ := ez60
    subst ez60
    rw [eM61] at hG
    refine j_if_ne_b (tgt := 27) hx hb dX11_drift_18 (by decide) (fun c62 => ?_) (fun c62 => ?_)
    · have h := h.1 c62
      refine lv_aload_n hx hb dX11_drift_27 rfl (lv_at hl 0 rfl) ?_
      refine lv_iconst (v := J 0) hx hb dX11_drift_28 (by decide) ?_
      refine j_puti hx hb hts hown hK hG (k := a0) (fun w h => List.mem_cons_of_mem _ (u_X11 w h)) tyX11 tyX11_ok nmX11 (ci := 10) rfl ka0 36 (by decide) (jz := 36) rfl w_fl_RX11_268 (hd := rfl) (hn := rfl) (hfit := rfl) (hdg := dX11_drift_29) (fun M63 eM63 H locs hG => ?_)
      have h := h M63 eM63
      refine lv_aload_n hx hb dX11_drift_32 rfl (lv_at hl 0 rfl) ?_
      refine lv_iload_n hx hb dX11_drift_33 rfl (lv_at hl 1 rfl) ?_
      refine lv_sipush (v := J (-2000)) hx hb dX11_drift_34 (by decide) ?_
      refine j_contv (va_runV (As := [.int (J a1), .int (J ((-2000)))]) (rest := []) ⟨hx, hb, hml, hown, hts⟩ (A_X11_enters l ka0 h) (cwV 2 hts (gj_V ml_RX11_271 i_X11_enters s_X11_enters n_RX11 k_X11_enters) rfl rfl rfl (by decide +kernel) ⟨by exact Nat.le_of_ble_eq_true rfl, by exact Nat.le_of_ble_eq_true rfl⟩) (j_preV hK hSX hG (ci := 10) rfl ka0 (by decide)) rfl rfl hl.1 rfl (lv_room (Nat.le_of_ble_eq_true rfl)) dX11_drift_37 ⟨by exact Nat.le_of_ble_eq_true rfl, by exact Nat.le_of_ble_eq_true rfl⟩) hG (c2 := 0) (s2 := 0) ⟨by exact Nat.le_of_ble_eq_true rfl, by exact Nat.le_of_ble_eq_true rfl⟩ (fun M65 h H locs hG => ?_)
      refine lv_iconst (v := J 0) hx hb dX11_drift_40 (by decide) ?_
      refine lv_istore_n (lv' := [(3, .int (J 0)), (0, .ref (rA o a0)), (1, .int (J a1)), (2, .int (J a2))]) hx hb dX11_drift_41 rfl hl (by decide) rfl (fun ls hl => ?_)
      refine lv_iconst (v := J 0) hx hb dX11_drift_42 (by decide) ?_
      refine lv_istore (lv' := [(4, .int (J 0)), (3, .int (J 0)), (0, .ref (rA o a0)), (1, .int (J a1)), (2, .int (J a2))]) hx hb dX11_drift_43 hl (by decide) rfl (fun ls hl => ?_)
      obtain ⟨I68, ⟨n69s, iI68⟩, qI68⟩ := h
      have lI68 : ∀ (n69 : Nat) (x66 : Int) (M67 : jT), I68 n69 x66 M67 → ∀ (H : Heap) (locs : List Loc), GM D cy o M67 s.heap H locs → ∀ ls : Array Slot, lv_has ls 6 [(0, .ref (rA o a0)), (2, .int (J a2)), (3, .int (J 0)), (4, .int (J x66))] → W p l e rm_X11_drift s m args below meth c H locs 0 0 Qf (F0 m 45 ls []) := by
        intro n69
        induction n69 using Nat.strongRecOn with
        | ind n69 rI68 =>
          intro x66 M67 iI68 H locs hG ls hl
          have h := qI68 n69 x66 M67 iI68
          refine lv_iload hx hb dX11_drift_45 (lv_at hl 3 rfl) ?_
          refine lv_aload_n hx hb dX11_drift_47 rfl (lv_at hl 0 rfl) ?_
          refine j_geti hx hb hts hown hK hG (k := a0) (fun w h => List.mem_cons_of_mem _ (u_X11 w h)) (ci := 10) rfl ka0 36 (by decide) (jz := 36) rfl w_fl_RX11_268 dX11_drift_48 ?_
          obtain ⟨g71, h⟩ := h
          obtain ⟨g72, h⟩ := h
          refine j_icmp_ge (tgt := 93) hx hb dX11_drift_51 (by decide) g71 g72 (fun c70 => ?_) (fun c70 => ?_)
          · have h := h.1 c70
            refine lv_iconst (v := J 0) hx hb dX11_drift_93 (by decide) ?_
            refine lv_istore (lv' := [(4, .int (J 0)), (0, .ref (rA o a0)), (2, .int (J a2)), (3, .int (J 0))]) hx hb dX11_drift_94 hl (by decide) rfl (fun ls hl => ?_)
            obtain ⟨I75, ⟨n76s, iI75⟩, qI75⟩ := h
            have lI75 : ∀ (n76 : Nat) (x73 : Int) (x74 : Int), I75 n76 x73 x74 → ∀ (H : Heap) (locs : List Loc), GM D cy o M67 s.heap H locs → ∀ ls : Array Slot, lv_has ls 6 [(0, .ref (rA o a0)), (3, .int (J x73)), (4, .int (J x74))] → W p l e rm_X11_drift s m args below meth c H locs 0 0 Qf (F0 m 96 ls []) := by
              intro n76
              induction n76 using Nat.strongRecOn with
              | ind n76 rI75 =>
                intro x73 x74 iI75 H locs hG ls hl
                have h := qI75 n76 x73 x74 iI75
                refine lv_iload hx hb dX11_drift_96 (lv_at hl 2 rfl) ?_
                refine lv_aload_n hx hb dX11_drift_98 rfl (lv_at hl 0 rfl) ?_
                refine j_geti hx hb hts hown hK hG (k := a0) (fun w h => List.mem_cons_of_mem _ (u_X11 w h)) (ci := 10) rfl ka0 36 (by decide) (jz := 36) rfl w_fl_RX11_268 dX11_drift_99 ?_
                obtain ⟨g78, h⟩ := h
                refine j_icmp_ge (tgt := 147) hx hb dX11_drift_102 (by decide) g78 g72 (fun c77 => ?_) (fun c77 => ?_)
                · have h := h.1 c77
                  refine lv_iload_n hx hb dX11_drift_147 rfl (lv_at hl 1 rfl) ?_
                  rw [hQf]
                  exact j_ireti hx hb hr hlocks hG h (by decide) dX11_drift_148
                · have h := h.2 c77
                  refine lv_iconst (v := J 0) hx hb dX11_drift_105 (by decide) ?_
                  refine lv_istore (lv' := [(5, .int (J 0)), (0, .ref (rA o a0)), (3, .int (J x73)), (4, .int (J x74))]) hx hb dX11_drift_106 hl (by decide) rfl (fun ls hl => ?_)
                  obtain ⟨I80, ⟨n81s, iI80⟩, qI80⟩ := h
                  have lI80 : ∀ (n81 : Nat) (x79 : Int), I80 n81 x79 → ∀ (H : Heap) (locs : List Loc), GM D cy o M67 s.heap H locs → ∀ ls : Array Slot, lv_has ls 6 [(0, .ref (rA o a0)), (3, .int (J x73)), (4, .int (J x74)), (5, .int (J x79))] → W p l e rm_X11_drift s m args below meth c H locs 0 0 Qf (F0 m 108 ls []) := by
                    intro n81
                    induction n81 using Nat.strongRecOn with
                    | ind n81 rI80 =>
                      intro x79 iI80 H locs hG ls hl
                      have h := qI80 n81 x79 iI80
                      refine lv_aload_n hx hb dX11_drift_108 rfl (lv_at hl 0 rfl) ?_
                      refine j_getr hx hb hts hown hK hG (k := a0) (fun w h => List.mem_cons_of_mem _ (u_X11 w h)) (ci := 10) rfl ka0 35 (k2 := a0 + 21) (by decide) (by show a0 + (21 : Int) = a0 + 21; omega) w_fl_RX11_77 dX11_drift_109 ?_
                      refine lv_iload hx hb dX11_drift_112 (lv_at hl 3 rfl) ?_
                      obtain ⟨g82, h⟩ := h
                      refine j_iald hx hb hK hG (n := 400) (kf_11_35 ka0) (by decide) g82 dX11_drift_114 ?_
                      refine lv_aload_n hx hb dX11_drift_115 rfl (lv_at hl 0 rfl) ?_
                      refine j_getr hx hb hts hown hK hG (k := a0) (fun w h => List.mem_cons_of_mem _ (u_X11 w h)) (ci := 10) rfl ka0 35 (k2 := a0 + 21) (by decide) (by show a0 + (21 : Int) = a0 + 21; omega) w_fl_RX11_77 dX11_drift_116 ?_
                      refine lv_iload hx hb dX11_drift_119 (lv_at hl 2 rfl) ?_
                      obtain ⟨g83, h⟩ := h
                      refine j_iald hx hb hK hG (n := 400) (kf_11_35 ka0) (by decide) g83 dX11_drift_121 ?_
                      obtain ⟨g85, h⟩ := h
                      obtain ⟨g86, h⟩ := h
                      refine j_icmp_eq (tgt := 131) hx hb dX11_drift_122 (by decide) g85 g86 (fun c84 => ?_) (fun c84 => ?_)
                      · have h := h.1 c84
                        refine lv_iload hx hb dX11_drift_131 (lv_at hl 3 rfl) ?_
                        refine lv_iload hx hb dX11_drift_133 (lv_at hl 2 rfl) ?_
                        obtain ⟨hg, h⟩ := h
                        have jK91 : ∀ x90 : Int, (x79 ≠ x74 → x90 = x73) → (x79 = x74 → x90 = x73 + 1) → ∀ (H : Heap) (locs : List Loc), GM D cy o M67 s.heap H locs → ∀ ls : Array Slot, lv_has ls 6 [(0, .ref (rA o a0)), (3, .int (J x90)), (4, .int (J x74))] → W p l e rm_X11_drift s m args below meth c H locs 0 0 Qf (F0 m 141 ls []) := by
                          intro x90 qx90_0 qx90_1 H locs hG ls hl
                          have h := h x90 qx90_0 qx90_1
                          refine j_iinc hx hb dX11_drift_141 hl (k := 2) rfl (by decide) (fun x95 ex95 ls hl => ?_)
                          have h := h x95 ex95
                          have hl : lv_has ls 6 [(4, .int (J x95)), (0, .ref (rA o a0)), (3, .int (J x90))] := hl
                          refine lv_goto (tgt := 96) hx hb dX11_drift_144 (by decide) ?_
                          obtain ⟨n96, ln96, iI75⟩ := h
                          exact rI75 n96 ln96 x90 x95 iI75 H locs hG ls (lv_sub hl [1, 2, 0] rfl)
                        have h := hg
                        obtain ⟨g93, h⟩ := h
                        refine j_icmp_ne (tgt := 141) hx hb dX11_drift_135 (by decide) g93 g78 (fun c92 => ?_) (fun c92 => ?_)
                        · have h := h.1 c92
                          exact jK91 x73 (fun _ => rfl) (fun q => absurd q (by omega)) H locs hG ls (lv_sub hl [0, 1, 2] rfl)
                        · have h := h.2 c92
                          refine j_iinc hx hb dX11_drift_138 hl (k := 1) rfl (by decide) (fun x94 ex94 ls hl => ?_)
                          subst ex94
                          have hl : lv_has ls 6 [(3, .int (J (x73 + 1))), (0, .ref (rA o a0)), (4, .int (J x74)), (5, .int (J x79))] := hl
                          exact jK91 (x73 + 1) (fun q => absurd q (by omega)) (fun _ => rfl) H locs hG ls (lv_sub hl [1, 0, 2] rfl)
                      · have h := h.2 c84
                        refine j_iinc hx hb dX11_drift_125 hl (k := 3) rfl (by decide) (fun x97 ex97 ls hl => ?_)
                        have h := h x97 ex97
                        have hl : lv_has ls 6 [(5, .int (J x97)), (0, .ref (rA o a0)), (3, .int (J x73)), (4, .int (J x74))] := hl
                        refine lv_goto (tgt := 108) hx hb dX11_drift_128 (by decide) ?_
                        obtain ⟨n98, ln98, iI80⟩ := h
                        exact rI80 n98 ln98 x97 iI80 H locs hG ls (lv_sub hl [1, 2, 3, 0] rfl)
                  exact lI80 n81s 0 iI80 H locs hG ls (lv_sub hl [1, 2, 3, 0] rfl)
            exact lI75 n76s 0 0 iI75 H locs hG ls (lv_sub hl [1, 3, 0] rfl)
          · have h := h.2 c70
            refine lv_aload_n hx hb dX11_drift_54 rfl (lv_at hl 0 rfl) ?_
            refine j_getr hx hb hts hown hK hG (k := a0) (fun w h => List.mem_cons_of_mem _ (u_X11 w h)) (ci := 10) rfl ka0 35 (k2 := a0 + 21) (by decide) (by show a0 + (21 : Int) = a0 + 21; omega) w_fl_RX11_77 dX11_drift_55 ?_
            refine lv_iload hx hb dX11_drift_58 (lv_at hl 3 rfl) ?_
            refine lv_aload_n hx hb dX11_drift_60 rfl (lv_at hl 0 rfl) ?_
            refine j_getr hx hb hts hown hK hG (k := a0) (fun w h => List.mem_cons_of_mem _ (u_X11 w h)) (ci := 10) rfl ka0 34 (k2 := a0 + 20) (by decide) (by show a0 + (20 : Int) = a0 + 20; omega) w_fl_RX11_74 dX11_drift_61 ?_
            refine lv_iload hx hb dX11_drift_64 (lv_at hl 3 rfl) ?_
            obtain ⟨g99, h⟩ := h
            refine j_iald hx hb hK hG (n := 400) (kf_11_34 ka0) (by decide) g99 dX11_drift_66 ?_
            refine lv_aload_n hx hb dX11_drift_67 rfl (lv_at hl 0 rfl) ?_
            refine lv_iload_n hx hb dX11_drift_68 rfl (lv_at hl 1 rfl) ?_
            refine lv_aload_n hx hb dX11_drift_69 rfl (lv_at hl 0 rfl) ?_
            refine j_getr hx hb hts hown hK hG (k := a0) (fun w h => List.mem_cons_of_mem _ (u_X11 w h)) (ci := 10) rfl ka0 34 (k2 := a0 + 20) (by decide) (by show a0 + (20 : Int) = a0 + 20; omega) w_fl_RX11_74 dX11_drift_70 ?_
            refine lv_iload hx hb dX11_drift_73 (lv_at hl 3 rfl) ?_
            refine j_iald hx hb hK hG (n := 400) (kf_11_34 ka0) (by decide) g99 dX11_drift_75 ?_
            refine j_conti (va_runV (As := [.int (J a2), .int (J (M67 (a0 + 20) x66))]) (rest := [.int (J (M67 (a0 + 20) x66)), .int (J x66), .ref (rA o (a0 + 21))]) ⟨hx, hb, hml, hown, hts⟩ (A_X11_offsetAt l ka0 h) (cwV 2 hts (gj_V ml_RX11_206 i_X11_offsetAt s_X11_offsetAt n_RX11 k_X11_offsetAt) rfl rfl rfl (by decide +kernel) ⟨by exact Nat.le_of_ble_eq_true rfl, by exact Nat.le_of_ble_eq_true rfl⟩) (j_preV hK hSX hG (ci := 10) rfl ka0 (by decide)) rfl rfl hl.1 rfl (lv_room (Nat.le_of_ble_eq_true rfl)) dX11_drift_76 ⟨by exact Nat.le_of_ble_eq_true rfl, by exact Nat.le_of_ble_eq_true rfl⟩) hG (c2 := 0) (s2 := 0) ⟨by exact Nat.le_of_ble_eq_true rfl, by exact Nat.le_of_ble_eq_true rfl⟩ (fun z100 M101 h H locs hG => ?_)
            refine j_iadd hx hb dX11_drift_79 ?_
            refine lv_sipush (v := J 1440) hx hb dX11_drift_80 (by decide) ?_
            obtain ⟨g102, h⟩ := h
            refine j_conti (va_runS (As := [.int (J ((M67 (a0 + 20) x66) + z100)), .int (J 1440)]) (rest := [.int (J x66), .ref (rA o (a0 + 21))]) ⟨hx, hb, hml, hown, hts⟩ (A_J9_floorMod l g102 (by decide)) (va_cwS 2 hts (gj_S ml_RX11_280 i_J9_floorMod_7cf53 n_RJ9 k_J9_floorMod_7cf53) rfl rfl rfl (by decide +kernel) ⟨by exact Nat.le_of_ble_eq_true rfl, by exact Nat.le_of_ble_eq_true rfl⟩) (j_preS hK hSX hG) rfl rfl hl.1 rfl (lv_room (Nat.le_of_ble_eq_true rfl)) dX11_drift_83 ⟨by exact Nat.le_of_ble_eq_true rfl, by exact Nat.le_of_ble_eq_true rfl⟩) hG (c2 := 0) (s2 := 0) ⟨by exact Nat.le_of_ble_eq_true rfl, by exact Nat.le_of_ble_eq_true rfl⟩ (fun z103 M104 ez103 H locs hG => ?_)
            obtain ⟨ez103, eM104⟩ := ez103
            subst ez103
            rw [eM104] at hG
            refine j_iast hx hb hK hG (n := 400) (kf_11_35 ka0) (by decide) g99 dX11_drift_86 (fun M105 eM105 H locs hG => ?_)
            have h := h M105 eM105
            refine j_iinc hx hb dX11_drift_87 hl (k := 3) rfl (by decide) (fun x106 ex106 ls hl => ?_)
            have h := h x106 ex106
            have hl : lv_has ls 6 [(4, .int (J x106)), (0, .ref (rA o a0)), (2, .int (J a2)), (3, .int (J 0))] := hl
            refine lv_goto (tgt := 45) hx hb dX11_drift_90 (by decide) ?_
            obtain ⟨n107, ln107, iI68⟩ := h
            exact rI68 n107 ln107 x106 M105 iI68 H locs hG ls (lv_sub hl [1, 2, 3, 0] rfl)
      exact lI68 n69s 0 M65 iI68 H locs hG ls (lv_sub hl [2, 4, 1, 0] rfl)
    · have h := h.2 c62
      exact jK55 h H locs hG ls (lv_sub hl [0] rfl)
abbrev rom_X10_drift : Room := { frames := 5, cells := 0, slots := 0, locals := 121 }
set_option maxRecDepth 100000 in
set_option maxHeartbeats 4000000 in
theorem Ao_X10_drift (l : Launch) {D : va_G} {cy : Nat → ClassId} {o : Nat} {sK sV : Nat → Nat} {M : jT} {a0 : Int} {a1 : Int} {a2 : Int} (ka0 : kd a0 = 10) {Q : Int → jT → Prop} (h : wo_X10_drift M a0 a1 a2 Q) : CoI l yX10_drift (wj yX10_drift cX10_drift 9 (some .int)) rom_X10_drift D cy o sK sV M [.ref (rA o a0), .int (J a1), .int (J a2)] Q := by
  refine j_ofW (cc := cX10_drift) (maxL := 9) (ret := (some .int)) (by decide) rfl (Nat.le_of_ble_eq_true rfl) ?_
  intro p e s m args below meth c hx hb hr hlocks hml hown hts hK hSX H locs hG ls hl Qf hQf
  have hown : s.vm.findClass RX10 = some m.cls := hown
  have hl : lv_has ls 9 [(0, .ref (rA o a0)), (1, .int (J a1)), (2, .int (J a2))] := hl
  have w_fl_RX10_12 := hts _ (List.mem_cons_of_mem _ fl_RX10_12)
  have w_fl_RX10_269 := hts _ (List.mem_cons_of_mem _ fl_RX10_269)
  have w_fl_RX10_295 := hts _ (List.mem_cons_of_mem _ fl_RX10_295)
  have w_fl_RX10_359 := hts _ (List.mem_cons_of_mem _ fl_RX10_359)
  have w_fl_RX10_62 := hts _ (List.mem_cons_of_mem _ fl_RX10_62)
  unfold wo_X10_drift at h
  refine lv_aload_n hx hb dX10_drift_0 rfl (lv_at hl 0 rfl) ?_
  refine lv_iload_n hx hb dX10_drift_1 rfl (lv_at hl 1 rfl) ?_
  refine j_contv (va_runV (As := [.int (J a1)]) (rest := []) ⟨hx, hb, hml, hown, hts⟩ (Ao_X10_needMeeting l ka0 h) (cwV 1 hts (gj_V ml_RX10_281 i_X10_needMeeting s_X10_needMeeting n_RX10 k_X10_needMeeting) rfl rfl rfl (by decide +kernel) ⟨by exact Nat.le_of_ble_eq_true rfl, by exact Nat.le_of_ble_eq_true rfl⟩) (j_preV hK hSX hG (ci := 9) rfl ka0 (by decide)) rfl rfl hl.1 rfl (lv_room (Nat.le_of_ble_eq_true rfl)) dX10_drift_2 ⟨by exact Nat.le_of_ble_eq_true rfl, by exact Nat.le_of_ble_eq_true rfl⟩) hG (c2 := 0) (s2 := 0) ⟨by exact Nat.le_of_ble_eq_true rfl, by exact Nat.le_of_ble_eq_true rfl⟩ (fun M2 h H locs hG => ?_)
  obtain ⟨h, eM2⟩ := h
  rw [eM2] at hG
  refine lv_aload_n hx hb dX10_drift_5 rfl (lv_at hl 0 rfl) ?_
  refine lv_iload_n hx hb dX10_drift_6 rfl (lv_at hl 2 rfl) ?_
  refine j_contv (va_runV (As := [.int (J a2)]) (rest := []) ⟨hx, hb, hml, hown, hts⟩ (Ao_X10_needZone l ka0 h) (cwV 1 hts (gj_V ml_RX10_137 i_X10_needZone s_X10_needZone n_RX10 k_X10_needZone) rfl rfl rfl (by decide +kernel) ⟨by exact Nat.le_of_ble_eq_true rfl, by exact Nat.le_of_ble_eq_true rfl⟩) (j_preV hK hSX hG (ci := 9) rfl ka0 (by decide)) rfl rfl hl.1 rfl (lv_room (Nat.le_of_ble_eq_true rfl)) dX10_drift_7 ⟨by exact Nat.le_of_ble_eq_true rfl, by exact Nat.le_of_ble_eq_true rfl⟩) hG (c2 := 0) (s2 := 0) ⟨by exact Nat.le_of_ble_eq_true rfl, by exact Nat.le_of_ble_eq_true rfl⟩ (fun M4 h H locs hG => ?_)
  obtain ⟨h, eM4⟩ := h
  rw [eM4] at hG
  refine lv_aload_n hx hb dX10_drift_10 rfl (lv_at hl 0 rfl) ?_
  refine j_getr hx hb hts hown hK hG (k := a0) (fun w h => List.mem_cons_of_mem _ (u_X10 w h)) (ci := 9) rfl ka0 0 (k2 := a0 + 1) (by decide) (by show a0 + (1 : Int) = a0 + 1; omega) w_fl_RX10_12 dX10_drift_11 ?_
  refine j_getr hx hb hts hown hK hG (k := a0 + 1) (fun w h => List.mem_cons_of_mem _ (u_X0 w h)) (ci := 0) rfl (kf_10_0 ka0) 3 (k2 := a0 + 3) (by decide) (by show (a0 + 1) + (2 : Int) = a0 + 3; omega) w_fl_RX10_269 dX10_drift_14 ?_
  refine lv_iload_n hx hb dX10_drift_17 rfl (lv_at hl 1 rfl) ?_
  obtain ⟨g5, h⟩ := h
  refine j_aald hx hb hK hG (t := 21) (t0 := 4) (k2 := a0 + 2 * a1 + 28) (show kd (a0 + 3) = 21 from (show (a0 + 1) + 2 = a0 + 3 from by omega) ▸ (kf_1_3 (kf_10_0 ka0))) (by decide) rfl g5 (by simp only [ra_21]; omega) dX10_drift_18 ?_
  have k6 : kd (a0 + 2 * a1 + 28) = 4 := by have q9 := (ka_21 (show kd (a0 + 3) = 21 from (show (a0 + 1) + 2 = a0 + 3 from by omega) ▸ (kf_1_3 (kf_10_0 ka0))) g5); rwa [show (a0 + 3) + 25 + 2 * a1 = a0 + 2 * a1 + 28 from by omega] at q9
  refine lv_astore_n (lv' := [(3, .ref (rA o (a0 + 2 * a1 + 28))), (0, .ref (rA o a0)), (1, .int (J a1)), (2, .int (J a2))]) hx hb dX10_drift_19 rfl hl (by decide) rfl (fun ls hl => ?_)
  refine lv_aload_n hx hb dX10_drift_20 rfl (lv_at hl 1 rfl) ?_
  refine lv_iload_n hx hb dX10_drift_21 rfl (lv_at hl 2 rfl) ?_
  refine j_contr (va_runV (As := [.int (J a1)]) (rest := []) ⟨hx, hb, hml, hown, hts⟩ (A_X10_timed l ka0 h) (cwV 1 hts (gj_V ml_RX10_335 i_X10_timed s_X10_timed n_RX10 k_X10_timed) rfl rfl rfl (by decide +kernel) ⟨by exact Nat.le_of_ble_eq_true rfl, by exact Nat.le_of_ble_eq_true rfl⟩) (j_preV hK hSX hG (ci := 9) rfl ka0 (by decide)) rfl rfl hl.1 rfl (lv_room (Nat.le_of_ble_eq_true rfl)) dX10_drift_22 ⟨by exact Nat.le_of_ble_eq_true rfl, by exact Nat.le_of_ble_eq_true rfl⟩) hG (c2 := 0) (s2 := 0) ⟨by exact Nat.le_of_ble_eq_true rfl, by exact Nat.le_of_ble_eq_true rfl⟩ (fun k7 M8 h hk7 H locs hG => ?_)
  refine lv_astore (lv' := [(4, .ref (rA o k7)), (3, .ref (rA o (a0 + 2 * a1 + 28))), (0, .ref (rA o a0)), (1, .int (J a1)), (2, .int (J a2))]) hx hb dX10_drift_25 hl (by decide) rfl (fun ls hl => ?_)
  refine lv_aload_n hx hb dX10_drift_27 rfl (lv_at hl 2 rfl) ?_
  refine lv_iload_n hx hb dX10_drift_28 rfl (lv_at hl 4 rfl) ?_
  refine j_contr (va_runV (As := [.int (J a2)]) (rest := []) ⟨hx, hb, hml, hown, hts⟩ (A_X10_compiled l ka0 h) (cwV 1 hts (gj_V ml_RX10_144 i_X10_compiled s_X10_compiled n_RX10 k_X10_compiled) rfl rfl rfl (by decide +kernel) ⟨by exact Nat.le_of_ble_eq_true rfl, by exact Nat.le_of_ble_eq_true rfl⟩) (j_preV hK hSX hG (ci := 9) rfl ka0 (by decide)) rfl rfl hl.1 rfl (lv_room (Nat.le_of_ble_eq_true rfl)) dX10_drift_29 ⟨by exact Nat.le_of_ble_eq_true rfl, by exact Nat.le_of_ble_eq_true rfl⟩) hG (c2 := 0) (s2 := 0) ⟨by exact Nat.le_of_ble_eq_true rfl, by exact Nat.le_of_ble_eq_true rfl⟩ (fun k9 M10 h hk9 H locs hG => ?_)
  refine lv_astore (lv' := [(5, .ref (rA o k9)), (4, .ref (rA o k7)), (3, .ref (rA o (a0 + 2 * a1 + 28))), (0, .ref (rA o a0)), (1, .int (J a1)), (2, .int (J a2))]) hx hb dX10_drift_32 hl (by decide) rfl (fun ls hl => ?_)
  refine lv_iconst (v := J 0) hx hb dX10_drift_34 (by decide) ?_
  refine lv_istore (lv' := [(6, .int (J 0)), (5, .ref (rA o k9)), (4, .ref (rA o k7)), (3, .ref (rA o (a0 + 2 * a1 + 28))), (0, .ref (rA o a0)), (1, .int (J a1)), (2, .int (J a2))]) hx hb dX10_drift_35 hl (by decide) rfl (fun ls hl => ?_)
  refine lv_iconst (v := J 0) hx hb dX10_drift_37 (by decide) ?_
  refine lv_istore (lv' := [(7, .int (J 0)), (6, .int (J 0)), (5, .ref (rA o k9)), (4, .ref (rA o k7)), (3, .ref (rA o (a0 + 2 * a1 + 28))), (0, .ref (rA o a0)), (1, .int (J a1)), (2, .int (J a2))]) hx hb dX10_drift_38 hl (by decide) rfl (fun ls hl => ?_)
  obtain ⟨I14, ⟨n15s, iI14⟩, qI14⟩ := h
  have lI14 : ∀ (n15 : Nat) (x11 : Int) (x12 : Int) (M13 : jT), I14 n15 x11 x12 M13 → ∀ (H : Heap) (locs : List Loc), GM D cy o M13 s.heap H locs → ∀ ls : Array Slot, lv_has ls 9 [(0, .ref (rA o a0)), (3, .ref (rA o (a0 + 2 * a1 + 28))), (4, .ref (rA o k7)), (5, .ref (rA o k9)), (6, .int (J x11)), (7, .int (J x12))] → W p l e rom_X10_drift s m args below meth c H locs 0 0 Qf (F0 m 40 ls []) := by
    intro n15
    induction n15 using Nat.strongRecOn with
    | ind n15 rI14 =>
      intro x11 x12 M13 iI14 H locs hG ls hl
      have h := qI14 n15 x11 x12 M13 iI14
      refine lv_iload hx hb dX10_drift_40 (lv_at hl 5 rfl) ?_
      refine lv_aload hx hb dX10_drift_42 (lv_at hl 2 rfl) ?_
      refine j_geti hx hb hts hown hK hG (k := k7) (fun w h => List.mem_cons_of_mem _ (u_X5 w h)) (ci := 4) rfl hk7 2 (by decide) (jz := 2) rfl w_fl_RX10_295 dX10_drift_44 ?_
      obtain ⟨g17, h⟩ := h
      obtain ⟨g18, h⟩ := h
      refine j_icmp_ge (tgt := 111) hx hb dX10_drift_47 (by decide) g17 g18 (fun c16 => ?_) (fun c16 => ?_)
      · have h := h.1 c16
        refine lv_iload hx hb dX10_drift_111 (lv_at hl 4 rfl) ?_
        rw [hQf]
        exact j_ireti hx hb hr hlocks hG h (by decide) dX10_drift_113
      · have h := h.2 c16
        refine lv_aload hx hb dX10_drift_50 (lv_at hl 2 rfl) ?_
        refine lv_aload_n hx hb dX10_drift_52 rfl (lv_at hl 1 rfl) ?_
        refine lv_iload hx hb dX10_drift_53 (lv_at hl 5 rfl) ?_
        obtain ⟨g19, h⟩ := h
        refine j_conti (va_runV (As := [.ref (rA o (a0 + 2 * a1 + 28)), .int (J x12)]) (rest := []) ⟨hx, hb, hml, hown, hts⟩ (A_X5_takesPlace l hk7 k6 g19) (cwV 2 hts (gj_V ml_RX10_355 i_X5_takesPlace s_X5_takesPlace n_RX5 k_X5_takesPlace) rfl rfl rfl (by decide +kernel) ⟨by exact Nat.le_of_ble_eq_true rfl, by exact Nat.le_of_ble_eq_true rfl⟩) (j_preV hK hSX hG (ci := 4) rfl hk7 (by decide)) rfl rfl hl.1 rfl (lv_room (Nat.le_of_ble_eq_true rfl)) dX10_drift_55 ⟨by exact Nat.le_of_ble_eq_true rfl, by exact Nat.le_of_ble_eq_true rfl⟩) hG (c2 := 0) (s2 := 0) ⟨by exact Nat.le_of_ble_eq_true rfl, by exact Nat.le_of_ble_eq_true rfl⟩ (fun z20 M21 ez20 H locs hG => ?_)
        obtain ⟨ez20, eM21⟩ := ez20
        subst ez20
        rw [eM21] at hG
        obtain ⟨K35, hK35, h⟩ := h
        have jK35 : ∀ (x33 : Int) (M34 : jT), K35 x33 M34 → ∀ (H : Heap) (locs : List Loc), GM D cy o M34 s.heap H locs → ∀ ls : Array Slot, lv_has ls 9 [(0, .ref (rA o a0)), (3, .ref (rA o (a0 + 2 * a1 + 28))), (4, .ref (rA o k7)), (5, .ref (rA o k9)), (6, .int (J x33)), (7, .int (J x12))] → W p l e rom_X10_drift s m args below meth c H locs 0 0 Qf (F0 m 105 ls []) := by
          intro x33 M34 hcK35 H locs hG ls hl
          have h := hK35 x33 M34 hcK35
          refine j_iinc hx hb dX10_drift_105 hl (k := 5) rfl (by decide) (fun x36 ex36 ls hl => ?_)
          have h := h x36 ex36
          have hl : lv_has ls 9 [(7, .int (J x36)), (0, .ref (rA o a0)), (3, .ref (rA o (a0 + 2 * a1 + 28))), (4, .ref (rA o k7)), (5, .ref (rA o k9)), (6, .int (J x33))] := hl
          refine lv_goto (tgt := 40) hx hb dX10_drift_108 (by decide) ?_
          obtain ⟨n37, ln37, iI14⟩ := h
          exact rI14 n37 ln37 x33 x36 M34 iI14 H locs hG ls (lv_sub hl [1, 2, 3, 4, 5, 0] rfl)
        refine j_if_eq_b (tgt := 105) hx hb dX10_drift_58 (by decide) (fun c38 => ?_) (fun c38 => ?_)
        · have h := h.1 c38
          exact jK35 x11 M13 h H locs hG ls (lv_sub hl [0, 1, 2, 3, 4, 5] rfl)
        · have h := h.2 c38
          refine lv_aload hx hb dX10_drift_61 (lv_at hl 2 rfl) ?_
          refine j_getr hx hb hts hown hK hG (k := k7) (fun w h => List.mem_cons_of_mem _ (u_X5 w h)) (ci := 4) rfl hk7 4 (k2 := k7 + 2) (by decide) (by show k7 + (2 : Int) = k7 + 2; omega) w_fl_RX10_359 dX10_drift_63 ?_
          refine lv_iload hx hb dX10_drift_66 (lv_at hl 5 rfl) ?_
          obtain ⟨g39, h⟩ := h
          refine j_iald hx hb hK hG (n := 40) (kf_5_4 hk7) (by decide) g39 dX10_drift_68 ?_
          refine lv_aload hx hb dX10_drift_69 (lv_at hl 3 rfl) ?_
          refine lv_aload hx hb dX10_drift_71 (lv_at hl 2 rfl) ?_
          refine j_getr hx hb hts hown hK hG (k := k7) (fun w h => List.mem_cons_of_mem _ (u_X5 w h)) (ci := 4) rfl hk7 4 (k2 := k7 + 2) (by decide) (by show k7 + (2 : Int) = k7 + 2; omega) w_fl_RX10_359 dX10_drift_73 ?_
          refine lv_iload hx hb dX10_drift_76 (lv_at hl 5 rfl) ?_
          refine j_iald hx hb hK hG (n := 40) (kf_5_4 hk7) (by decide) g39 dX10_drift_78 ?_
          refine j_conti (va_runV (As := [.int (J (M13 (k7 + 2) x12))]) (rest := [.int (J (M13 (k7 + 2) x12))]) ⟨hx, hb, hml, hown, hts⟩ (A_X7_offsetAt l hk9 h) (cwV 1 hts (gj_V ml_RX10_209 i_X7_offsetAt s_X7_offsetAt n_RX7 k_X7_offsetAt) rfl rfl rfl (by decide +kernel) ⟨by exact Nat.le_of_ble_eq_true rfl, by exact Nat.le_of_ble_eq_true rfl⟩) (j_preV hK hSX hG (ci := 6) rfl hk9 (by decide)) rfl rfl hl.1 rfl (lv_room (Nat.le_of_ble_eq_true rfl)) dX10_drift_79 ⟨by exact Nat.le_of_ble_eq_true rfl, by exact Nat.le_of_ble_eq_true rfl⟩) hG (c2 := 0) (s2 := 0) ⟨by exact Nat.le_of_ble_eq_true rfl, by exact Nat.le_of_ble_eq_true rfl⟩ (fun z40 M41 h H locs hG => ?_)
          obtain ⟨h, eM41⟩ := h
          rw [eM41] at hG
          refine j_iadd hx hb dX10_drift_82 ?_
          refine j_topi (fun x42 ex42 => ?_)
          have h := h x42 ex42
          refine lv_istore (lv' := [(8, .int (J x42)), (0, .ref (rA o a0)), (3, .ref (rA o (a0 + 2 * a1 + 28))), (4, .ref (rA o k7)), (5, .ref (rA o k9)), (6, .int (J x11)), (7, .int (J x12))]) hx hb dX10_drift_83 hl (by decide) rfl (fun ls hl => ?_)
          refine lv_aload_n hx hb dX10_drift_85 rfl (lv_at hl 1 rfl) ?_
          refine j_getr hx hb hts hown hK hG (k := a0) (fun w h => List.mem_cons_of_mem _ (u_X10 w h)) (ci := 9) rfl ka0 8 (k2 := a0 + 607) (by decide) (by show a0 + (607 : Int) = a0 + 607; omega) w_fl_RX10_62 dX10_drift_86 ?_
          refine lv_iload hx hb dX10_drift_89 (lv_at hl 5 rfl) ?_
          refine lv_iload hx hb dX10_drift_91 (lv_at hl 0 rfl) ?_
          refine lv_sipush (v := J 1440) hx hb dX10_drift_93 (by decide) ?_
          obtain ⟨g43, h⟩ := h
          refine j_conti (va_runS (As := [.int (J x42), .int (J 1440)]) (rest := [.int (J x11), .ref (rA o (a0 + 607))]) ⟨hx, hb, hml, hown, hts⟩ (A_J9_floorMod l g43 (by decide)) (va_cwS 2 hts (gj_S ml_RX10_370 i_J9_floorMod_7cf53 n_RJ9 k_J9_floorMod_7cf53) rfl rfl rfl (by decide +kernel) ⟨by exact Nat.le_of_ble_eq_true rfl, by exact Nat.le_of_ble_eq_true rfl⟩) (j_preS hK hSX hG) rfl rfl hl.1 rfl (lv_room (Nat.le_of_ble_eq_true rfl)) dX10_drift_96 ⟨by exact Nat.le_of_ble_eq_true rfl, by exact Nat.le_of_ble_eq_true rfl⟩) hG (c2 := 0) (s2 := 0) ⟨by exact Nat.le_of_ble_eq_true rfl, by exact Nat.le_of_ble_eq_true rfl⟩ (fun z44 M45 ez44 H locs hG => ?_)
          obtain ⟨ez44, eM45⟩ := ez44
          subst ez44
          rw [eM45] at hG
          obtain ⟨g46, h⟩ := h
          refine j_i2l hx hb dX10_drift_99 g46 ?_
          refine j_conti (va_runS (As := [.ref (rA o (a0 + 607)), .int (J x11), .long (JL (x42 % 1440))]) (rest := []) ⟨hx, hb, hml, hown, hts⟩ (A_X10_addKey l (kf_10_8 ka0) h) (va_cwS 3 hts (gj_S ml_RX10_243 i_X10_addKey n_RX10 k_X10_addKey) rfl rfl rfl (by decide +kernel) ⟨by exact Nat.le_of_ble_eq_true rfl, by exact Nat.le_of_ble_eq_true rfl⟩) (j_preS hK hSX hG) rfl rfl hl.1 rfl (lv_room (Nat.le_of_ble_eq_true rfl)) dX10_drift_100 ⟨by exact Nat.le_of_ble_eq_true rfl, by exact Nat.le_of_ble_eq_true rfl⟩) hG (c2 := 0) (s2 := 0) ⟨by exact Nat.le_of_ble_eq_true rfl, by exact Nat.le_of_ble_eq_true rfl⟩ (fun z47 M48 h H locs hG => ?_)
          refine lv_istore (lv' := [(6, .int (J z47)), (8, .int (J x42)), (0, .ref (rA o a0)), (3, .ref (rA o (a0 + 2 * a1 + 28))), (4, .ref (rA o k7)), (5, .ref (rA o k9)), (7, .int (J x12))]) hx hb dX10_drift_103 hl (by decide) rfl (fun ls hl => ?_)
          exact jK35 z47 M48 h H locs hG ls (lv_sub hl [2, 3, 4, 5, 0, 6] rfl)
  exact lI14 n15s 0 0 M10 iI14 H locs hG ls (lv_sub hl [5, 4, 3, 2, 1, 0] rfl)
abbrev rm_X10_drift : Room := { frames := 8, cells := 1, slots := 6, locals := 131 }
set_option maxRecDepth 100000 in
set_option maxHeartbeats 4000000 in
theorem A_X10_drift (l : Launch) (hst : l.stackTraces = false) {D : va_G} {cy : Nat → ClassId} {o : Nat} {sK sV : Nat → Nat} {M : jT} {a0 : Int} {a1 : Int} {a2 : Int} (ka0 : kd a0 = 10) {Q : Int → jT → Prop} {X : Nat → jT → Prop} (h : wp_X10_drift M a0 a1 a2 Q X) : CxI l yX10_drift (wj yX10_drift cX10_drift 9 (some .int)) rm_X10_drift D cy o sK sV M [.ref (rA o a0), .int (J a1), .int (J a2)] Q X := by
  refine j_ofWx (cc := cX10_drift) (maxL := 9) (ret := (some .int)) (by decide) rfl (Nat.le_of_ble_eq_true rfl) ?_
  intro p e s m args below meth c hx hb hr hlocks hout hml hown hts hK hSX H locs hsz hG ls hl Qf hQf
  have hown : s.vm.findClass RX10 = some m.cls := hown
  have hl : lv_has ls 9 [(0, .ref (rA o a0)), (1, .int (J a1)), (2, .int (J a2))] := hl
  have w_fl_RX10_12 := hts _ (List.mem_cons_of_mem _ fl_RX10_12)
  have w_fl_RX10_269 := hts _ (List.mem_cons_of_mem _ fl_RX10_269)
  have w_fl_RX10_295 := hts _ (List.mem_cons_of_mem _ fl_RX10_295)
  have w_fl_RX10_359 := hts _ (List.mem_cons_of_mem _ fl_RX10_359)
  have w_fl_RX10_62 := hts _ (List.mem_cons_of_mem _ fl_RX10_62)
  unfold wp_X10_drift at h
  refine lv_aload_n hx hb dX10_drift_0 rfl (lv_at hl 0 rfl) ?_
  refine lv_iload_n hx hb dX10_drift_1 rfl (lv_at hl 1 rfl) ?_
  rcases h with h | h
  · refine j_contv (va_runV (As := [.int (J a1)]) (rest := []) ⟨hx, hb, hml, hown, hts⟩ (Ao_X10_needMeeting l ka0 h) (cwV 1 hts (gj_V ml_RX10_281 i_X10_needMeeting s_X10_needMeeting n_RX10 k_X10_needMeeting) rfl rfl rfl (by decide +kernel) ⟨by exact Nat.le_of_ble_eq_true rfl, by exact Nat.le_of_ble_eq_true rfl⟩) (j_preV hK hSX hG (ci := 9) rfl ka0 (by decide)) rfl rfl hl.1 rfl (lv_room (Nat.le_of_ble_eq_true rfl)) dX10_drift_2 ⟨by exact Nat.le_of_ble_eq_true rfl, by exact Nat.le_of_ble_eq_true rfl⟩) hG (c2 := 0) (s2 := 0) ⟨by exact Nat.le_of_ble_eq_true rfl, by exact Nat.le_of_ble_eq_true rfl⟩ (fun M2 h H locs hG => ?_)
    obtain ⟨h, eM2⟩ := h
    rw [eM2] at hG
    refine lv_aload_n hx hb dX10_drift_5 rfl (lv_at hl 0 rfl) ?_
    refine lv_iload_n hx hb dX10_drift_6 rfl (lv_at hl 2 rfl) ?_
    rcases h with h | h
    · refine j_contv (va_runV (As := [.int (J a2)]) (rest := []) ⟨hx, hb, hml, hown, hts⟩ (Ao_X10_needZone l ka0 h) (cwV 1 hts (gj_V ml_RX10_137 i_X10_needZone s_X10_needZone n_RX10 k_X10_needZone) rfl rfl rfl (by decide +kernel) ⟨by exact Nat.le_of_ble_eq_true rfl, by exact Nat.le_of_ble_eq_true rfl⟩) (j_preV hK hSX hG (ci := 9) rfl ka0 (by decide)) rfl rfl hl.1 rfl (lv_room (Nat.le_of_ble_eq_true rfl)) dX10_drift_7 ⟨by exact Nat.le_of_ble_eq_true rfl, by exact Nat.le_of_ble_eq_true rfl⟩) hG (c2 := 0) (s2 := 0) ⟨by exact Nat.le_of_ble_eq_true rfl, by exact Nat.le_of_ble_eq_true rfl⟩ (fun M4 h H locs hG => ?_)
      obtain ⟨h, eM4⟩ := h
      rw [eM4] at hG
      refine lv_aload_n hx hb dX10_drift_10 rfl (lv_at hl 0 rfl) ?_
      refine j_getr hx hb hts hown hK hG (k := a0) (fun w h => List.mem_cons_of_mem _ (u_X10 w h)) (ci := 9) rfl ka0 0 (k2 := a0 + 1) (by decide) (by show a0 + (1 : Int) = a0 + 1; omega) w_fl_RX10_12 dX10_drift_11 ?_
      refine j_getr hx hb hts hown hK hG (k := a0 + 1) (fun w h => List.mem_cons_of_mem _ (u_X0 w h)) (ci := 0) rfl (kf_10_0 ka0) 3 (k2 := a0 + 3) (by decide) (by show (a0 + 1) + (2 : Int) = a0 + 3; omega) w_fl_RX10_269 dX10_drift_14 ?_
      refine lv_iload_n hx hb dX10_drift_17 rfl (lv_at hl 1 rfl) ?_
      obtain ⟨g5, h⟩ := h
      refine j_aald hx hb hK hG (t := 21) (t0 := 4) (k2 := a0 + 2 * a1 + 28) (show kd (a0 + 3) = 21 from (show (a0 + 1) + 2 = a0 + 3 from by omega) ▸ (kf_1_3 (kf_10_0 ka0))) (by decide) rfl g5 (by simp only [ra_21]; omega) dX10_drift_18 ?_
      have k6 : kd (a0 + 2 * a1 + 28) = 4 := by have q9 := (ka_21 (show kd (a0 + 3) = 21 from (show (a0 + 1) + 2 = a0 + 3 from by omega) ▸ (kf_1_3 (kf_10_0 ka0))) g5); rwa [show (a0 + 3) + 25 + 2 * a1 = a0 + 2 * a1 + 28 from by omega] at q9
      refine lv_astore_n (lv' := [(3, .ref (rA o (a0 + 2 * a1 + 28))), (0, .ref (rA o a0)), (1, .int (J a1)), (2, .int (J a2))]) hx hb dX10_drift_19 rfl hl (by decide) rfl (fun ls hl => ?_)
      refine lv_aload_n hx hb dX10_drift_20 rfl (lv_at hl 1 rfl) ?_
      refine lv_iload_n hx hb dX10_drift_21 rfl (lv_at hl 2 rfl) ?_
      refine j_contr (va_runV (As := [.int (J a1)]) (rest := []) ⟨hx, hb, hml, hown, hts⟩ (A_X10_timed l ka0 h) (cwV 1 hts (gj_V ml_RX10_335 i_X10_timed s_X10_timed n_RX10 k_X10_timed) rfl rfl rfl (by decide +kernel) ⟨by exact Nat.le_of_ble_eq_true rfl, by exact Nat.le_of_ble_eq_true rfl⟩) (j_preV hK hSX hG (ci := 9) rfl ka0 (by decide)) rfl rfl hl.1 rfl (lv_room (Nat.le_of_ble_eq_true rfl)) dX10_drift_22 ⟨by exact Nat.le_of_ble_eq_true rfl, by exact Nat.le_of_ble_eq_true rfl⟩) hG (c2 := 0) (s2 := 0) ⟨by exact Nat.le_of_ble_eq_true rfl, by exact Nat.le_of_ble_eq_true rfl⟩ (fun k7 M8 h hk7 H locs hG => ?_)
      refine lv_astore (lv' := [(4, .ref (rA o k7)), (3, .ref (rA o (a0 + 2 * a1 + 28))), (0, .ref (rA o a0)), (1, .int (J a1)), (2, .int (J a2))]) hx hb dX10_drift_25 hl (by decide) rfl (fun ls hl => ?_)
      refine lv_aload_n hx hb dX10_drift_27 rfl (lv_at hl 2 rfl) ?_
      refine lv_iload_n hx hb dX10_drift_28 rfl (lv_at hl 4 rfl) ?_
      refine j_contr (va_runV (As := [.int (J a2)]) (rest := []) ⟨hx, hb, hml, hown, hts⟩ (A_X10_compiled l ka0 h) (cwV 1 hts (gj_V ml_RX10_144 i_X10_compiled s_X10_compiled n_RX10 k_X10_compiled) rfl rfl rfl (by decide +kernel) ⟨by exact Nat.le_of_ble_eq_true rfl, by exact Nat.le_of_ble_eq_true rfl⟩) (j_preV hK hSX hG (ci := 9) rfl ka0 (by decide)) rfl rfl hl.1 rfl (lv_room (Nat.le_of_ble_eq_true rfl)) dX10_drift_29 ⟨by exact Nat.le_of_ble_eq_true rfl, by exact Nat.le_of_ble_eq_true rfl⟩) hG (c2 := 0) (s2 := 0) ⟨by exact Nat.le_of_ble_eq_true rfl, by exact Nat.le_of_ble_eq_true rfl⟩ (fun k9 M10 h hk9 H locs hG => ?_)
      refine lv_astore (lv' := [(5, .ref (rA o k9)), (4, .ref (rA o k7)), (3, .ref (rA o (a0 + 2 * a1 + 28))), (0, .ref (rA o a0)), (1, .int (J a1)), (2, .int (J a2))]) hx hb dX10_drift_32 hl (by decide) rfl (fun ls hl => ?_)
      refine lv_iconst (v := J 0) hx hb dX10_drift_34 (by decide) ?_
      refine lv_istore (lv' := [(6, .int (J 0)), (5, .ref (rA o k9)), (4, .ref (rA o k7)), (3, .ref (rA o (a0 + 2 * a1 + 28))), (0, .ref (rA o a0)), (1, .int (J a1)), (2, .int (J a2))]) hx hb dX10_drift_35 hl (by decide) rfl (fun ls hl => ?_)
      refine lv_iconst (v := J 0) hx hb dX10_drift_37 (by decide) ?_
      refine lv_istore (lv' := [(7, .int (J 0)), (6, .int (J 0)), (5, .ref (rA o k9)), (4, .ref (rA o k7)), (3, .ref (rA o (a0 + 2 * a1 + 28))), (0, .ref (rA o a0)), (1, .int (J a1)), (2, .int (J a2))]) hx hb dX10_drift_38 hl (by decide) rfl (fun ls hl => ?_)
      obtain ⟨I14, ⟨n15s, iI14⟩, qI14⟩ := h
      have lI14 : ∀ (n15 : Nat) (x11 : Int) (x12 : Int) (M13 : jT), I14 n15 x11 x12 M13 → ∀ (H : Heap) (locs : List Loc), GM D cy o M13 s.heap H locs → ∀ ls : Array Slot, lv_has ls 9 [(0, .ref (rA o a0)), (3, .ref (rA o (a0 + 2 * a1 + 28))), (4, .ref (rA o k7)), (5, .ref (rA o k9)), (6, .int (J x11)), (7, .int (J x12))] → W p l e rm_X10_drift s m args below meth c H locs 0 0 Qf (F0 m 40 ls []) := by
        intro n15
        induction n15 using Nat.strongRecOn with
        | ind n15 rI14 =>
          intro x11 x12 M13 iI14 H locs hG ls hl
          have h := qI14 n15 x11 x12 M13 iI14
          refine lv_iload hx hb dX10_drift_40 (lv_at hl 5 rfl) ?_
          refine lv_aload hx hb dX10_drift_42 (lv_at hl 2 rfl) ?_
          refine j_geti hx hb hts hown hK hG (k := k7) (fun w h => List.mem_cons_of_mem _ (u_X5 w h)) (ci := 4) rfl hk7 2 (by decide) (jz := 2) rfl w_fl_RX10_295 dX10_drift_44 ?_
          obtain ⟨g17, h⟩ := h
          obtain ⟨g18, h⟩ := h
          refine j_icmp_ge (tgt := 111) hx hb dX10_drift_47 (by decide) g17 g18 (fun c16 => ?_) (fun c16 => ?_)
          · have h := h.1 c16
            refine lv_iload hx hb dX10_drift_111 (lv_at hl 4 rfl) ?_
            rw [hQf]
            exact vx_ret (j_ireti hx hb hr hlocks hG h (by decide) dX10_drift_113)
          · have h := h.2 c16
            refine lv_aload hx hb dX10_drift_50 (lv_at hl 2 rfl) ?_
            refine lv_aload_n hx hb dX10_drift_52 rfl (lv_at hl 1 rfl) ?_
            refine lv_iload hx hb dX10_drift_53 (lv_at hl 5 rfl) ?_
            obtain ⟨g19, h⟩ := h
            refine j_conti (va_runV (As := [.ref (rA o (a0 + 2 * a1 + 28)), .int (J x12)]) (rest := []) ⟨hx, hb, hml, hown, hts⟩ (A_X5_takesPlace l hk7 k6 g19) (cwV 2 hts (gj_V ml_RX10_355 i_X5_takesPlace s_X5_takesPlace n_RX5 k_X5_takesPlace) rfl rfl rfl (by decide +kernel) ⟨by exact Nat.le_of_ble_eq_true rfl, by exact Nat.le_of_ble_eq_true rfl⟩) (j_preV hK hSX hG (ci := 4) rfl hk7 (by decide)) rfl rfl hl.1 rfl (lv_room (Nat.le_of_ble_eq_true rfl)) dX10_drift_55 ⟨by exact Nat.le_of_ble_eq_true rfl, by exact Nat.le_of_ble_eq_true rfl⟩) hG (c2 := 0) (s2 := 0) ⟨by exact Nat.le_of_ble_eq_true rfl, by exact Nat.le_of_ble_eq_true rfl⟩ (fun z20 M21 ez20 H locs hG => ?_)
            obtain ⟨ez20, eM21⟩ := ez20
            subst ez20
            rw [eM21] at hG
            obtain ⟨K35, hK35, h⟩ := h
            have jK35 : ∀ (x33 : Int) (M34 : jT), K35 x33 M34 → ∀ (H : Heap) (locs : List Loc), GM D cy o M34 s.heap H locs → ∀ ls : Array Slot, lv_has ls 9 [(0, .ref (rA o a0)), (3, .ref (rA o (a0 + 2 * a1 + 28))), (4, .ref (rA o k7)), (5, .ref (rA o k9)), (6, .int (J x33)), (7, .int (J x12))] → W p l e rm_X10_drift s m args below meth c H locs 0 0 Qf (F0 m 105 ls []) := by
              intro x33 M34 hcK35 H locs hG ls hl
              have h := hK35 x33 M34 hcK35
              refine j_iinc hx hb dX10_drift_105 hl (k := 5) rfl (by decide) (fun x36 ex36 ls hl => ?_)
              have h := h x36 ex36
              have hl : lv_has ls 9 [(7, .int (J x36)), (0, .ref (rA o a0)), (3, .ref (rA o (a0 + 2 * a1 + 28))), (4, .ref (rA o k7)), (5, .ref (rA o k9)), (6, .int (J x33))] := hl
              refine lv_goto (tgt := 40) hx hb dX10_drift_108 (by decide) ?_
              obtain ⟨n37, ln37, iI14⟩ := h
              exact rI14 n37 ln37 x33 x36 M34 iI14 H locs hG ls (lv_sub hl [1, 2, 3, 4, 5, 0] rfl)
            refine j_if_eq_b (tgt := 105) hx hb dX10_drift_58 (by decide) (fun c38 => ?_) (fun c38 => ?_)
            · have h := h.1 c38
              exact jK35 x11 M13 h H locs hG ls (lv_sub hl [0, 1, 2, 3, 4, 5] rfl)
            · have h := h.2 c38
              refine lv_aload hx hb dX10_drift_61 (lv_at hl 2 rfl) ?_
              refine j_getr hx hb hts hown hK hG (k := k7) (fun w h => List.mem_cons_of_mem _ (u_X5 w h)) (ci := 4) rfl hk7 4 (k2 := k7 + 2) (by decide) (by show k7 + (2 : Int) = k7 + 2; omega) w_fl_RX10_359 dX10_drift_63 ?_
              refine lv_iload hx hb dX10_drift_66 (lv_at hl 5 rfl) ?_
              obtain ⟨g39, h⟩ := h
              refine j_iald hx hb hK hG (n := 40) (kf_5_4 hk7) (by decide) g39 dX10_drift_68 ?_
              refine lv_aload hx hb dX10_drift_69 (lv_at hl 3 rfl) ?_
              refine lv_aload hx hb dX10_drift_71 (lv_at hl 2 rfl) ?_
              refine j_getr hx hb hts hown hK hG (k := k7) (fun w h => List.mem_cons_of_mem _ (u_X5 w h)) (ci := 4) rfl hk7 4 (k2 := k7 + 2) (by decide) (by show k7 + (2 : Int) = k7 + 2; omega) w_fl_RX10_359 dX10_drift_73 ?_
              refine lv_iload hx hb dX10_drift_76 (lv_at hl 5 rfl) ?_
              refine j_iald hx hb hK hG (n := 40) (kf_5_4 hk7) (by decide) g39 dX10_drift_78 ?_
              refine j_conti (va_runV (As := [.int (J (M13 (k7 + 2) x12))]) (rest := [.int (J (M13 (k7 + 2) x12))]) ⟨hx, hb, hml, hown, hts⟩ (A_X7_offsetAt l hk9 h) (cwV 1 hts (gj_V ml_RX10_209 i_X7_offsetAt s_X7_offsetAt n_RX7 k_X7_offsetAt) rfl rfl rfl (by decide +kernel) ⟨by exact Nat.le_of_ble_eq_true rfl, by exact Nat.le_of_ble_eq_true rfl⟩) (j_preV hK hSX hG (ci := 6) rfl hk9 (by decide)) rfl rfl hl.1 rfl (lv_room (Nat.le_of_ble_eq_true rfl)) dX10_drift_79 ⟨by exact Nat.le_of_ble_eq_true rfl, by exact Nat.le_of_ble_eq_true rfl⟩) hG (c2 := 0) (s2 := 0) ⟨by exact Nat.le_of_ble_eq_true rfl, by exact Nat.le_of_ble_eq_true rfl⟩ (fun z40 M41 h H locs hG => ?_)
              obtain ⟨h, eM41⟩ := h
              rw [eM41] at hG
              refine j_iadd hx hb dX10_drift_82 ?_
              refine j_topi (fun x42 ex42 => ?_)
              have h := h x42 ex42
              refine lv_istore (lv' := [(8, .int (J x42)), (0, .ref (rA o a0)), (3, .ref (rA o (a0 + 2 * a1 + 28))), (4, .ref (rA o k7)), (5, .ref (rA o k9)), (6, .int (J x11)), (7, .int (J x12))]) hx hb dX10_drift_83 hl (by decide) rfl (fun ls hl => ?_)
              refine lv_aload_n hx hb dX10_drift_85 rfl (lv_at hl 1 rfl) ?_
              refine j_getr hx hb hts hown hK hG (k := a0) (fun w h => List.mem_cons_of_mem _ (u_X10 w h)) (ci := 9) rfl ka0 8 (k2 := a0 + 607) (by decide) (by show a0 + (607 : Int) = a0 + 607; omega) w_fl_RX10_62 dX10_drift_86 ?_
              refine lv_iload hx hb dX10_drift_89 (lv_at hl 5 rfl) ?_
              refine lv_iload hx hb dX10_drift_91 (lv_at hl 0 rfl) ?_
              refine lv_sipush (v := J 1440) hx hb dX10_drift_93 (by decide) ?_
              obtain ⟨g43, h⟩ := h
              refine j_conti (va_runS (As := [.int (J x42), .int (J 1440)]) (rest := [.int (J x11), .ref (rA o (a0 + 607))]) ⟨hx, hb, hml, hown, hts⟩ (A_J9_floorMod l g43 (by decide)) (va_cwS 2 hts (gj_S ml_RX10_370 i_J9_floorMod_7cf53 n_RJ9 k_J9_floorMod_7cf53) rfl rfl rfl (by decide +kernel) ⟨by exact Nat.le_of_ble_eq_true rfl, by exact Nat.le_of_ble_eq_true rfl⟩) (j_preS hK hSX hG) rfl rfl hl.1 rfl (lv_room (Nat.le_of_ble_eq_true rfl)) dX10_drift_96 ⟨by exact Nat.le_of_ble_eq_true rfl, by exact Nat.le_of_ble_eq_true rfl⟩) hG (c2 := 0) (s2 := 0) ⟨by exact Nat.le_of_ble_eq_true rfl, by exact Nat.le_of_ble_eq_true rfl⟩ (fun z44 M45 ez44 H locs hG => ?_)
              obtain ⟨ez44, eM45⟩ := ez44
              subst ez44
              rw [eM45] at hG
              obtain ⟨g46, h⟩ := h
              refine j_i2l hx hb dX10_drift_99 g46 ?_
              refine j_conti (va_runS (As := [.ref (rA o (a0 + 607)), .int (J x11), .long (JL (x42 % 1440))]) (rest := []) ⟨hx, hb, hml, hown, hts⟩ (A_X10_addKey l (kf_10_8 ka0) h) (va_cwS 3 hts (gj_S ml_RX10_243 i_X10_addKey n_RX10 k_X10_addKey) rfl rfl rfl (by decide +kernel) ⟨by exact Nat.le_of_ble_eq_true rfl, by exact Nat.le_of_ble_eq_true rfl⟩) (j_preS hK hSX hG) rfl rfl hl.1 rfl (lv_room (Nat.le_of_ble_eq_true rfl)) dX10_drift_100 ⟨by exact Nat.le_of_ble_eq_true rfl, by exact Nat.le_of_ble_eq_true rfl⟩) hG (c2 := 0) (s2 := 0) ⟨by exact Nat.le_of_ble_eq_true rfl, by exact Nat.le_of_ble_eq_true rfl⟩ (fun z47 M48 h H locs hG => ?_)
              refine lv_istore (lv' := [(6, .int (J z47)), (8, .int (J x42)), (0, .ref (rA o a0)), (3, .ref (rA o (a0 + 2 * a1 + 28))), (4, .ref (rA o k7)), (5, .ref (rA o k9)), (7, .int (J x12))]) hx hb dX10_drift_103 hl (by decide) rfl (fun ls hl => ?_)
              exact jK35 z47 M48 h H locs hG ls (lv_sub hl [2, 3, 4, 5, 0, 6] rfl)
      exact lI14 n15s 0 0 M10 iI14 H locs hG ls (lv_sub hl [5, 4, 3, 2, 1, 0] rfl)
    · refine j_contxv (vx_runV (As := [.int (J a2)]) (rest := []) ⟨hx, hb, hml, hown, hts⟩ (A_X10_needZone l hst ka0 h) (cwV 1 hts (gj_V ml_RX10_137 i_X10_needZone s_X10_needZone n_RX10 k_X10_needZone) rfl rfl rfl (by decide +kernel) ⟨by exact Nat.le_of_ble_eq_true rfl, by exact Nat.le_of_ble_eq_true rfl⟩) (j_preV hK hSX hG (ci := 9) rfl ka0 (by decide)) rfl rfl hl.1 rfl (lv_room (Nat.le_of_ble_eq_true rfl)) dX10_drift_7 ⟨by exact Nat.le_of_ble_eq_true rfl, by exact Nat.le_of_ble_eq_true rfl⟩) hG (c2 := 1) (s2 := 6) ⟨by exact Nat.le_of_ble_eq_true rfl, by exact Nat.le_of_ble_eq_true rfl⟩ (fun x M h ce q H locs hG h1 h2 h3 => ?_) (fun M h H locs hG => h.elim)
      rw [hQf]
      exact j_xout hlocks hout hG h h1 h2 h3 (by decide)
  · refine j_contxv (vx_runV (As := [.int (J a1)]) (rest := []) ⟨hx, hb, hml, hown, hts⟩ (A_X10_needMeeting l hst ka0 h) (cwV 1 hts (gj_V ml_RX10_281 i_X10_needMeeting s_X10_needMeeting n_RX10 k_X10_needMeeting) rfl rfl rfl (by decide +kernel) ⟨by exact Nat.le_of_ble_eq_true rfl, by exact Nat.le_of_ble_eq_true rfl⟩) (j_preV hK hSX hG (ci := 9) rfl ka0 (by decide)) rfl rfl hl.1 rfl (lv_room (Nat.le_of_ble_eq_true rfl)) dX10_drift_2 ⟨by exact Nat.le_of_ble_eq_true rfl, by exact Nat.le_of_ble_eq_true rfl⟩) hG (c2 := 1) (s2 := 6) ⟨by exact Nat.le_of_ble_eq_true rfl, by exact Nat.le_of_ble_eq_true rfl⟩ (fun x M h ce q H locs hG h1 h2 h3 => ?_) (fun M h H locs hG => h.elim)
    rw [hQf]
    exact j_xout hlocks hout hG h h1 h2 h3 (by decide)
abbrev rm_X6_nameOf : Room := { frames := 0, cells := 0, slots := 0, locals := 0 }
set_option maxRecDepth 100000 in
set_option maxHeartbeats 4000000 in
theorem A_X6_nameOf (l : Launch) {D : va_G} {cy : Nat → ClassId} {o : Nat} {sK sV : Nat → Nat} {M : jT} {a0 : Int} {Q : Nat → Prop} (h : wp_X6_nameOf M a0 Q) : CoS l yX6_nameOf (wj yX6_nameOf cX6_nameOf 1 (some (.object "java/lang/String"))) rm_X6_nameOf D cy o sK sV M [.int (J a0)] (fun z M9 => Q z ∧ M9 = M) := by
  refine j_ofW (cc := cX6_nameOf) (maxL := 1) (ret := (some (.object "java/lang/String"))) (by decide) rfl (Nat.le_of_ble_eq_true rfl) ?_
  intro p e s m args below meth c hx hb hr hlocks hml hown hts hK hSX H locs hG ls hl Qf hQf
  have hown : s.vm.findClass RX6 = some m.cls := hown
  have hl : lv_has ls 1 [(0, .int (J a0))] := hl
  unfold wp_X6_nameOf at h
  refine lv_iload_n hx hb dX6_nameOf_0 rfl (lv_at hl 0 rfl) ?_
  obtain ⟨g1, h⟩ := h
  rcases em_eqI (a0) 0 with c2 | c2_0
  · refine j_tsw hx hb dX6_nameOf_1 g1 (k := 0) (tgt := 32) c2 ⟨by decide, by decide, rfl⟩ (by decide) ?_
    have h := h.1 c2
    refine va_ldcS hx hb hown (hSX.2.2.2.1 6 _ rfl) dX6_nameOf_32 ?_
    rw [hQf]
    exact j_arets (z := 6) hx hb hr (Or.inl ⟨_, rfl⟩) hlocks hG (by decide) ⟨h, rfl⟩ (by decide) dX6_nameOf_34
  · rcases em_eqI (a0) 1 with c2 | c2_1
    · refine j_tsw hx hb dX6_nameOf_1 g1 (k := 1) (tgt := 35) c2 ⟨by decide, by decide, rfl⟩ (by decide) ?_
      have h := h.2.1 c2
      refine va_ldcS hx hb hown (hSX.2.2.2.1 7 _ rfl) dX6_nameOf_35 ?_
      rw [hQf]
      exact j_arets (z := 7) hx hb hr (Or.inl ⟨_, rfl⟩) hlocks hG (by decide) ⟨h, rfl⟩ (by decide) dX6_nameOf_37
    · rcases em_eqI (a0) 2 with c2 | c2_2
      · refine j_tsw hx hb dX6_nameOf_1 g1 (k := 2) (tgt := 38) c2 ⟨by decide, by decide, rfl⟩ (by decide) ?_
        have h := h.2.2.1 c2
        refine va_ldcS hx hb hown (hSX.2.2.2.1 8 _ rfl) dX6_nameOf_38 ?_
        rw [hQf]
        exact j_arets (z := 8) hx hb hr (Or.inl ⟨_, rfl⟩) hlocks hG (by decide) ⟨h, rfl⟩ (by decide) dX6_nameOf_40
      · rcases em_eqI (a0) 3 with c2 | c2_3
        · refine j_tsw hx hb dX6_nameOf_1 g1 (k := 3) (tgt := 41) c2 ⟨by decide, by decide, rfl⟩ (by decide) ?_
          have h := h.2.2.2.1 c2
          refine va_ldcS hx hb hown (hSX.2.2.2.1 9 _ rfl) dX6_nameOf_41 ?_
          rw [hQf]
          exact j_arets (z := 9) hx hb hr (Or.inl ⟨_, rfl⟩) hlocks hG (by decide) ⟨h, rfl⟩ (by decide) dX6_nameOf_43
        · have c2 : a0 ≠ 0 ∧ a0 ≠ 1 ∧ a0 ≠ 2 ∧ a0 ≠ 3 := ⟨c2_0, c2_1, c2_2, c2_3⟩
          have h := h.2.2.2.2 c2
          refine j_tswd hx hb dX6_nameOf_1 g1 (tgt := 44) (by omega) (by decide) ?_
          refine va_ldcS hx hb hown (hSX.2.2.2.1 10 _ rfl) dX6_nameOf_44 ?_
          rw [hQf]
          exact j_arets (z := 10) hx hb hr (Or.inl ⟨_, rfl⟩) hlocks hG (by decide) ⟨h, rfl⟩ (by decide) dX6_nameOf_46
abbrev rm_X6_kindsOf : Room := { frames := 0, cells := 0, slots := 0, locals := 0 }
set_option maxRecDepth 100000 in
set_option maxHeartbeats 4000000 in
theorem A_X6_kindsOf (l : Launch) {D : va_G} {cy : Nat → ClassId} {o : Nat} {sK sV : Nat → Nat} {M : jT} {a0 : Int} {Q : Nat → Prop} (h : wp_X6_kindsOf M a0 Q) : CoS l yX6_kindsOf (wj yX6_kindsOf cX6_kindsOf 1 (some (.object "java/lang/String"))) rm_X6_kindsOf D cy o sK sV M [.int (J a0)] (fun z M9 => Q z ∧ M9 = M) := by
  refine j_ofW (cc := cX6_kindsOf) (maxL := 1) (ret := (some (.object "java/lang/String"))) (by decide) rfl (Nat.le_of_ble_eq_true rfl) ?_
  intro p e s m args below meth c hx hb hr hlocks hml hown hts hK hSX H locs hG ls hl Qf hQf
  have hown : s.vm.findClass RX6 = some m.cls := hown
  have hl : lv_has ls 1 [(0, .int (J a0))] := hl
  unfold wp_X6_kindsOf at h
  refine lv_iload_n hx hb dX6_kindsOf_0 rfl (lv_at hl 0 rfl) ?_
  obtain ⟨g1, h⟩ := h
  rcases em_eqI (a0) 0 with c2 | c2_0
  · refine j_tsw hx hb dX6_kindsOf_1 g1 (k := 0) (tgt := 28) c2 ⟨by decide, by decide, rfl⟩ (by decide) ?_
    have h := h.1 c2
    refine va_ldcS hx hb hown (hSX.2.2.2.1 11 _ rfl) dX6_kindsOf_28 ?_
    rw [hQf]
    exact j_arets (z := 11) hx hb hr (Or.inl ⟨_, rfl⟩) hlocks hG (by decide) ⟨h, rfl⟩ (by decide) dX6_kindsOf_30
  · rcases em_eqI (a0) 1 with c2 | c2_1
    · refine j_tsw hx hb dX6_kindsOf_1 g1 (k := 1) (tgt := 31) c2 ⟨by decide, by decide, rfl⟩ (by decide) ?_
      have h := h.2.1 c2
      refine va_ldcS hx hb hown (hSX.2.2.2.1 12 _ rfl) dX6_kindsOf_31 ?_
      rw [hQf]
      exact j_arets (z := 12) hx hb hr (Or.inl ⟨_, rfl⟩) hlocks hG (by decide) ⟨h, rfl⟩ (by decide) dX6_kindsOf_33
    · rcases em_eqI (a0) 2 with c2 | c2_2
      · refine j_tsw hx hb dX6_kindsOf_1 g1 (k := 2) (tgt := 34) c2 ⟨by decide, by decide, rfl⟩ (by decide) ?_
        have h := h.2.2.1 c2
        refine va_ldcS hx hb hown (hSX.2.2.2.1 13 _ rfl) dX6_kindsOf_34 ?_
        rw [hQf]
        exact j_arets (z := 13) hx hb hr (Or.inl ⟨_, rfl⟩) hlocks hG (by decide) ⟨h, rfl⟩ (by decide) dX6_kindsOf_36
      · have c2 : a0 ≠ 0 ∧ a0 ≠ 1 ∧ a0 ≠ 2 := ⟨c2_0, c2_1, c2_2⟩
        have h := h.2.2.2 c2
        refine j_tswd hx hb dX6_kindsOf_1 g1 (tgt := 37) (by omega) (by decide) ?_
        refine va_ldcS hx hb hown (hSX.2.2.2.1 14 _ rfl) dX6_kindsOf_37 ?_
        rw [hQf]
        exact j_arets (z := 14) hx hb hr (Or.inl ⟨_, rfl⟩) hlocks hG (by decide) ⟨h, rfl⟩ (by decide) dX6_kindsOf_39
abbrev rm_X6_isWord : Room := { frames := 4, cells := 0, slots := 0, locals := 85 }
set_option maxRecDepth 100000 in
set_option maxHeartbeats 4000000 in
theorem A_X6_isWord (l : Launch) {D : va_G} {cy : Nat → ClassId} {o : Nat} {sK sV : Nat → Nat} {M : jT} {a0 : Int} {a1 : Int} {a2 : Int} {a3 : Nat} (ka0 : kd a0 = 6) (ka3 : a3 < 16) {Q : Int → Prop} (h : wp_X6_isWord M a0 a1 a2 a3 Q) : CoI l yX6_isWord (wj yX6_isWord cX6_isWord 5 (some .boolean)) rm_X6_isWord D cy o sK sV M [.ref (rA o a0), .int (J a1), .int (J a2), .ref (sK a3)] (fun z M9 => Q z ∧ M9 = M) := by
  refine j_ofW (cc := cX6_isWord) (maxL := 5) (ret := (some .boolean)) (by decide) rfl (Nat.le_of_ble_eq_true rfl) ?_
  intro p e s m args below meth c hx hb hr hlocks hml hown hts hK hSX H locs hG ls hl Qf hQf
  have hown : s.vm.findClass RX6 = some m.cls := hown
  have hl : lv_has ls 5 [(0, .ref (rA o a0)), (1, .int (J a1)), (2, .int (J a2)), (3, .ref (sK a3))] := hl
  unfold wp_X6_isWord at h
  refine lv_iload_n hx hb dX6_isWord_0 rfl (lv_at hl 2 rfl) ?_
  refine lv_iload_n hx hb dX6_isWord_1 rfl (lv_at hl 1 rfl) ?_
  refine j_isub hx hb dX6_isWord_2 ?_
  refine lv_aload_n hx hb dX6_isWord_3 rfl (lv_at hl 3 rfl) ?_
  refine j_conti (va_runV (As := []) (rest := [.int (J (a2 - a1))]) ⟨hx, hb, hml, hown, hts⟩ (A_J0_length l ka3) (cwV 0 hts (gj_V ml_RX6_48 i_J0_length_8abf5 s_J0_length_8abf5 n_RJ0 k_J0_length_8abf5) rfl rfl rfl (by decide +kernel) ⟨by exact Nat.le_of_ble_eq_true rfl, by exact Nat.le_of_ble_eq_true rfl⟩) (j_preVS hK hSX hG ka3) rfl rfl hl.1 rfl (lv_room (Nat.le_of_ble_eq_true rfl)) dX6_isWord_4 ⟨by exact Nat.le_of_ble_eq_true rfl, by exact Nat.le_of_ble_eq_true rfl⟩) hG (c2 := 0) (s2 := 0) ⟨by exact Nat.le_of_ble_eq_true rfl, by exact Nat.le_of_ble_eq_true rfl⟩ (fun z1 M2 ez1 H locs hG => ?_)
  obtain ⟨ez1, eM2⟩ := ez1
  subst ez1
  rw [eM2] at hG
  obtain ⟨g4, h⟩ := h
  obtain ⟨g5, h⟩ := h
  refine j_icmp_eq (tgt := 12) hx hb dX6_isWord_7 (by decide) g4 g5 (fun c3 => ?_) (fun c3 => ?_)
  · have h := h.1 c3
    refine lv_iconst (v := J 0) hx hb dX6_isWord_12 (by decide) ?_
    refine lv_istore (lv' := [(4, .int (J 0)), (0, .ref (rA o a0)), (1, .int (J a1)), (2, .int (J a2)), (3, .ref (sK a3))]) hx hb dX6_isWord_13 hl (by decide) rfl (fun ls hl => ?_)
    obtain ⟨I7, ⟨n8s, iI7⟩, qI7⟩ := h
    have lI7 : ∀ (n8 : Nat) (x6 : Int), I7 n8 x6 → ∀ (H : Heap) (locs : List Loc), GM D cy o M s.heap H locs → ∀ ls : Array Slot, lv_has ls 5 [(0, .ref (rA o a0)), (1, .int (J a1)), (3, .ref (sK a3)), (4, .int (J x6))] → W p l e rm_X6_isWord s m args below meth c H locs 0 0 Qf (F0 m 15 ls []) := by
      intro n8
      induction n8 using Nat.strongRecOn with
      | ind n8 rI7 =>
        intro x6 iI7 H locs hG ls hl
        have h := qI7 n8 x6 iI7
        refine lv_iload hx hb dX6_isWord_15 (lv_at hl 3 rfl) ?_
        refine lv_aload_n hx hb dX6_isWord_17 rfl (lv_at hl 2 rfl) ?_
        refine j_conti (va_runV (As := []) (rest := [.int (J x6)]) ⟨hx, hb, hml, hown, hts⟩ (A_J0_length l ka3) (cwV 0 hts (gj_V ml_RX6_48 i_J0_length_8abf5 s_J0_length_8abf5 n_RJ0 k_J0_length_8abf5) rfl rfl rfl (by decide +kernel) ⟨by exact Nat.le_of_ble_eq_true rfl, by exact Nat.le_of_ble_eq_true rfl⟩) (j_preVS hK hSX hG ka3) rfl rfl hl.1 rfl (lv_room (Nat.le_of_ble_eq_true rfl)) dX6_isWord_18 ⟨by exact Nat.le_of_ble_eq_true rfl, by exact Nat.le_of_ble_eq_true rfl⟩) hG (c2 := 0) (s2 := 0) ⟨by exact Nat.le_of_ble_eq_true rfl, by exact Nat.le_of_ble_eq_true rfl⟩ (fun z9 M10 ez9 H locs hG => ?_)
        obtain ⟨ez9, eM10⟩ := ez9
        subst ez9
        rw [eM10] at hG
        obtain ⟨g12, h⟩ := h
        refine j_icmp_ge (tgt := 49) hx hb dX6_isWord_21 (by decide) g12 g5 (fun c11 => ?_) (fun c11 => ?_)
        · have h := h.1 c11
          refine lv_iconst (v := J 1) hx hb dX6_isWord_49 (by decide) ?_
          rw [hQf]
          exact j_iretn hx hb hr hlocks (nar_b (by decide)) hG ⟨h, rfl⟩ (by decide) dX6_isWord_50
        · have h := h.2 c11
          refine lv_aload_n hx hb dX6_isWord_24 rfl (lv_at hl 0 rfl) ?_
          refine lv_iload_n hx hb dX6_isWord_25 rfl (lv_at hl 1 rfl) ?_
          refine lv_iload hx hb dX6_isWord_26 (lv_at hl 3 rfl) ?_
          refine j_iadd hx hb dX6_isWord_28 ?_
          obtain ⟨g13, h⟩ := h
          refine j_conti (va_runV (As := [.int (J (a1 + x6))]) (rest := []) ⟨hx, hb, hml, hown, hts⟩ (A_X6_letterAt l ka0 g13) (cwV 1 hts (gj_V ml_RX6_60 i_X6_letterAt s_X6_letterAt n_RX6 k_X6_letterAt) rfl rfl rfl (by decide +kernel) ⟨by exact Nat.le_of_ble_eq_true rfl, by exact Nat.le_of_ble_eq_true rfl⟩) (j_preV hK hSX hG (ci := 5) rfl ka0 (by decide)) rfl rfl hl.1 rfl (lv_room (Nat.le_of_ble_eq_true rfl)) dX6_isWord_29 ⟨by exact Nat.le_of_ble_eq_true rfl, by exact Nat.le_of_ble_eq_true rfl⟩) hG (c2 := 0) (s2 := 0) ⟨by exact Nat.le_of_ble_eq_true rfl, by exact Nat.le_of_ble_eq_true rfl⟩ (fun z14 M15 ez14 H locs hG => ?_)
          obtain ⟨ez14, eM15⟩ := ez14
          subst ez14
          rw [eM15] at hG
          refine lv_aload_n hx hb dX6_isWord_32 rfl (lv_at hl 2 rfl) ?_
          refine lv_iload hx hb dX6_isWord_33 (lv_at hl 3 rfl) ?_
          obtain ⟨g16, h⟩ := h
          refine j_conti (va_runV (As := [.int (J x6)]) (rest := [.int (J (pf_X6_letterAt M a0 (a1 + x6)))]) ⟨hx, hb, hml, hown, hts⟩ (A_J0_charAt l ka3 g16) (cwV 1 hts (gj_V ml_RX6_52 i_J0_charAt_5068e s_J0_charAt_5068e n_RJ0 k_J0_charAt_5068e) rfl rfl rfl (by decide +kernel) ⟨by exact Nat.le_of_ble_eq_true rfl, by exact Nat.le_of_ble_eq_true rfl⟩) (j_preVS hK hSX hG ka3) rfl rfl hl.1 rfl (lv_room (Nat.le_of_ble_eq_true rfl)) dX6_isWord_35 ⟨by exact Nat.le_of_ble_eq_true rfl, by exact Nat.le_of_ble_eq_true rfl⟩) hG (c2 := 0) (s2 := 0) ⟨by exact Nat.le_of_ble_eq_true rfl, by exact Nat.le_of_ble_eq_true rfl⟩ (fun z17 M18 ez17 H locs hG => ?_)
          obtain ⟨ez17, eM18⟩ := ez17
          subst ez17
          rw [eM18] at hG
          obtain ⟨g20, h⟩ := h
          obtain ⟨g21, h⟩ := h
          refine j_icmp_eq (tgt := 43) hx hb dX6_isWord_38 (by decide) g20 g21 (fun c19 => ?_) (fun c19 => ?_)
          · have h := h.1 c19
            refine j_iinc hx hb dX6_isWord_43 hl (k := 3) rfl (by decide) (fun x22 ex22 ls hl => ?_)
            have h := h x22 ex22
            have hl : lv_has ls 5 [(4, .int (J x22)), (0, .ref (rA o a0)), (1, .int (J a1)), (3, .ref (sK a3))] := hl
            refine lv_goto (tgt := 15) hx hb dX6_isWord_46 (by decide) ?_
            obtain ⟨n23, ln23, iI7⟩ := h
            exact rI7 n23 ln23 x22 iI7 H locs hG ls (lv_sub hl [1, 2, 3, 0] rfl)
          · have h := h.2 c19
            refine lv_iconst (v := J 0) hx hb dX6_isWord_41 (by decide) ?_
            rw [hQf]
            exact j_iretn hx hb hr hlocks (nar_b (by decide)) hG ⟨h, rfl⟩ (by decide) dX6_isWord_42
    exact lI7 n8s 0 iI7 H locs hG ls (lv_sub hl [1, 2, 4, 0] rfl)
  · have h := h.2 c3
    refine lv_iconst (v := J 0) hx hb dX6_isWord_10 (by decide) ?_
    rw [hQf]
    exact j_iretn hx hb hr hlocks (nar_b (by decide)) hG ⟨h, rfl⟩ (by decide) dX6_isWord_11
abbrev rm_X6_readWord : Room := { frames := 5, cells := 0, slots := 0, locals := 109 }
set_option maxRecDepth 100000 in
set_option maxHeartbeats 4000000 in
theorem A_X6_readWord (l : Launch) {D : va_G} {cy : Nat → ClassId} {o : Nat} {sK sV : Nat → Nat} {M : jT} {a0 : Int} (ka0 : kd a0 = 6) {Q : Int → jT → Prop} (h : wp_X6_readWord M a0 Q) : CoI l yX6_readWord (wj yX6_readWord cX6_readWord 4 (some .int)) rm_X6_readWord D cy o sK sV M [.ref (rA o a0)] Q := by
  refine j_ofW (cc := cX6_readWord) (maxL := 4) (ret := (some .int)) (by decide) rfl (Nat.le_of_ble_eq_true rfl) ?_
  intro p e s m args below meth c hx hb hr hlocks hml hown hts hK hSX H locs hG ls hl Qf hQf
  have hown : s.vm.findClass RX6 = some m.cls := hown
  have hl : lv_has ls 4 [(0, .ref (rA o a0))] := hl
  have w_fl_RX6_26 := hts _ (List.mem_cons_of_mem _ fl_RX6_26)
  have w_fl_RX6_23 := hts _ (List.mem_cons_of_mem _ fl_RX6_23)
  have w_fl_RX6_11 := hts _ (List.mem_cons_of_mem _ fl_RX6_11)
  unfold wp_X6_readWord at h
  refine lv_aload_n hx hb dX6_readWord_0 rfl (lv_at hl 0 rfl) ?_
  refine j_geti hx hb hts hown hK hG (k := a0) (fun w h => List.mem_cons_of_mem _ (u_X6 w h)) (ci := 5) rfl ka0 3 (by decide) (jz := 3) rfl w_fl_RX6_26 dX6_readWord_1 ?_
  refine j_topi (fun x1 ex1 => ?_)
  have h := h x1 ex1
  refine lv_istore_n (lv' := [(1, .int (J x1)), (0, .ref (rA o a0))]) hx hb dX6_readWord_4 rfl hl (by decide) rfl (fun ls hl => ?_)
  refine lv_aload_n hx hb dX6_readWord_5 rfl (lv_at hl 1 rfl) ?_
  refine j_geti hx hb hts hown hK hG (k := a0) (fun w h => List.mem_cons_of_mem _ (u_X6 w h)) (ci := 5) rfl ka0 3 (by decide) (jz := 3) rfl w_fl_RX6_26 dX6_readWord_6 ?_
  refine j_topi (fun x2 ex2 => ?_)
  have h := h x2 ex2
  refine lv_istore_n (lv' := [(2, .int (J x2)), (1, .int (J x1)), (0, .ref (rA o a0))]) hx hb dX6_readWord_9 rfl hl (by decide) rfl (fun ls hl => ?_)
  obtain ⟨I4, ⟨n5s, iI4⟩, qI4⟩ := h
  have lI4 : ∀ (n5 : Nat) (x3 : Int), I4 n5 x3 → ∀ (H : Heap) (locs : List Loc), GM D cy o M s.heap H locs → ∀ ls : Array Slot, lv_has ls 4 [(0, .ref (rA o a0)), (1, .int (J x1)), (2, .int (J x3))] → W p l e rm_X6_readWord s m args below meth c H locs 0 0 Qf (F0 m 10 ls []) := by
    intro n5
    induction n5 using Nat.strongRecOn with
    | ind n5 rI4 =>
      intro x3 iI4 H locs hG ls hl
      have h := qI4 n5 x3 iI4
      refine lv_iload_n hx hb dX6_readWord_10 rfl (lv_at hl 2 rfl) ?_
      refine lv_aload_n hx hb dX6_readWord_11 rfl (lv_at hl 0 rfl) ?_
      refine j_geti hx hb hts hown hK hG (k := a0) (fun w h => List.mem_cons_of_mem _ (u_X6 w h)) (ci := 5) rfl ka0 0 (by decide) (jz := 0) rfl w_fl_RX6_23 dX6_readWord_12 ?_
      obtain ⟨K19, hK19, h⟩ := h
      have jK19 : K19 → ∀ (H : Heap) (locs : List Loc), GM D cy o M s.heap H locs → ∀ ls : Array Slot, lv_has ls 4 [(0, .ref (rA o a0)), (1, .int (J x1)), (2, .int (J x3))] → W p l e rm_X6_readWord s m args below meth c H locs 0 0 Qf (F0 m 44 ls []) := by
        intro hcK19 H locs hG ls hl
        have h := hK19 hcK19
        refine lv_iconst (v := J 0) hx hb dX6_readWord_44 (by decide) ?_
        refine lv_istore_n (lv' := [(3, .int (J 0)), (0, .ref (rA o a0)), (1, .int (J x1)), (2, .int (J x3))]) hx hb dX6_readWord_45 rfl hl (by decide) rfl (fun ls hl => ?_)
        obtain ⟨I21, ⟨n22s, iI21⟩, qI21⟩ := h
        have lI21 : ∀ (n22 : Nat) (x20 : Int), I21 n22 x20 → ∀ (H : Heap) (locs : List Loc), GM D cy o M s.heap H locs → ∀ ls : Array Slot, lv_has ls 4 [(0, .ref (rA o a0)), (1, .int (J x1)), (2, .int (J x3)), (3, .int (J x20))] → W p l e rm_X6_readWord s m args below meth c H locs 0 0 Qf (F0 m 46 ls []) := by
          intro n22
          induction n22 using Nat.strongRecOn with
          | ind n22 rI21 =>
            intro x20 iI21 H locs hG ls hl
            have h := qI21 n22 x20 iI21
            refine lv_iload_n hx hb dX6_readWord_46 rfl (lv_at hl 3 rfl) ?_
            refine lv_iconst (v := J 5) hx hb dX6_readWord_47 (by decide) ?_
            obtain ⟨g24, h⟩ := h
            refine j_icmp_ge (tgt := 77) hx hb dX6_readWord_48 (by decide) g24 (by decide) (fun c23 => ?_) (fun c23 => ?_)
            · have h := h.1 c23
              refine lv_aload_n hx hb dX6_readWord_77 rfl (lv_at hl 0 rfl) ?_
              refine lv_iload_n hx hb dX6_readWord_78 rfl (lv_at hl 1 rfl) ?_
              refine j_puti hx hb hts hown hK hG (k := a0) (fun w h => List.mem_cons_of_mem _ (u_X6 w h)) tyX6 tyX6_ok nmX6 (ci := 5) rfl ka0 2 (by decide) (jz := 2) rfl w_fl_RX6_11 (hd := rfl) (hn := rfl) (hfit := rfl) (hdg := dX6_readWord_79) (fun M25 eM25 H locs hG => ?_)
              have h := h M25 eM25
              refine lv_iconst (v := J (-1)) hx hb dX6_readWord_82 (by decide) ?_
              rw [hQf]
              exact j_ireti hx hb hr hlocks hG h (by decide) dX6_readWord_83
            · have h := h.2 c23
              refine lv_aload_n hx hb dX6_readWord_51 rfl (lv_at hl 0 rfl) ?_
              refine lv_iload_n hx hb dX6_readWord_52 rfl (lv_at hl 1 rfl) ?_
              refine lv_iload_n hx hb dX6_readWord_53 rfl (lv_at hl 2 rfl) ?_
              refine lv_iload_n hx hb dX6_readWord_54 rfl (lv_at hl 3 rfl) ?_
              refine j_conts (va_runS (As := [.int (J x20)]) (rest := [.int (J x3), .int (J x1), .ref (rA o a0)]) ⟨hx, hb, hml, hown, hts⟩ (A_X6_nameOf l h) (va_cwS 1 hts (gj_S ml_RX6_63 i_X6_nameOf n_RX6 k_X6_nameOf) rfl rfl rfl (by decide +kernel) ⟨by exact Nat.le_of_ble_eq_true rfl, by exact Nat.le_of_ble_eq_true rfl⟩) (j_preS hK hSX hG) rfl rfl hl.1 rfl (lv_room (Nat.le_of_ble_eq_true rfl)) dX6_readWord_55 ⟨by exact Nat.le_of_ble_eq_true rfl, by exact Nat.le_of_ble_eq_true rfl⟩) hG (c2 := 0) (s2 := 0) ⟨by exact Nat.le_of_ble_eq_true rfl, by exact Nat.le_of_ble_eq_true rfl⟩ (fun z26 M27 h hz26 H locs hG => ?_)
              obtain ⟨h, eM27⟩ := h
              rw [eM27] at hG
              refine j_conti (va_runV (As := [.int (J x1), .int (J x3), .ref (sK z26)]) (rest := []) ⟨hx, hb, hml, hown, hts⟩ (A_X6_isWord l ka0 hz26 h) (cwV 3 hts (gj_V ml_RX6_66 i_X6_isWord s_X6_isWord n_RX6 k_X6_isWord) rfl rfl rfl (by decide +kernel) ⟨by exact Nat.le_of_ble_eq_true rfl, by exact Nat.le_of_ble_eq_true rfl⟩) (j_preV hK hSX hG (ci := 5) rfl ka0 (by decide)) rfl rfl hl.1 rfl (lv_room (Nat.le_of_ble_eq_true rfl)) dX6_readWord_58 ⟨by exact Nat.le_of_ble_eq_true rfl, by exact Nat.le_of_ble_eq_true rfl⟩) hG (c2 := 0) (s2 := 0) ⟨by exact Nat.le_of_ble_eq_true rfl, by exact Nat.le_of_ble_eq_true rfl⟩ (fun z28 M29 h H locs hG => ?_)
              obtain ⟨h, eM29⟩ := h
              rw [eM29] at hG
              obtain ⟨g31, h⟩ := h
              refine j_if_eq (tgt := 71) hx hb dX6_readWord_61 (by decide) g31 (fun c30 => ?_) (fun c30 => ?_)
              · have h := h.1 c30
                refine j_iinc hx hb dX6_readWord_71 hl (k := 3) rfl (by decide) (fun x32 ex32 ls hl => ?_)
                have h := h x32 ex32
                have hl : lv_has ls 4 [(3, .int (J x32)), (0, .ref (rA o a0)), (1, .int (J x1)), (2, .int (J x3))] := hl
                refine lv_goto (tgt := 46) hx hb dX6_readWord_74 (by decide) ?_
                obtain ⟨n33, ln33, iI21⟩ := h
                exact rI21 n33 ln33 x32 iI21 H locs hG ls (lv_sub hl [1, 2, 3, 0] rfl)
              · have h := h.2 c30
                refine lv_aload_n hx hb dX6_readWord_64 rfl (lv_at hl 0 rfl) ?_
                refine lv_iload_n hx hb dX6_readWord_65 rfl (lv_at hl 2 rfl) ?_
                refine j_puti hx hb hts hown hK hG (k := a0) (fun w h => List.mem_cons_of_mem _ (u_X6 w h)) tyX6 tyX6_ok nmX6 (ci := 5) rfl ka0 3 (by decide) (jz := 3) rfl w_fl_RX6_26 (hd := rfl) (hn := rfl) (hfit := rfl) (hdg := dX6_readWord_66) (fun M34 eM34 H locs hG => ?_)
                have h := h M34 eM34
                refine lv_iload_n hx hb dX6_readWord_69 rfl (lv_at hl 3 rfl) ?_
                rw [hQf]
                exact j_ireti hx hb hr hlocks hG h (by decide) dX6_readWord_70
        exact lI21 n22s 0 iI21 H locs hG ls (lv_sub hl [1, 2, 3, 0] rfl)
      obtain ⟨g36, h⟩ := h
      obtain ⟨g37, h⟩ := h
      refine j_icmp_ge (tgt := 44) hx hb dX6_readWord_15 (by decide) g36 g37 (fun c35 => ?_) (fun c35 => ?_)
      · have h := h.1 c35
        exact jK19 h H locs hG ls (lv_sub hl [0, 1, 2] rfl)
      · have h := h.2 c35
        refine lv_aload_n hx hb dX6_readWord_18 rfl (lv_at hl 0 rfl) ?_
        refine lv_iload_n hx hb dX6_readWord_19 rfl (lv_at hl 2 rfl) ?_
        obtain ⟨g38, h⟩ := h
        refine j_conti (va_runV (As := [.int (J x3)]) (rest := []) ⟨hx, hb, hml, hown, hts⟩ (A_X6_letterAt l ka0 g38) (cwV 1 hts (gj_V ml_RX6_60 i_X6_letterAt s_X6_letterAt n_RX6 k_X6_letterAt) rfl rfl rfl (by decide +kernel) ⟨by exact Nat.le_of_ble_eq_true rfl, by exact Nat.le_of_ble_eq_true rfl⟩) (j_preV hK hSX hG (ci := 5) rfl ka0 (by decide)) rfl rfl hl.1 rfl (lv_room (Nat.le_of_ble_eq_true rfl)) dX6_readWord_20 ⟨by exact Nat.le_of_ble_eq_true rfl, by exact Nat.le_of_ble_eq_true rfl⟩) hG (c2 := 0) (s2 := 0) ⟨by exact Nat.le_of_ble_eq_true rfl, by exact Nat.le_of_ble_eq_true rfl⟩ (fun z39 M40 ez39 H locs hG => ?_)
        obtain ⟨ez39, eM40⟩ := ez39
        subst ez39
        rw [eM40] at hG
        refine lv_bipush (v := J 97) hx hb dX6_readWord_23 (by decide) ?_
        obtain ⟨g42, h⟩ := h
        refine j_icmp_lt (tgt := 44) hx hb dX6_readWord_25 (by decide) g42 (by decide) (fun c41 => ?_) (fun c41 => ?_)
        · have h := h.1 c41
          exact jK19 h H locs hG ls (lv_sub hl [0, 1, 2] rfl)
        · have h := h.2 c41
          refine lv_aload_n hx hb dX6_readWord_28 rfl (lv_at hl 0 rfl) ?_
          refine lv_iload_n hx hb dX6_readWord_29 rfl (lv_at hl 2 rfl) ?_
          refine j_conti (va_runV (As := [.int (J x3)]) (rest := []) ⟨hx, hb, hml, hown, hts⟩ (A_X6_letterAt l ka0 g38) (cwV 1 hts (gj_V ml_RX6_60 i_X6_letterAt s_X6_letterAt n_RX6 k_X6_letterAt) rfl rfl rfl (by decide +kernel) ⟨by exact Nat.le_of_ble_eq_true rfl, by exact Nat.le_of_ble_eq_true rfl⟩) (j_preV hK hSX hG (ci := 5) rfl ka0 (by decide)) rfl rfl hl.1 rfl (lv_room (Nat.le_of_ble_eq_true rfl)) dX6_readWord_30 ⟨by exact Nat.le_of_ble_eq_true rfl, by exact Nat.le_of_ble_eq_true rfl⟩) hG (c2 := 0) (s2 := 0) ⟨by exact Nat.le_of_ble_eq_true rfl, by exact Nat.le_of_ble_eq_true rfl⟩ (fun z43 M44 ez43 H locs hG => ?_)
          obtain ⟨ez43, eM44⟩ := ez43
          subst ez43
          rw [eM44] at hG
          refine lv_bipush (v := J 122) hx hb dX6_readWord_33 (by decide) ?_
          refine j_icmp_gt (tgt := 44) hx hb dX6_readWord_35 (by decide) g42 (by decide) (fun c45 => ?_) (fun c45 => ?_)
          · have h := h.1 c45
            exact jK19 h H locs hG ls (lv_sub hl [0, 1, 2] rfl)
          · have h := h.2 c45
            refine j_iinc hx hb dX6_readWord_38 hl (k := 2) rfl (by decide) (fun x46 ex46 ls hl => ?_)
            have h := h x46 ex46
            have hl : lv_has ls 4 [(2, .int (J x46)), (0, .ref (rA o a0)), (1, .int (J x1))] := hl
            refine lv_goto (tgt := 10) hx hb dX6_readWord_41 (by decide) ?_
            obtain ⟨n47, ln47, iI4⟩ := h
            exact rI4 n47 ln47 x46 iI4 H locs hG ls (lv_sub hl [1, 2, 0] rfl)
  exact lI4 n5s x2 iI4 H locs hG ls (lv_sub hl [2, 1, 0] rfl)
abbrev rm_X6_readCommand : Room := { frames := 6, cells := 0, slots := 0, locals := 132 }
set_option maxRecDepth 100000 in
set_option maxHeartbeats 4000000 in
theorem A_X6_readCommand (l : Launch) {D : va_G} {cy : Nat → ClassId} {o : Nat} {sK sV : Nat → Nat} {M : jT} {a0 : Int} {a1 : Int} (ka0 : kd a0 = 6) {Q : jT → Prop} (h : wp_X6_readCommand M a0 a1 Q) : CoV l yX6_readCommand (wj yX6_readCommand cX6_readCommand 6 none) rm_X6_readCommand D cy o sK sV M [.ref (rA o a0), .int (J a1)] Q := by
  refine j_ofW (cc := cX6_readCommand) (maxL := 6) (ret := none) (by decide) rfl (Nat.le_of_ble_eq_true rfl) ?_
  intro p e s m args below meth c hx hb hr hlocks hml hown hts hK hSX H locs hG ls hl Qf hQf
  have hown : s.vm.findClass RX6 = some m.cls := hown
  have hl : lv_has ls 6 [(0, .ref (rA o a0)), (1, .int (J a1))] := hl
  have w_fl_RX6_19 := hts _ (List.mem_cons_of_mem _ fl_RX6_19)
  have w_fl_RX6_26 := hts _ (List.mem_cons_of_mem _ fl_RX6_26)
  have w_fl_RX6_11 := hts _ (List.mem_cons_of_mem _ fl_RX6_11)
  unfold wp_X6_readCommand at h
  refine lv_aload_n hx hb dX6_readCommand_0 rfl (lv_at hl 0 rfl) ?_
  refine j_getr hx hb hts hown hK hG (k := a0) (fun w h => List.mem_cons_of_mem _ (u_X6 w h)) (ci := 5) rfl ka0 5 (k2 := a0 + 2) (by decide) (by show a0 + (2 : Int) = a0 + 2; omega) w_fl_RX6_19 dX6_readCommand_1 ?_
  refine lv_iload_n hx hb dX6_readCommand_4 rfl (lv_at hl 1 rfl) ?_
  refine lv_iconst (v := J 1) hx hb dX6_readCommand_5 (by decide) ?_
  refine j_iadd hx hb dX6_readCommand_6 ?_
  refine lv_aload_n hx hb dX6_readCommand_7 rfl (lv_at hl 0 rfl) ?_
  refine j_geti hx hb hts hown hK hG (k := a0) (fun w h => List.mem_cons_of_mem _ (u_X6 w h)) (ci := 5) rfl ka0 3 (by decide) (jz := 3) rfl w_fl_RX6_26 dX6_readCommand_8 ?_
  obtain ⟨g1, h⟩ := h
  refine j_iast hx hb hK hG (n := 90) (kf_6_5 ka0) (by decide) g1 dX6_readCommand_11 (fun M2 eM2 H locs hG => ?_)
  have h := h M2 eM2
  refine lv_aload_n hx hb dX6_readCommand_12 rfl (lv_at hl 0 rfl) ?_
  refine j_conti (va_runV (As := []) (rest := []) ⟨hx, hb, hml, hown, hts⟩ (A_X6_readWord l ka0 h) (cwV 0 hts (gj_V ml_RX6_36 i_X6_readWord s_X6_readWord n_RX6 k_X6_readWord) rfl rfl rfl (by decide +kernel) ⟨by exact Nat.le_of_ble_eq_true rfl, by exact Nat.le_of_ble_eq_true rfl⟩) (j_preV hK hSX hG (ci := 5) rfl ka0 (by decide)) rfl rfl hl.1 rfl (lv_room (Nat.le_of_ble_eq_true rfl)) dX6_readCommand_13 ⟨by exact Nat.le_of_ble_eq_true rfl, by exact Nat.le_of_ble_eq_true rfl⟩) hG (c2 := 0) (s2 := 0) ⟨by exact Nat.le_of_ble_eq_true rfl, by exact Nat.le_of_ble_eq_true rfl⟩ (fun z3 M4 h H locs hG => ?_)
  refine lv_istore_n (lv' := [(2, .int (J z3)), (0, .ref (rA o a0)), (1, .int (J a1))]) hx hb dX6_readCommand_16 rfl hl (by decide) rfl (fun ls hl => ?_)
  refine lv_aload_n hx hb dX6_readCommand_17 rfl (lv_at hl 1 rfl) ?_
  refine j_geti hx hb hts hown hK hG (k := a0) (fun w h => List.mem_cons_of_mem _ (u_X6 w h)) (ci := 5) rfl ka0 2 (by decide) (jz := 2) rfl w_fl_RX6_11 dX6_readCommand_18 ?_
  obtain ⟨g6, h⟩ := h
  refine j_if_lt (tgt := 25) hx hb dX6_readCommand_21 (by decide) g6 (fun c5 => ?_) (fun c5 => ?_)
  · have h := h.1 c5
    refine lv_aload_n hx hb dX6_readCommand_25 rfl (lv_at hl 1 rfl) ?_
    refine j_getr hx hb hts hown hK hG (k := a0) (fun w h => List.mem_cons_of_mem _ (u_X6 w h)) (ci := 5) rfl ka0 5 (k2 := a0 + 2) (by decide) (by show a0 + (2 : Int) = a0 + 2; omega) w_fl_RX6_19 dX6_readCommand_26 ?_
    refine lv_iload_n hx hb dX6_readCommand_29 rfl (lv_at hl 2 rfl) ?_
    refine lv_iload_n hx hb dX6_readCommand_30 rfl (lv_at hl 0 rfl) ?_
    obtain ⟨g7, h⟩ := h
    refine j_iast hx hb hK hG (n := 90) (kf_6_5 ka0) (by decide) g7 dX6_readCommand_31 (fun M8 eM8 H locs hG => ?_)
    have h := h M8 eM8
    refine lv_aload_n hx hb dX6_readCommand_32 rfl (lv_at hl 1 rfl) ?_
    refine lv_bipush (v := J 58) hx hb dX6_readCommand_33 (by decide) ?_
    refine j_contv (va_runV (As := [.int (J 58)]) (rest := []) ⟨hx, hb, hml, hown, hts⟩ (A_X6_readSign l ka0 h) (cwV 1 hts (gj_V ml_RX6_40 i_X6_readSign s_X6_readSign n_RX6 k_X6_readSign) rfl rfl rfl (by decide +kernel) ⟨by exact Nat.le_of_ble_eq_true rfl, by exact Nat.le_of_ble_eq_true rfl⟩) (j_preV hK hSX hG (ci := 5) rfl ka0 (by decide)) rfl rfl hl.1 rfl (lv_room (Nat.le_of_ble_eq_true rfl)) dX6_readCommand_35 ⟨by exact Nat.le_of_ble_eq_true rfl, by exact Nat.le_of_ble_eq_true rfl⟩) hG (c2 := 0) (s2 := 0) ⟨by exact Nat.le_of_ble_eq_true rfl, by exact Nat.le_of_ble_eq_true rfl⟩ (fun M10 h H locs hG => ?_)
    refine lv_iload_n hx hb dX6_readCommand_38 rfl (lv_at hl 0 rfl) ?_
    refine j_conts (va_runS (As := [.int (J z3)]) (rest := []) ⟨hx, hb, hml, hown, hts⟩ (A_X6_kindsOf l h) (va_cwS 1 hts (gj_S ml_RX6_44 i_X6_kindsOf n_RX6 k_X6_kindsOf) rfl rfl rfl (by decide +kernel) ⟨by exact Nat.le_of_ble_eq_true rfl, by exact Nat.le_of_ble_eq_true rfl⟩) (j_preS hK hSX hG) rfl rfl hl.1 rfl (lv_room (Nat.le_of_ble_eq_true rfl)) dX6_readCommand_39 ⟨by exact Nat.le_of_ble_eq_true rfl, by exact Nat.le_of_ble_eq_true rfl⟩) hG (c2 := 0) (s2 := 0) ⟨by exact Nat.le_of_ble_eq_true rfl, by exact Nat.le_of_ble_eq_true rfl⟩ (fun z11 M12 h hz11 H locs hG => ?_)
    obtain ⟨h, eM12⟩ := h
    rw [eM12] at hG
    refine lv_astore_n (lv' := [(3, .ref (sK z11)), (2, .int (J z3)), (0, .ref (rA o a0)), (1, .int (J a1))]) hx hb dX6_readCommand_42 rfl hl (by decide) rfl (fun ls hl => ?_)
    refine lv_aload_n hx hb dX6_readCommand_43 rfl (lv_at hl 0 rfl) ?_
    refine j_conti (va_runV (As := []) (rest := []) ⟨hx, hb, hml, hown, hts⟩ (A_J0_length l hz11) (cwV 0 hts (gj_V ml_RX6_48 i_J0_length_8abf5 s_J0_length_8abf5 n_RJ0 k_J0_length_8abf5) rfl rfl rfl (by decide +kernel) ⟨by exact Nat.le_of_ble_eq_true rfl, by exact Nat.le_of_ble_eq_true rfl⟩) (j_preVS hK hSX hG hz11) rfl rfl hl.1 rfl (lv_room (Nat.le_of_ble_eq_true rfl)) dX6_readCommand_44 ⟨by exact Nat.le_of_ble_eq_true rfl, by exact Nat.le_of_ble_eq_true rfl⟩) hG (c2 := 0) (s2 := 0) ⟨by exact Nat.le_of_ble_eq_true rfl, by exact Nat.le_of_ble_eq_true rfl⟩ (fun z13 M14 ez13 H locs hG => ?_)
    obtain ⟨ez13, eM14⟩ := ez13
    subst ez13
    rw [eM14] at hG
    refine j_topi (fun x15 ex15 => ?_)
    have h := h x15 ex15
    refine lv_istore (lv' := [(4, .int (J x15)), (3, .ref (sK z11)), (2, .int (J z3)), (0, .ref (rA o a0)), (1, .int (J a1))]) hx hb dX6_readCommand_47 hl (by decide) rfl (fun ls hl => ?_)
    refine lv_iconst (v := J 0) hx hb dX6_readCommand_49 (by decide) ?_
    refine lv_istore (lv' := [(5, .int (J 0)), (4, .int (J x15)), (3, .ref (sK z11)), (2, .int (J z3)), (0, .ref (rA o a0)), (1, .int (J a1))]) hx hb dX6_readCommand_50 hl (by decide) rfl (fun ls hl => ?_)
    obtain ⟨I18, ⟨n19s, iI18⟩, qI18⟩ := h
    have lI18 : ∀ (n19 : Nat) (x16 : Int) (M17 : jT), I18 n19 x16 M17 → ∀ (H : Heap) (locs : List Loc), GM D cy o M17 s.heap H locs → ∀ ls : Array Slot, lv_has ls 6 [(0, .ref (rA o a0)), (1, .int (J a1)), (3, .ref (sK z11)), (4, .int (J x15)), (5, .int (J x16))] → W p l e rm_X6_readCommand s m args below meth c H locs 0 0 Qf (F0 m 52 ls []) := by
      intro n19
      induction n19 using Nat.strongRecOn with
      | ind n19 rI18 =>
        intro x16 M17 iI18 H locs hG ls hl
        have h := qI18 n19 x16 M17 iI18
        refine lv_iload hx hb dX6_readCommand_52 (lv_at hl 4 rfl) ?_
        refine lv_iload hx hb dX6_readCommand_54 (lv_at hl 3 rfl) ?_
        obtain ⟨K42, hK42, h⟩ := h
        have jK42 : K42 → ∀ (H : Heap) (locs : List Loc), GM D cy o M17 s.heap H locs → ∀ ls : Array Slot, lv_has ls 6 [] → W p l e rm_X6_readCommand s m args below meth c H locs 0 0 Qf (F0 m 113 ls []) := by
          intro hcK42 H locs hG ls hl
          have h := hK42 hcK42
          rw [hQf]
          exact j_vret hx hb hr hlocks hG h (by decide) dX6_readCommand_113
        obtain ⟨g44, h⟩ := h
        obtain ⟨g45, h⟩ := h
        refine j_icmp_ge (tgt := 113) hx hb dX6_readCommand_56 (by decide) g44 g45 (fun c43 => ?_) (fun c43 => ?_)
        · have h := h.1 c43
          exact jK42 h H locs hG ls (lv_sub hl [] rfl)
        · have h := h.2 c43
          refine lv_aload_n hx hb dX6_readCommand_59 rfl (lv_at hl 0 rfl) ?_
          refine j_geti hx hb hts hown hK hG (k := a0) (fun w h => List.mem_cons_of_mem _ (u_X6 w h)) (ci := 5) rfl ka0 2 (by decide) (jz := 2) rfl w_fl_RX6_11 dX6_readCommand_60 ?_
          obtain ⟨g47, h⟩ := h
          refine j_if_ge (tgt := 113) hx hb dX6_readCommand_63 (by decide) g47 (fun c46 => ?_) (fun c46 => ?_)
          · have h := h.1 c46
            exact jK42 h H locs hG ls (lv_sub hl [] rfl)
          · have h := h.2 c46
            refine lv_aload_n hx hb dX6_readCommand_66 rfl (lv_at hl 0 rfl) ?_
            refine j_getr hx hb hts hown hK hG (k := a0) (fun w h => List.mem_cons_of_mem _ (u_X6 w h)) (ci := 5) rfl ka0 5 (k2 := a0 + 2) (by decide) (by show a0 + (2 : Int) = a0 + 2; omega) w_fl_RX6_19 dX6_readCommand_67 ?_
            refine lv_iload_n hx hb dX6_readCommand_70 rfl (lv_at hl 1 rfl) ?_
            refine lv_iconst (v := J 2) hx hb dX6_readCommand_71 (by decide) ?_
            refine j_iadd hx hb dX6_readCommand_72 ?_
            refine lv_iload hx hb dX6_readCommand_73 (lv_at hl 4 rfl) ?_
            refine j_iadd hx hb dX6_readCommand_75 ?_
            refine lv_aload_n hx hb dX6_readCommand_76 rfl (lv_at hl 0 rfl) ?_
            refine lv_aload_n hx hb dX6_readCommand_77 rfl (lv_at hl 2 rfl) ?_
            refine lv_iload hx hb dX6_readCommand_78 (lv_at hl 4 rfl) ?_
            obtain ⟨g48, h⟩ := h
            refine j_conti (va_runV (As := [.int (J x16)]) (rest := [.ref (rA o a0), .int (J ((a1 + 2) + x16)), .ref (rA o (a0 + 2))]) ⟨hx, hb, hml, hown, hts⟩ (A_J0_charAt l hz11 g48) (cwV 1 hts (gj_V ml_RX6_52 i_J0_charAt_5068e s_J0_charAt_5068e n_RJ0 k_J0_charAt_5068e) rfl rfl rfl (by decide +kernel) ⟨by exact Nat.le_of_ble_eq_true rfl, by exact Nat.le_of_ble_eq_true rfl⟩) (j_preVS hK hSX hG hz11) rfl rfl hl.1 rfl (lv_room (Nat.le_of_ble_eq_true rfl)) dX6_readCommand_80 ⟨by exact Nat.le_of_ble_eq_true rfl, by exact Nat.le_of_ble_eq_true rfl⟩) hG (c2 := 0) (s2 := 0) ⟨by exact Nat.le_of_ble_eq_true rfl, by exact Nat.le_of_ble_eq_true rfl⟩ (fun z49 M50 ez49 H locs hG => ?_)
            obtain ⟨ez49, eM50⟩ := ez49
            subst ez49
            rw [eM50] at hG
            refine j_conti (va_runV (As := [.int (J (sCh z11 x16))]) (rest := [.int (J ((a1 + 2) + x16)), .ref (rA o (a0 + 2))]) ⟨hx, hb, hml, hown, hts⟩ (A_X6_readItem l ka0 h) (cwV 1 hts (gj_V ml_RX6_56 i_X6_readItem s_X6_readItem n_RX6 k_X6_readItem) rfl rfl rfl (by decide +kernel) ⟨by exact Nat.le_of_ble_eq_true rfl, by exact Nat.le_of_ble_eq_true rfl⟩) (j_preV hK hSX hG (ci := 5) rfl ka0 (by decide)) rfl rfl hl.1 rfl (lv_room (Nat.le_of_ble_eq_true rfl)) dX6_readCommand_83 ⟨by exact Nat.le_of_ble_eq_true rfl, by exact Nat.le_of_ble_eq_true rfl⟩) hG (c2 := 0) (s2 := 0) ⟨by exact Nat.le_of_ble_eq_true rfl, by exact Nat.le_of_ble_eq_true rfl⟩ (fun z51 M52 h H locs hG => ?_)
            obtain ⟨g53, h⟩ := h
            refine j_iast hx hb hK hG (n := 90) (kf_6_5 ka0) (by decide) g53 dX6_readCommand_86 (fun M54 eM54 H locs hG => ?_)
            have h := h M54 eM54
            refine lv_aload_n hx hb dX6_readCommand_87 rfl (lv_at hl 0 rfl) ?_
            refine lv_iload hx hb dX6_readCommand_88 (lv_at hl 4 rfl) ?_
            refine lv_iconst (v := J 1) hx hb dX6_readCommand_90 (by decide) ?_
            refine j_iadd hx hb dX6_readCommand_91 ?_
            refine lv_iload hx hb dX6_readCommand_92 (lv_at hl 3 rfl) ?_
            obtain ⟨hg, h⟩ := h
            have jK58 : ∀ x57 : Int, (x15 ≤ x16 + 1 → x57 = 59) → (x16 + 1 < x15 → x57 = 44) → ∀ (H : Heap) (locs : List Loc), GM D cy o M54 s.heap H locs → ∀ ls : Array Slot, lv_has ls 6 [(0, .ref (rA o a0)), (1, .int (J a1)), (3, .ref (sK z11)), (4, .int (J x15)), (5, .int (J x16))] → W p l e rm_X6_readCommand s m args below meth c H locs 0 0 Qf (F0 m 104 ls [.int (J x57), .ref (rA o a0)]) := by
              intro x57 qx57_0 qx57_1 H locs hG ls hl
              have h := h x57 qx57_0 qx57_1
              refine j_contv (va_runV (As := [.int (J x57)]) (rest := []) ⟨hx, hb, hml, hown, hts⟩ (A_X6_readSign l ka0 h) (cwV 1 hts (gj_V ml_RX6_40 i_X6_readSign s_X6_readSign n_RX6 k_X6_readSign) rfl rfl rfl (by decide +kernel) ⟨by exact Nat.le_of_ble_eq_true rfl, by exact Nat.le_of_ble_eq_true rfl⟩) (j_preV hK hSX hG (ci := 5) rfl ka0 (by decide)) rfl rfl hl.1 rfl (lv_room (Nat.le_of_ble_eq_true rfl)) dX6_readCommand_104 ⟨by exact Nat.le_of_ble_eq_true rfl, by exact Nat.le_of_ble_eq_true rfl⟩) hG (c2 := 0) (s2 := 0) ⟨by exact Nat.le_of_ble_eq_true rfl, by exact Nat.le_of_ble_eq_true rfl⟩ (fun M62 h H locs hG => ?_)
              refine j_iinc hx hb dX6_readCommand_107 hl (k := 4) rfl (by decide) (fun x63 ex63 ls hl => ?_)
              have h := h x63 ex63
              have hl : lv_has ls 6 [(5, .int (J x63)), (0, .ref (rA o a0)), (1, .int (J a1)), (3, .ref (sK z11)), (4, .int (J x15))] := hl
              refine lv_goto (tgt := 52) hx hb dX6_readCommand_110 (by decide) ?_
              obtain ⟨n64, ln64, iI18⟩ := h
              exact rI18 n64 ln64 x63 M62 iI18 H locs hG ls (lv_sub hl [1, 2, 3, 4, 0] rfl)
            have h := hg
            obtain ⟨g60, h⟩ := h
            refine j_icmp_ge (tgt := 102) hx hb dX6_readCommand_94 (by decide) g60 g45 (fun c59 => ?_) (fun c59 => ?_)
            · have h := h.1 c59
              refine lv_bipush (v := J 59) hx hb dX6_readCommand_102 (by decide) ?_
              exact jK58 59 (fun _ => rfl) (fun q => absurd q (by omega)) H locs hG ls (lv_sub hl [0, 1, 2, 3, 4] rfl)
            · have h := h.2 c59
              refine lv_bipush (v := J 44) hx hb dX6_readCommand_97 (by decide) ?_
              refine lv_goto (tgt := 104) hx hb dX6_readCommand_99 (by decide) ?_
              exact jK58 44 (fun q => absurd q (by omega)) (fun _ => rfl) H locs hG ls (lv_sub hl [0, 1, 2, 3, 4] rfl)
    exact lI18 n19s 0 M10 iI18 H locs hG ls (lv_sub hl [4, 5, 2, 1, 0] rfl)
  · have h := h.2 c5
    rw [hQf]
    exact j_vret hx hb hr hlocks hG h (by decide) dX6_readCommand_24
abbrev rm_X6_readText : Room := { frames := 7, cells := 0, slots := 0, locals := 157 }
set_option maxRecDepth 100000 in
set_option maxHeartbeats 4000000 in
theorem A_X6_readText (l : Launch) {D : va_G} {cy : Nat → ClassId} {o : Nat} {sK sV : Nat → Nat} {M : jT} {a0 : Int} (ka0 : kd a0 = 6) {Q : Int → jT → Prop} (h : wp_X6_readText M a0 Q) : CoI l yX6_readText (wj yX6_readText cX6_readText 1 (some .boolean)) rm_X6_readText D cy o sK sV M [.ref (rA o a0)] Q := by
  refine j_ofW (cc := cX6_readText) (maxL := 1) (ret := (some .boolean)) (by decide) rfl (Nat.le_of_ble_eq_true rfl) ?_
  intro p e s m args below meth c hx hb hr hlocks hml hown hts hK hSX H locs hG ls hl Qf hQf
  have hown : s.vm.findClass RX6 = some m.cls := hown
  have hl : lv_has ls 1 [(0, .ref (rA o a0))] := hl
  have w_fl_RX6_26 := hts _ (List.mem_cons_of_mem _ fl_RX6_26)
  have w_fl_RX6_11 := hts _ (List.mem_cons_of_mem _ fl_RX6_11)
  have w_fl_RX6_29 := hts _ (List.mem_cons_of_mem _ fl_RX6_29)
  have w_fl_RX6_23 := hts _ (List.mem_cons_of_mem _ fl_RX6_23)
  unfold wp_X6_readText at h
  refine lv_aload_n hx hb dX6_readText_0 rfl (lv_at hl 0 rfl) ?_
  refine lv_iconst (v := J 0) hx hb dX6_readText_1 (by decide) ?_
  refine j_puti hx hb hts hown hK hG (k := a0) (fun w h => List.mem_cons_of_mem _ (u_X6 w h)) tyX6 tyX6_ok nmX6 (ci := 5) rfl ka0 3 (by decide) (jz := 3) rfl w_fl_RX6_26 (hd := rfl) (hn := rfl) (hfit := rfl) (hdg := dX6_readText_2) (fun M1 eM1 H locs hG => ?_)
  have h := h M1 eM1
  refine lv_aload_n hx hb dX6_readText_5 rfl (lv_at hl 0 rfl) ?_
  refine lv_iconst (v := J (-1)) hx hb dX6_readText_6 (by decide) ?_
  refine j_puti hx hb hts hown hK hG (k := a0) (fun w h => List.mem_cons_of_mem _ (u_X6 w h)) tyX6 tyX6_ok nmX6 (ci := 5) rfl ka0 2 (by decide) (jz := 2) rfl w_fl_RX6_11 (hd := rfl) (hn := rfl) (hfit := rfl) (hdg := dX6_readText_7) (fun M2 eM2 H locs hG => ?_)
  have h := h M2 eM2
  refine lv_aload_n hx hb dX6_readText_10 rfl (lv_at hl 0 rfl) ?_
  refine lv_iconst (v := J 0) hx hb dX6_readText_11 (by decide) ?_
  refine j_puti hx hb hts hown hK hG (k := a0) (fun w h => List.mem_cons_of_mem _ (u_X6 w h)) tyX6 tyX6_ok nmX6 (ci := 5) rfl ka0 1 (by decide) (jz := 1) rfl w_fl_RX6_29 (hd := rfl) (hn := rfl) (hfit := rfl) (hdg := dX6_readText_12) (fun M3 eM3 H locs hG => ?_)
  have h := h M3 eM3
  obtain ⟨I5, ⟨n6s, iI5⟩, qI5⟩ := h
  have lI5 : ∀ (n6 : Nat) (M4 : jT), I5 n6 M4 → ∀ (H : Heap) (locs : List Loc), GM D cy o M4 s.heap H locs → ∀ ls : Array Slot, lv_has ls 1 [(0, .ref (rA o a0))] → W p l e rm_X6_readText s m args below meth c H locs 0 0 Qf (F0 m 15 ls []) := by
    intro n6
    induction n6 using Nat.strongRecOn with
    | ind n6 rI5 =>
      intro M4 iI5 H locs hG ls hl
      have h := qI5 n6 M4 iI5
      refine lv_aload_n hx hb dX6_readText_15 rfl (lv_at hl 0 rfl) ?_
      refine lv_aload_n hx hb dX6_readText_16 rfl (lv_at hl 0 rfl) ?_
      refine j_geti hx hb hts hown hK hG (k := a0) (fun w h => List.mem_cons_of_mem _ (u_X6 w h)) (ci := 5) rfl ka0 1 (by decide) (jz := 1) rfl w_fl_RX6_29 dX6_readText_17 ?_
      refine lv_bipush (v := J 10) hx hb dX6_readText_20 (by decide) ?_
      refine j_imul hx hb dX6_readText_22 ?_
      refine j_contv (va_runV (As := [.int (J ((M4 a0 1) * 10))]) (rest := []) ⟨hx, hb, hml, hown, hts⟩ (A_X6_readCommand l ka0 h) (cwV 1 hts (gj_V ml_RX6_32 i_X6_readCommand s_X6_readCommand n_RX6 k_X6_readCommand) rfl rfl rfl (by decide +kernel) ⟨by exact Nat.le_of_ble_eq_true rfl, by exact Nat.le_of_ble_eq_true rfl⟩) (j_preV hK hSX hG (ci := 5) rfl ka0 (by decide)) rfl rfl hl.1 rfl (lv_room (Nat.le_of_ble_eq_true rfl)) dX6_readText_23 ⟨by exact Nat.le_of_ble_eq_true rfl, by exact Nat.le_of_ble_eq_true rfl⟩) hG (c2 := 0) (s2 := 0) ⟨by exact Nat.le_of_ble_eq_true rfl, by exact Nat.le_of_ble_eq_true rfl⟩ (fun M8 h H locs hG => ?_)
      refine lv_aload_n hx hb dX6_readText_26 rfl (lv_at hl 0 rfl) ?_
      refine lv_dup hx hb dX6_readText_27 rfl ?_
      refine j_geti hx hb hts hown hK hG (k := a0) (fun w h => List.mem_cons_of_mem _ (u_X6 w h)) (ci := 5) rfl ka0 1 (by decide) (jz := 1) rfl w_fl_RX6_29 dX6_readText_28 ?_
      refine lv_iconst (v := J 1) hx hb dX6_readText_31 (by decide) ?_
      refine j_iadd hx hb dX6_readText_32 ?_
      refine j_puti hx hb hts hown hK hG (k := a0) (fun w h => List.mem_cons_of_mem _ (u_X6 w h)) tyX6 tyX6_ok nmX6 (ci := 5) rfl ka0 1 (by decide) (jz := 1) rfl w_fl_RX6_29 (hd := rfl) (hn := rfl) (hfit := rfl) (hdg := dX6_readText_33) (fun M9 eM9 H locs hG => ?_)
      have h := h M9 eM9
      refine lv_aload_n hx hb dX6_readText_36 rfl (lv_at hl 0 rfl) ?_
      refine j_geti hx hb hts hown hK hG (k := a0) (fun w h => List.mem_cons_of_mem _ (u_X6 w h)) (ci := 5) rfl ka0 2 (by decide) (jz := 2) rfl w_fl_RX6_11 dX6_readText_37 ?_
      obtain ⟨K18, hK18, h⟩ := h
      have jK18 : K18 → ∀ (H : Heap) (locs : List Loc), GM D cy o M9 s.heap H locs → ∀ ls : Array Slot, lv_has ls 1 [(0, .ref (rA o a0))] → W p l e rm_X6_readText s m args below meth c H locs 0 0 Qf (F0 m 63 ls []) := by
        intro hcK18 H locs hG ls hl
        have h := hK18 hcK18
        refine lv_aload_n hx hb dX6_readText_63 rfl (lv_at hl 0 rfl) ?_
        refine j_geti hx hb hts hown hK hG (k := a0) (fun w h => List.mem_cons_of_mem _ (u_X6 w h)) (ci := 5) rfl ka0 2 (by decide) (jz := 2) rfl w_fl_RX6_11 dX6_readText_64 ?_
        obtain ⟨hg, h⟩ := h
        have jK22 : ∀ x21 : Int, x21 = b2i (M9 a0 2 < 0) → ∀ (H : Heap) (locs : List Loc), GM D cy o M9 s.heap H locs → ∀ ls : Array Slot, lv_has ls 1 [] → W p l e rm_X6_readText s m args below meth c H locs 0 0 Qf (F0 m 75 ls [.int (J x21)]) := by
          intro x21 ex21 H locs hG ls hl
          subst ex21
          rw [hQf]
          exact j_iretn hx hb hr hlocks (nar_b (b2i_rng _)) hG h (by decide) dX6_readText_75
        have h := hg
        obtain ⟨g24, h⟩ := h
        refine j_if_ge (tgt := 74) hx hb dX6_readText_67 (by decide) g24 (fun c23 => ?_) (fun c23 => ?_)
        · have h := h.1 c23
          refine lv_iconst (v := J 0) hx hb dX6_readText_74 (by decide) ?_
          exact jK22 0 (b2i_iff0 (iff_of_false (show ¬ (M9 a0 2 < 0) from by omega) id)) H locs hG ls (lv_sub hl [] rfl)
        · have h := h.2 c23
          refine lv_iconst (v := J 1) hx hb dX6_readText_70 (by decide) ?_
          refine lv_goto (tgt := 75) hx hb dX6_readText_71 (by decide) ?_
          exact jK22 1 (b2i_iff1 (iff_of_true c23 trivial)) H locs hG ls (lv_sub hl [] rfl)
      obtain ⟨g26, h⟩ := h
      refine j_if_ge (tgt := 63) hx hb dX6_readText_40 (by decide) g26 (fun c25 => ?_) (fun c25 => ?_)
      · have h := h.1 c25
        exact jK18 h H locs hG ls (lv_sub hl [0] rfl)
      · have h := h.2 c25
        refine lv_aload_n hx hb dX6_readText_43 rfl (lv_at hl 0 rfl) ?_
        refine j_geti hx hb hts hown hK hG (k := a0) (fun w h => List.mem_cons_of_mem _ (u_X6 w h)) (ci := 5) rfl ka0 3 (by decide) (jz := 3) rfl w_fl_RX6_26 dX6_readText_44 ?_
        refine lv_aload_n hx hb dX6_readText_47 rfl (lv_at hl 0 rfl) ?_
        refine j_geti hx hb hts hown hK hG (k := a0) (fun w h => List.mem_cons_of_mem _ (u_X6 w h)) (ci := 5) rfl ka0 0 (by decide) (jz := 0) rfl w_fl_RX6_23 dX6_readText_48 ?_
        obtain ⟨g28, h⟩ := h
        obtain ⟨g29, h⟩ := h
        refine j_icmp_ge (tgt := 63) hx hb dX6_readText_51 (by decide) g28 g29 (fun c27 => ?_) (fun c27 => ?_)
        · have h := h.1 c27
          exact jK18 h H locs hG ls (lv_sub hl [0] rfl)
        · have h := h.2 c27
          refine lv_aload_n hx hb dX6_readText_54 rfl (lv_at hl 0 rfl) ?_
          refine j_geti hx hb hts hown hK hG (k := a0) (fun w h => List.mem_cons_of_mem _ (u_X6 w h)) (ci := 5) rfl ka0 1 (by decide) (jz := 1) rfl w_fl_RX6_29 dX6_readText_55 ?_
          refine lv_bipush (v := J 9) hx hb dX6_readText_58 (by decide) ?_
          obtain ⟨g31, h⟩ := h
          refine j_icmp_lt (tgt := 15) hx hb dX6_readText_60 (by decide) g31 (by decide) (fun c30 => ?_) (fun c30 => ?_)
          · have h := h.1 c30
            obtain ⟨n32, ln32, iI5⟩ := h
            exact rI5 n32 ln32 M9 iI5 H locs hG ls (lv_sub hl [0] rfl)
          · have h := h.2 c30
            exact jK18 h H locs hG ls (lv_sub hl [0] rfl)
  exact lI5 n6s M3 iI5 H locs hG ls (lv_sub hl [0] rfl)
abbrev rom_X10_run : Room := { frames := 8, cells := 0, slots := 0, locals := 177 }
set_option maxRecDepth 100000 in
set_option maxHeartbeats 4000000 in
theorem Ao_X10_run (l : Launch) {D : va_G} {cy : Nat → ClassId} {o : Nat} {sK sV : Nat → Nat} {M : jT} {a0 : Int} (ka0 : kd a0 = 10) {Q : Int → jT → Prop} (h : wo_X10_run M a0 Q) : CoI l yX10_run (wj yX10_run cX10_run 3 (some .int)) rom_X10_run D cy o sK sV M [.ref (rA o a0)] Q := by
  refine j_ofW (cc := cX10_run) (maxL := 3) (ret := (some .int)) (by decide) rfl (Nat.le_of_ble_eq_true rfl) ?_
  intro p e s m args below meth c hx hb hr hlocks hml hown hts hK hSX H locs hG ls hl Qf hQf
  have hown : s.vm.findClass RX10 = some m.cls := hown
  have hl : lv_has ls 3 [(0, .ref (rA o a0))] := hl
  have w_fl_RX10_47 := hts _ (List.mem_cons_of_mem _ fl_RX10_47)
  have w_fl_RX10_378 := hts _ (List.mem_cons_of_mem _ fl_RX10_378)
  have w_fl_RX10_19 := hts _ (List.mem_cons_of_mem _ fl_RX10_19)
  have w_fl_RX10_12 := hts _ (List.mem_cons_of_mem _ fl_RX10_12)
  have w_fl_RX10_393 := hts _ (List.mem_cons_of_mem _ fl_RX10_393)
  have w_fl_RX10_402 := hts _ (List.mem_cons_of_mem _ fl_RX10_402)
  unfold wo_X10_run at h
  refine lv_aload_n hx hb dX10_run_0 rfl (lv_at hl 0 rfl) ?_
  refine j_getr hx hb hts hown hK hG (k := a0) (fun w h => List.mem_cons_of_mem _ (u_X10 w h)) (ci := 9) rfl ka0 5 (k2 := a0 + 601) (by decide) (by show a0 + (601 : Int) = a0 + 601; omega) w_fl_RX10_47 dX10_run_1 ?_
  refine j_conti (va_runV (As := []) (rest := []) ⟨hx, hb, hml, hown, hts⟩ (A_X6_readText l (kf_10_5 ka0) h) (cwV 0 hts (gj_V ml_RX10_385 i_X6_readText s_X6_readText n_RX6 k_X6_readText) rfl rfl rfl (by decide +kernel) ⟨by exact Nat.le_of_ble_eq_true rfl, by exact Nat.le_of_ble_eq_true rfl⟩) (j_preV hK hSX hG (ci := 5) rfl (kf_10_5 ka0) (by decide)) rfl rfl hl.1 rfl (lv_room (Nat.le_of_ble_eq_true rfl)) dX10_run_4 ⟨by exact Nat.le_of_ble_eq_true rfl, by exact Nat.le_of_ble_eq_true rfl⟩) hG (c2 := 0) (s2 := 0) ⟨by exact Nat.le_of_ble_eq_true rfl, by exact Nat.le_of_ble_eq_true rfl⟩ (fun z1 M2 h H locs hG => ?_)
  refine lv_istore_n (lv' := [(1, .int (J z1)), (0, .ref (rA o a0))]) hx hb dX10_run_7 rfl hl (by decide) rfl (fun ls hl => ?_)
  refine lv_aload_n hx hb dX10_run_8 rfl (lv_at hl 1 rfl) ?_
  refine j_getr hx hb hts hown hK hG (k := a0) (fun w h => List.mem_cons_of_mem _ (u_X10 w h)) (ci := 9) rfl ka0 5 (k2 := a0 + 601) (by decide) (by show a0 + (601 : Int) = a0 + 601; omega) w_fl_RX10_47 dX10_run_9 ?_
  refine lv_iconst (v := J 0) hx hb dX10_run_12 (by decide) ?_
  refine j_puti hx hb hts hown hK hG (k := a0 + 601) (fun w h => List.mem_cons_of_mem _ (u_X6 w h)) tyX6 tyX6_ok nmX6 (ci := 5) rfl (kf_10_5 ka0) 0 (by decide) (jz := 0) rfl w_fl_RX10_378 (hd := rfl) (hn := rfl) (hfit := rfl) (hdg := dX10_run_13) (fun M3 eM3 H locs hG => ?_)
  have h := h M3 eM3
  refine lv_iload_n hx hb dX10_run_16 rfl (lv_at hl 0 rfl) ?_
  refine j_contv (va_runS (As := [.int (J z1)]) (rest := []) ⟨hx, hb, hml, hown, hts⟩ (Ao_X10_needArgument l h) (va_cwS 1 hts (gj_S ml_RX10_72 i_X10_needArgument n_RX10 k_X10_needArgument) rfl rfl rfl (by decide +kernel) ⟨by exact Nat.le_of_ble_eq_true rfl, by exact Nat.le_of_ble_eq_true rfl⟩) (j_preS hK hSX hG) rfl rfl hl.1 rfl (lv_room (Nat.le_of_ble_eq_true rfl)) dX10_run_17 ⟨by exact Nat.le_of_ble_eq_true rfl, by exact Nat.le_of_ble_eq_true rfl⟩) hG (c2 := 0) (s2 := 0) ⟨by exact Nat.le_of_ble_eq_true rfl, by exact Nat.le_of_ble_eq_true rfl⟩ (fun M5 h H locs hG => ?_)
  obtain ⟨h, eM5⟩ := h
  rw [eM5] at hG
  refine lv_aload_n hx hb dX10_run_20 rfl (lv_at hl 1 rfl) ?_
  refine j_getr hx hb hts hown hK hG (k := a0) (fun w h => List.mem_cons_of_mem _ (u_X10 w h)) (ci := 9) rfl ka0 1 (k2 := a0 + 48) (by decide) (by show a0 + (48 : Int) = a0 + 48; omega) w_fl_RX10_19 dX10_run_21 ?_
  refine lv_aload_n hx hb dX10_run_24 rfl (lv_at hl 1 rfl) ?_
  refine j_getr hx hb hts hown hK hG (k := a0) (fun w h => List.mem_cons_of_mem _ (u_X10 w h)) (ci := 9) rfl ka0 0 (k2 := a0 + 1) (by decide) (by show a0 + (1 : Int) = a0 + 1; omega) w_fl_RX10_12 dX10_run_25 ?_
  refine j_contv (va_runV (As := [.ref (rA o (a0 + 1))]) (rest := []) ⟨hx, hb, hml, hown, hts⟩ (A_X3_keep l (kf_10_1 ka0) (kf_10_0 ka0) h) (cwV 1 hts (gj_V ml_RX10_389 i_X3_keep s_X3_keep n_RX3 k_X3_keep) rfl rfl rfl (by decide +kernel) ⟨by exact Nat.le_of_ble_eq_true rfl, by exact Nat.le_of_ble_eq_true rfl⟩) (j_preV hK hSX hG (ci := 2) rfl (kf_10_1 ka0) (by decide)) rfl rfl hl.1 rfl (lv_room (Nat.le_of_ble_eq_true rfl)) dX10_run_28 ⟨by exact Nat.le_of_ble_eq_true rfl, by exact Nat.le_of_ble_eq_true rfl⟩) hG (c2 := 0) (s2 := 0) ⟨by exact Nat.le_of_ble_eq_true rfl, by exact Nat.le_of_ble_eq_true rfl⟩ (fun M7 h H locs hG => ?_)
  refine lv_iconst (v := J 0) hx hb dX10_run_31 (by decide) ?_
  refine lv_istore_n (lv' := [(2, .int (J 0)), (1, .int (J z1)), (0, .ref (rA o a0))]) hx hb dX10_run_32 rfl hl (by decide) rfl (fun ls hl => ?_)
  obtain ⟨I10, ⟨n11s, iI10⟩, qI10⟩ := h
  have lI10 : ∀ (n11 : Nat) (x8 : Int) (M9 : jT), I10 n11 x8 M9 → ∀ (H : Heap) (locs : List Loc), GM D cy o M9 s.heap H locs → ∀ ls : Array Slot, lv_has ls 3 [(0, .ref (rA o a0)), (2, .int (J x8))] → W p l e rom_X10_run s m args below meth c H locs 0 0 Qf (F0 m 33 ls []) := by
    intro n11
    induction n11 using Nat.strongRecOn with
    | ind n11 rI10 =>
      intro x8 M9 iI10 H locs hG ls hl
      have h := qI10 n11 x8 M9 iI10
      refine lv_iload_n hx hb dX10_run_33 rfl (lv_at hl 1 rfl) ?_
      refine lv_aload_n hx hb dX10_run_34 rfl (lv_at hl 0 rfl) ?_
      refine j_getr hx hb hts hown hK hG (k := a0) (fun w h => List.mem_cons_of_mem _ (u_X10 w h)) (ci := 9) rfl ka0 5 (k2 := a0 + 601) (by decide) (by show a0 + (601 : Int) = a0 + 601; omega) w_fl_RX10_47 dX10_run_35 ?_
      refine j_geti hx hb hts hown hK hG (k := a0 + 601) (fun w h => List.mem_cons_of_mem _ (u_X6 w h)) (ci := 5) rfl (kf_10_5 ka0) 1 (by decide) (jz := 1) rfl w_fl_RX10_393 dX10_run_38 ?_
      obtain ⟨K22, hK22, h⟩ := h
      have jK22 : ∀ (M21 : jT), K22 M21 → ∀ (H : Heap) (locs : List Loc), GM D cy o M21 s.heap H locs → ∀ ls : Array Slot, lv_has ls 3 [(0, .ref (rA o a0)), (2, .int (J x8))] → W p l e rom_X10_run s m args below meth c H locs 0 0 Qf (F0 m 58 ls []) := by
        intro M21 hcK22 H locs hG ls hl
        have h := hK22 M21 hcK22
        refine lv_iload_n hx hb dX10_run_58 rfl (lv_at hl 1 rfl) ?_
        refine lv_aload_n hx hb dX10_run_59 rfl (lv_at hl 0 rfl) ?_
        refine j_getr hx hb hts hown hK hG (k := a0) (fun w h => List.mem_cons_of_mem _ (u_X10 w h)) (ci := 9) rfl ka0 5 (k2 := a0 + 601) (by decide) (by show a0 + (601 : Int) = a0 + 601; omega) w_fl_RX10_47 dX10_run_60 ?_
        refine j_geti hx hb hts hown hK hG (k := a0 + 601) (fun w h => List.mem_cons_of_mem _ (u_X6 w h)) (ci := 5) rfl (kf_10_5 ka0) 1 (by decide) (jz := 1) rfl w_fl_RX10_393 dX10_run_63 ?_
        obtain ⟨g24, h⟩ := h
        obtain ⟨g25, h⟩ := h
        refine j_icmp_ge (tgt := 110) hx hb dX10_run_66 (by decide) g24 g25 (fun c23 => ?_) (fun c23 => ?_)
        · have h := h.1 c23
          refine lv_aload_n hx hb dX10_run_110 rfl (lv_at hl 0 rfl) ?_
          refine j_getr hx hb hts hown hK hG (k := a0) (fun w h => List.mem_cons_of_mem _ (u_X10 w h)) (ci := 9) rfl ka0 1 (k2 := a0 + 48) (by decide) (by show a0 + (48 : Int) = a0 + 48; omega) w_fl_RX10_19 dX10_run_111 ?_
          refine j_contv (va_runV (As := []) (rest := []) ⟨hx, hb, hml, hown, hts⟩ (A_X3_push l (kf_10_1 ka0) h) (cwV 0 hts (gj_V ml_RX10_418 i_X3_push s_X3_push n_RX3 k_X3_push) rfl rfl rfl (by decide +kernel) ⟨by exact Nat.le_of_ble_eq_true rfl, by exact Nat.le_of_ble_eq_true rfl⟩) (j_preV hK hSX hG (ci := 2) rfl (kf_10_1 ka0) (by decide)) rfl rfl hl.1 rfl (lv_room (Nat.le_of_ble_eq_true rfl)) dX10_run_114 ⟨by exact Nat.le_of_ble_eq_true rfl, by exact Nat.le_of_ble_eq_true rfl⟩) hG (c2 := 0) (s2 := 0) ⟨by exact Nat.le_of_ble_eq_true rfl, by exact Nat.le_of_ble_eq_true rfl⟩ (fun M27 h H locs hG => ?_)
          refine lv_iload_n hx hb dX10_run_117 rfl (lv_at hl 1 rfl) ?_
          rw [hQf]
          exact j_ireti hx hb hr hlocks hG h (by decide) dX10_run_118
        · have h := h.2 c23
          refine lv_aload_n hx hb dX10_run_69 rfl (lv_at hl 0 rfl) ?_
          refine j_getr hx hb hts hown hK hG (k := a0) (fun w h => List.mem_cons_of_mem _ (u_X10 w h)) (ci := 9) rfl ka0 5 (k2 := a0 + 601) (by decide) (by show a0 + (601 : Int) = a0 + 601; omega) w_fl_RX10_47 dX10_run_70 ?_
          refine lv_aload_n hx hb dX10_run_73 rfl (lv_at hl 0 rfl) ?_
          refine j_getr hx hb hts hown hK hG (k := a0) (fun w h => List.mem_cons_of_mem _ (u_X10 w h)) (ci := 9) rfl ka0 5 (k2 := a0 + 601) (by decide) (by show a0 + (601 : Int) = a0 + 601; omega) w_fl_RX10_47 dX10_run_74 ?_
          refine lv_iload_n hx hb dX10_run_77 rfl (lv_at hl 1 rfl) ?_
          obtain ⟨g28, h⟩ := h
          refine j_conti (va_runV (As := [.int (J x8)]) (rest := [.ref (rA o (a0 + 601))]) ⟨hx, hb, hml, hown, hts⟩ (A_X6_startOf l (kf_10_5 ka0) g28) (cwV 1 hts (gj_V ml_RX10_399 i_X6_startOf s_X6_startOf n_RX6 k_X6_startOf) rfl rfl rfl (by decide +kernel) ⟨by exact Nat.le_of_ble_eq_true rfl, by exact Nat.le_of_ble_eq_true rfl⟩) (j_preV hK hSX hG (ci := 5) rfl (kf_10_5 ka0) (by decide)) rfl rfl hl.1 rfl (lv_room (Nat.le_of_ble_eq_true rfl)) dX10_run_78 ⟨by exact Nat.le_of_ble_eq_true rfl, by exact Nat.le_of_ble_eq_true rfl⟩) hG (c2 := 0) (s2 := 0) ⟨by exact Nat.le_of_ble_eq_true rfl, by exact Nat.le_of_ble_eq_true rfl⟩ (fun z29 M30 ez29 H locs hG => ?_)
          obtain ⟨ez29, eM30⟩ := ez29
          subst ez29
          rw [eM30] at hG
          refine j_puti hx hb hts hown hK hG (k := a0 + 601) (fun w h => List.mem_cons_of_mem _ (u_X6 w h)) tyX6 tyX6_ok nmX6 (ci := 5) rfl (kf_10_5 ka0) 2 (by decide) (jz := 2) rfl w_fl_RX10_402 (hd := rfl) (hn := rfl) (hfit := rfl) (hdg := dX10_run_81) (fun M31 eM31 H locs hG => ?_)
          have h := h M31 eM31
          refine lv_aload_n hx hb dX10_run_84 rfl (lv_at hl 0 rfl) ?_
          refine j_getr hx hb hts hown hK hG (k := a0) (fun w h => List.mem_cons_of_mem _ (u_X10 w h)) (ci := 9) rfl ka0 1 (k2 := a0 + 48) (by decide) (by show a0 + (48 : Int) = a0 + 48; omega) w_fl_RX10_19 dX10_run_85 ?_
          refine lv_aload_n hx hb dX10_run_88 rfl (lv_at hl 0 rfl) ?_
          refine j_getr hx hb hts hown hK hG (k := a0) (fun w h => List.mem_cons_of_mem _ (u_X10 w h)) (ci := 9) rfl ka0 0 (k2 := a0 + 1) (by decide) (by show a0 + (1 : Int) = a0 + 1; omega) w_fl_RX10_12 dX10_run_89 ?_
          refine j_contv (va_runV (As := [.ref (rA o (a0 + 1))]) (rest := []) ⟨hx, hb, hml, hown, hts⟩ (A_X3_giveUp l (kf_10_1 ka0) (kf_10_0 ka0) h) (cwV 1 hts (gj_V ml_RX10_405 i_X3_giveUp s_X3_giveUp n_RX3 k_X3_giveUp) rfl rfl rfl (by decide +kernel) ⟨by exact Nat.le_of_ble_eq_true rfl, by exact Nat.le_of_ble_eq_true rfl⟩) (j_preV hK hSX hG (ci := 2) rfl (kf_10_1 ka0) (by decide)) rfl rfl hl.1 rfl (lv_room (Nat.le_of_ble_eq_true rfl)) dX10_run_92 ⟨by exact Nat.le_of_ble_eq_true rfl, by exact Nat.le_of_ble_eq_true rfl⟩) hG (c2 := 0) (s2 := 0) ⟨by exact Nat.le_of_ble_eq_true rfl, by exact Nat.le_of_ble_eq_true rfl⟩ (fun M33 h H locs hG => ?_)
          refine lv_aload_n hx hb dX10_run_95 rfl (lv_at hl 0 rfl) ?_
          refine j_contv (va_runV (As := []) (rest := []) ⟨hx, hb, hml, hown, hts⟩ (A_X10_spoilAll l ka0 h) (cwV 0 hts (gj_V ml_RX10_408 i_X10_spoilAll s_X10_spoilAll n_RX10 k_X10_spoilAll) rfl rfl rfl (by decide +kernel) ⟨by exact Nat.le_of_ble_eq_true rfl, by exact Nat.le_of_ble_eq_true rfl⟩) (j_preV hK hSX hG (ci := 9) rfl ka0 (by decide)) rfl rfl hl.1 rfl (lv_room (Nat.le_of_ble_eq_true rfl)) dX10_run_96 ⟨by exact Nat.le_of_ble_eq_true rfl, by exact Nat.le_of_ble_eq_true rfl⟩) hG (c2 := 0) (s2 := 0) ⟨by exact Nat.le_of_ble_eq_true rfl, by exact Nat.le_of_ble_eq_true rfl⟩ (fun M35 h H locs hG => ?_)
          exact h.elim
      obtain ⟨g37, h⟩ := h
      obtain ⟨g38, h⟩ := h
      refine j_icmp_ge (tgt := 58) hx hb dX10_run_41 (by decide) g37 g38 (fun c36 => ?_) (fun c36 => ?_)
      · have h := h.1 c36
        exact jK22 M9 h H locs hG ls (lv_sub hl [0, 1] rfl)
      · have h := h.2 c36
        refine lv_aload_n hx hb dX10_run_44 rfl (lv_at hl 0 rfl) ?_
        refine lv_iload_n hx hb dX10_run_45 rfl (lv_at hl 1 rfl) ?_
        refine j_conti (va_runV (As := [.int (J x8)]) (rest := []) ⟨hx, hb, hml, hown, hts⟩ (A_X10_carryOut l ka0 h) (cwV 1 hts (gj_V ml_RX10_396 i_X10_carryOut s_X10_carryOut n_RX10 k_X10_carryOut) rfl rfl rfl (by decide +kernel) ⟨by exact Nat.le_of_ble_eq_true rfl, by exact Nat.le_of_ble_eq_true rfl⟩) (j_preV hK hSX hG (ci := 9) rfl ka0 (by decide)) rfl rfl hl.1 rfl (lv_room (Nat.le_of_ble_eq_true rfl)) dX10_run_46 ⟨by exact Nat.le_of_ble_eq_true rfl, by exact Nat.le_of_ble_eq_true rfl⟩) hG (c2 := 0) (s2 := 0) ⟨by exact Nat.le_of_ble_eq_true rfl, by exact Nat.le_of_ble_eq_true rfl⟩ (fun z39 M40 h H locs hG => ?_)
        obtain ⟨g42, h⟩ := h
        refine j_if_eq (tgt := 58) hx hb dX10_run_49 (by decide) g42 (fun c41 => ?_) (fun c41 => ?_)
        · have h := h.1 c41
          exact jK22 M40 h H locs hG ls (lv_sub hl [0, 1] rfl)
        · have h := h.2 c41
          refine j_iinc hx hb dX10_run_52 hl (k := 1) rfl (by decide) (fun x43 ex43 ls hl => ?_)
          have h := h x43 ex43
          have hl : lv_has ls 3 [(2, .int (J x43)), (0, .ref (rA o a0))] := hl
          refine lv_goto (tgt := 33) hx hb dX10_run_55 (by decide) ?_
          obtain ⟨n44, ln44, iI10⟩ := h
          exact rI10 n44 ln44 x43 M40 iI10 H locs hG ls (lv_sub hl [1, 0] rfl)
  exact lI10 n11s 0 M7 iI10 H locs hG ls (lv_sub hl [2, 0] rfl)
abbrev rm_X10_run : Room := { frames := 8, cells := 1, slots := 6, locals := 177 }
set_option maxRecDepth 100000 in
set_option maxHeartbeats 4000000 in
theorem A_X10_run (l : Launch) (hst : l.stackTraces = false) {D : va_G} {cy : Nat → ClassId} {o : Nat} {sK sV : Nat → Nat} {M : jT} {a0 : Int} (ka0 : kd a0 = 10) {Q : Int → jT → Prop} {X : Nat → jT → Prop} (h : wp_X10_run M a0 Q X) : CxI l yX10_run (wj yX10_run cX10_run 3 (some .int)) rm_X10_run D cy o sK sV M [.ref (rA o a0)] Q X := by
  refine j_ofWx (cc := cX10_run) (maxL := 3) (ret := (some .int)) (by decide) rfl (Nat.le_of_ble_eq_true rfl) ?_
  intro p e s m args below meth c hx hb hr hlocks hout hml hown hts hK hSX H locs hsz hG ls hl Qf hQf
  have hown : s.vm.findClass RX10 = some m.cls := hown
  have hl : lv_has ls 3 [(0, .ref (rA o a0))] := hl
  have w_fl_RX10_47 := hts _ (List.mem_cons_of_mem _ fl_RX10_47)
  have w_fl_RX10_378 := hts _ (List.mem_cons_of_mem _ fl_RX10_378)
  have w_fl_RX10_19 := hts _ (List.mem_cons_of_mem _ fl_RX10_19)
  have w_fl_RX10_12 := hts _ (List.mem_cons_of_mem _ fl_RX10_12)
  have w_fl_RX10_393 := hts _ (List.mem_cons_of_mem _ fl_RX10_393)
  have w_fl_RX10_402 := hts _ (List.mem_cons_of_mem _ fl_RX10_402)
  unfold wp_X10_run at h
  refine lv_aload_n hx hb dX10_run_0 rfl (lv_at hl 0 rfl) ?_
  refine j_getr hx hb hts hown hK hG (k := a0) (fun w h => List.mem_cons_of_mem _ (u_X10 w h)) (ci := 9) rfl ka0 5 (k2 := a0 + 601) (by decide) (by show a0 + (601 : Int) = a0 + 601; omega) w_fl_RX10_47 dX10_run_1 ?_
  refine j_conti (va_runV (As := []) (rest := []) ⟨hx, hb, hml, hown, hts⟩ (A_X6_readText l (kf_10_5 ka0) h) (cwV 0 hts (gj_V ml_RX10_385 i_X6_readText s_X6_readText n_RX6 k_X6_readText) rfl rfl rfl (by decide +kernel) ⟨by exact Nat.le_of_ble_eq_true rfl, by exact Nat.le_of_ble_eq_true rfl⟩) (j_preV hK hSX hG (ci := 5) rfl (kf_10_5 ka0) (by decide)) rfl rfl hl.1 rfl (lv_room (Nat.le_of_ble_eq_true rfl)) dX10_run_4 ⟨by exact Nat.le_of_ble_eq_true rfl, by exact Nat.le_of_ble_eq_true rfl⟩) hG (c2 := 0) (s2 := 0) ⟨by exact Nat.le_of_ble_eq_true rfl, by exact Nat.le_of_ble_eq_true rfl⟩ (fun z1 M2 h H locs hG => ?_)
  refine lv_istore_n (lv' := [(1, .int (J z1)), (0, .ref (rA o a0))]) hx hb dX10_run_7 rfl hl (by decide) rfl (fun ls hl => ?_)
  refine lv_aload_n hx hb dX10_run_8 rfl (lv_at hl 1 rfl) ?_
  refine j_getr hx hb hts hown hK hG (k := a0) (fun w h => List.mem_cons_of_mem _ (u_X10 w h)) (ci := 9) rfl ka0 5 (k2 := a0 + 601) (by decide) (by show a0 + (601 : Int) = a0 + 601; omega) w_fl_RX10_47 dX10_run_9 ?_
  refine lv_iconst (v := J 0) hx hb dX10_run_12 (by decide) ?_
  refine j_puti hx hb hts hown hK hG (k := a0 + 601) (fun w h => List.mem_cons_of_mem _ (u_X6 w h)) tyX6 tyX6_ok nmX6 (ci := 5) rfl (kf_10_5 ka0) 0 (by decide) (jz := 0) rfl w_fl_RX10_378 (hd := rfl) (hn := rfl) (hfit := rfl) (hdg := dX10_run_13) (fun M3 eM3 H locs hG => ?_)
  have h := h M3 eM3
  refine lv_iload_n hx hb dX10_run_16 rfl (lv_at hl 0 rfl) ?_
  rcases h with h | h
  · refine j_contv (va_runS (As := [.int (J z1)]) (rest := []) ⟨hx, hb, hml, hown, hts⟩ (Ao_X10_needArgument l h) (va_cwS 1 hts (gj_S ml_RX10_72 i_X10_needArgument n_RX10 k_X10_needArgument) rfl rfl rfl (by decide +kernel) ⟨by exact Nat.le_of_ble_eq_true rfl, by exact Nat.le_of_ble_eq_true rfl⟩) (j_preS hK hSX hG) rfl rfl hl.1 rfl (lv_room (Nat.le_of_ble_eq_true rfl)) dX10_run_17 ⟨by exact Nat.le_of_ble_eq_true rfl, by exact Nat.le_of_ble_eq_true rfl⟩) hG (c2 := 0) (s2 := 0) ⟨by exact Nat.le_of_ble_eq_true rfl, by exact Nat.le_of_ble_eq_true rfl⟩ (fun M5 h H locs hG => ?_)
    obtain ⟨h, eM5⟩ := h
    rw [eM5] at hG
    refine lv_aload_n hx hb dX10_run_20 rfl (lv_at hl 1 rfl) ?_
    refine j_getr hx hb hts hown hK hG (k := a0) (fun w h => List.mem_cons_of_mem _ (u_X10 w h)) (ci := 9) rfl ka0 1 (k2 := a0 + 48) (by decide) (by show a0 + (48 : Int) = a0 + 48; omega) w_fl_RX10_19 dX10_run_21 ?_
    refine lv_aload_n hx hb dX10_run_24 rfl (lv_at hl 1 rfl) ?_
    refine j_getr hx hb hts hown hK hG (k := a0) (fun w h => List.mem_cons_of_mem _ (u_X10 w h)) (ci := 9) rfl ka0 0 (k2 := a0 + 1) (by decide) (by show a0 + (1 : Int) = a0 + 1; omega) w_fl_RX10_12 dX10_run_25 ?_
    refine j_contv (va_runV (As := [.ref (rA o (a0 + 1))]) (rest := []) ⟨hx, hb, hml, hown, hts⟩ (A_X3_keep l (kf_10_1 ka0) (kf_10_0 ka0) h) (cwV 1 hts (gj_V ml_RX10_389 i_X3_keep s_X3_keep n_RX3 k_X3_keep) rfl rfl rfl (by decide +kernel) ⟨by exact Nat.le_of_ble_eq_true rfl, by exact Nat.le_of_ble_eq_true rfl⟩) (j_preV hK hSX hG (ci := 2) rfl (kf_10_1 ka0) (by decide)) rfl rfl hl.1 rfl (lv_room (Nat.le_of_ble_eq_true rfl)) dX10_run_28 ⟨by exact Nat.le_of_ble_eq_true rfl, by exact Nat.le_of_ble_eq_true rfl⟩) hG (c2 := 0) (s2 := 0) ⟨by exact Nat.le_of_ble_eq_true rfl, by exact Nat.le_of_ble_eq_true rfl⟩ (fun M7 h H locs hG => ?_)
    refine lv_iconst (v := J 0) hx hb dX10_run_31 (by decide) ?_
    refine lv_istore_n (lv' := [(2, .int (J 0)), (1, .int (J z1)), (0, .ref (rA o a0))]) hx hb dX10_run_32 rfl hl (by decide) rfl (fun ls hl => ?_)
    obtain ⟨I10, ⟨n11s, iI10⟩, qI10⟩ := h
    have lI10 : ∀ (n11 : Nat) (x8 : Int) (M9 : jT), I10 n11 x8 M9 → ∀ (H : Heap) (locs : List Loc), GM D cy o M9 s.heap H locs → ∀ ls : Array Slot, lv_has ls 3 [(0, .ref (rA o a0)), (2, .int (J x8))] → W p l e rm_X10_run s m args below meth c H locs 0 0 Qf (F0 m 33 ls []) := by
      intro n11
      induction n11 using Nat.strongRecOn with
      | ind n11 rI10 =>
        intro x8 M9 iI10 H locs hG ls hl
        have h := qI10 n11 x8 M9 iI10
        refine lv_iload_n hx hb dX10_run_33 rfl (lv_at hl 1 rfl) ?_
        refine lv_aload_n hx hb dX10_run_34 rfl (lv_at hl 0 rfl) ?_
        refine j_getr hx hb hts hown hK hG (k := a0) (fun w h => List.mem_cons_of_mem _ (u_X10 w h)) (ci := 9) rfl ka0 5 (k2 := a0 + 601) (by decide) (by show a0 + (601 : Int) = a0 + 601; omega) w_fl_RX10_47 dX10_run_35 ?_
        refine j_geti hx hb hts hown hK hG (k := a0 + 601) (fun w h => List.mem_cons_of_mem _ (u_X6 w h)) (ci := 5) rfl (kf_10_5 ka0) 1 (by decide) (jz := 1) rfl w_fl_RX10_393 dX10_run_38 ?_
        obtain ⟨K22, hK22, h⟩ := h
        have jK22 : ∀ (M21 : jT), K22 M21 → ∀ (H : Heap) (locs : List Loc), GM D cy o M21 s.heap H locs → ∀ ls : Array Slot, lv_has ls 3 [(0, .ref (rA o a0)), (2, .int (J x8))] → W p l e rm_X10_run s m args below meth c H locs 0 0 Qf (F0 m 58 ls []) := by
          intro M21 hcK22 H locs hG ls hl
          have h := hK22 M21 hcK22
          refine lv_iload_n hx hb dX10_run_58 rfl (lv_at hl 1 rfl) ?_
          refine lv_aload_n hx hb dX10_run_59 rfl (lv_at hl 0 rfl) ?_
          refine j_getr hx hb hts hown hK hG (k := a0) (fun w h => List.mem_cons_of_mem _ (u_X10 w h)) (ci := 9) rfl ka0 5 (k2 := a0 + 601) (by decide) (by show a0 + (601 : Int) = a0 + 601; omega) w_fl_RX10_47 dX10_run_60 ?_
          refine j_geti hx hb hts hown hK hG (k := a0 + 601) (fun w h => List.mem_cons_of_mem _ (u_X6 w h)) (ci := 5) rfl (kf_10_5 ka0) 1 (by decide) (jz := 1) rfl w_fl_RX10_393 dX10_run_63 ?_
          obtain ⟨g24, h⟩ := h
          obtain ⟨g25, h⟩ := h
          refine j_icmp_ge (tgt := 110) hx hb dX10_run_66 (by decide) g24 g25 (fun c23 => ?_) (fun c23 => ?_)
          · have h := h.1 c23
            refine lv_aload_n hx hb dX10_run_110 rfl (lv_at hl 0 rfl) ?_
            refine j_getr hx hb hts hown hK hG (k := a0) (fun w h => List.mem_cons_of_mem _ (u_X10 w h)) (ci := 9) rfl ka0 1 (k2 := a0 + 48) (by decide) (by show a0 + (48 : Int) = a0 + 48; omega) w_fl_RX10_19 dX10_run_111 ?_
            refine j_contv (va_runV (As := []) (rest := []) ⟨hx, hb, hml, hown, hts⟩ (A_X3_push l (kf_10_1 ka0) h) (cwV 0 hts (gj_V ml_RX10_418 i_X3_push s_X3_push n_RX3 k_X3_push) rfl rfl rfl (by decide +kernel) ⟨by exact Nat.le_of_ble_eq_true rfl, by exact Nat.le_of_ble_eq_true rfl⟩) (j_preV hK hSX hG (ci := 2) rfl (kf_10_1 ka0) (by decide)) rfl rfl hl.1 rfl (lv_room (Nat.le_of_ble_eq_true rfl)) dX10_run_114 ⟨by exact Nat.le_of_ble_eq_true rfl, by exact Nat.le_of_ble_eq_true rfl⟩) hG (c2 := 0) (s2 := 0) ⟨by exact Nat.le_of_ble_eq_true rfl, by exact Nat.le_of_ble_eq_true rfl⟩ (fun M27 h H locs hG => ?_)
            refine lv_iload_n hx hb dX10_run_117 rfl (lv_at hl 1 rfl) ?_
            rw [hQf]
            exact vx_ret (j_ireti hx hb hr hlocks hG h (by decide) dX10_run_118)
          · have h := h.2 c23
            refine lv_aload_n hx hb dX10_run_69 rfl (lv_at hl 0 rfl) ?_
            refine j_getr hx hb hts hown hK hG (k := a0) (fun w h => List.mem_cons_of_mem _ (u_X10 w h)) (ci := 9) rfl ka0 5 (k2 := a0 + 601) (by decide) (by show a0 + (601 : Int) = a0 + 601; omega) w_fl_RX10_47 dX10_run_70 ?_
            refine lv_aload_n hx hb dX10_run_73 rfl (lv_at hl 0 rfl) ?_
            refine j_getr hx hb hts hown hK hG (k := a0) (fun w h => List.mem_cons_of_mem _ (u_X10 w h)) (ci := 9) rfl ka0 5 (k2 := a0 + 601) (by decide) (by show a0 + (601 : Int) = a0 + 601; omega) w_fl_RX10_47 dX10_run_74 ?_
            refine lv_iload_n hx hb dX10_run_77 rfl (lv_at hl 1 rfl) ?_
            obtain ⟨g28, h⟩ := h
            refine j_conti (va_runV (As := [.int (J x8)]) (rest := [.ref (rA o (a0 + 601))]) ⟨hx, hb, hml, hown, hts⟩ (A_X6_startOf l (kf_10_5 ka0) g28) (cwV 1 hts (gj_V ml_RX10_399 i_X6_startOf s_X6_startOf n_RX6 k_X6_startOf) rfl rfl rfl (by decide +kernel) ⟨by exact Nat.le_of_ble_eq_true rfl, by exact Nat.le_of_ble_eq_true rfl⟩) (j_preV hK hSX hG (ci := 5) rfl (kf_10_5 ka0) (by decide)) rfl rfl hl.1 rfl (lv_room (Nat.le_of_ble_eq_true rfl)) dX10_run_78 ⟨by exact Nat.le_of_ble_eq_true rfl, by exact Nat.le_of_ble_eq_true rfl⟩) hG (c2 := 0) (s2 := 0) ⟨by exact Nat.le_of_ble_eq_true rfl, by exact Nat.le_of_ble_eq_true rfl⟩ (fun z29 M30 ez29 H locs hG => ?_)
            obtain ⟨ez29, eM30⟩ := ez29
            subst ez29
            rw [eM30] at hG
            refine j_puti hx hb hts hown hK hG (k := a0 + 601) (fun w h => List.mem_cons_of_mem _ (u_X6 w h)) tyX6 tyX6_ok nmX6 (ci := 5) rfl (kf_10_5 ka0) 2 (by decide) (jz := 2) rfl w_fl_RX10_402 (hd := rfl) (hn := rfl) (hfit := rfl) (hdg := dX10_run_81) (fun M31 eM31 H locs hG => ?_)
            have h := h M31 eM31
            refine lv_aload_n hx hb dX10_run_84 rfl (lv_at hl 0 rfl) ?_
            refine j_getr hx hb hts hown hK hG (k := a0) (fun w h => List.mem_cons_of_mem _ (u_X10 w h)) (ci := 9) rfl ka0 1 (k2 := a0 + 48) (by decide) (by show a0 + (48 : Int) = a0 + 48; omega) w_fl_RX10_19 dX10_run_85 ?_
            refine lv_aload_n hx hb dX10_run_88 rfl (lv_at hl 0 rfl) ?_
            refine j_getr hx hb hts hown hK hG (k := a0) (fun w h => List.mem_cons_of_mem _ (u_X10 w h)) (ci := 9) rfl ka0 0 (k2 := a0 + 1) (by decide) (by show a0 + (1 : Int) = a0 + 1; omega) w_fl_RX10_12 dX10_run_89 ?_
            refine j_contv (va_runV (As := [.ref (rA o (a0 + 1))]) (rest := []) ⟨hx, hb, hml, hown, hts⟩ (A_X3_giveUp l (kf_10_1 ka0) (kf_10_0 ka0) h) (cwV 1 hts (gj_V ml_RX10_405 i_X3_giveUp s_X3_giveUp n_RX3 k_X3_giveUp) rfl rfl rfl (by decide +kernel) ⟨by exact Nat.le_of_ble_eq_true rfl, by exact Nat.le_of_ble_eq_true rfl⟩) (j_preV hK hSX hG (ci := 2) rfl (kf_10_1 ka0) (by decide)) rfl rfl hl.1 rfl (lv_room (Nat.le_of_ble_eq_true rfl)) dX10_run_92 ⟨by exact Nat.le_of_ble_eq_true rfl, by exact Nat.le_of_ble_eq_true rfl⟩) hG (c2 := 0) (s2 := 0) ⟨by exact Nat.le_of_ble_eq_true rfl, by exact Nat.le_of_ble_eq_true rfl⟩ (fun M33 h H locs hG => ?_)
            refine lv_aload_n hx hb dX10_run_95 rfl (lv_at hl 0 rfl) ?_
            refine j_contv (va_runV (As := []) (rest := []) ⟨hx, hb, hml, hown, hts⟩ (A_X10_spoilAll l ka0 h) (cwV 0 hts (gj_V ml_RX10_408 i_X10_spoilAll s_X10_spoilAll n_RX10 k_X10_spoilAll) rfl rfl rfl (by decide +kernel) ⟨by exact Nat.le_of_ble_eq_true rfl, by exact Nat.le_of_ble_eq_true rfl⟩) (j_preV hK hSX hG (ci := 9) rfl ka0 (by decide)) rfl rfl hl.1 rfl (lv_room (Nat.le_of_ble_eq_true rfl)) dX10_run_96 ⟨by exact Nat.le_of_ble_eq_true rfl, by exact Nat.le_of_ble_eq_true rfl⟩) hG (c2 := 0) (s2 := 0) ⟨by exact Nat.le_of_ble_eq_true rfl, by exact Nat.le_of_ble_eq_true rfl⟩ (fun M35 h H locs hG => ?_)
            rw [hQf]
            exact j_throw (xn := 3) (si := 0) hx hb hst hts hown hSX hG (hml.trans hl.1.symm) (by decide +kernel) (List.mem_cons_of_mem _ xl_RX10_411) (List.mem_cons_of_mem _ xi_3) rfl (fun w h => List.mem_cons_of_mem _ (xg_RX10_415 w h)) xb_RX10_415 xo_RX10_415 rfl dX10_run_99 dX10_run_102 dX10_run_103 dX10_run_106 dX10_run_109 hout (by decide) (by exact Nat.le_of_ble_eq_true rfl) (by decide) (by decide) hlocks h (by decide)
        obtain ⟨g37, h⟩ := h
        obtain ⟨g38, h⟩ := h
        refine j_icmp_ge (tgt := 58) hx hb dX10_run_41 (by decide) g37 g38 (fun c36 => ?_) (fun c36 => ?_)
        · have h := h.1 c36
          exact jK22 M9 h H locs hG ls (lv_sub hl [0, 1] rfl)
        · have h := h.2 c36
          refine lv_aload_n hx hb dX10_run_44 rfl (lv_at hl 0 rfl) ?_
          refine lv_iload_n hx hb dX10_run_45 rfl (lv_at hl 1 rfl) ?_
          refine j_conti (va_runV (As := [.int (J x8)]) (rest := []) ⟨hx, hb, hml, hown, hts⟩ (A_X10_carryOut l ka0 h) (cwV 1 hts (gj_V ml_RX10_396 i_X10_carryOut s_X10_carryOut n_RX10 k_X10_carryOut) rfl rfl rfl (by decide +kernel) ⟨by exact Nat.le_of_ble_eq_true rfl, by exact Nat.le_of_ble_eq_true rfl⟩) (j_preV hK hSX hG (ci := 9) rfl ka0 (by decide)) rfl rfl hl.1 rfl (lv_room (Nat.le_of_ble_eq_true rfl)) dX10_run_46 ⟨by exact Nat.le_of_ble_eq_true rfl, by exact Nat.le_of_ble_eq_true rfl⟩) hG (c2 := 0) (s2 := 0) ⟨by exact Nat.le_of_ble_eq_true rfl, by exact Nat.le_of_ble_eq_true rfl⟩ (fun z39 M40 h H locs hG => ?_)
          obtain ⟨g42, h⟩ := h
          refine j_if_eq (tgt := 58) hx hb dX10_run_49 (by decide) g42 (fun c41 => ?_) (fun c41 => ?_)
          · have h := h.1 c41
            exact jK22 M40 h H locs hG ls (lv_sub hl [0, 1] rfl)
          · have h := h.2 c41
            refine j_iinc hx hb dX10_run_52 hl (k := 1) rfl (by decide) (fun x43 ex43 ls hl => ?_)
            have h := h x43 ex43
            have hl : lv_has ls 3 [(2, .int (J x43)), (0, .ref (rA o a0))] := hl
            refine lv_goto (tgt := 33) hx hb dX10_run_55 (by decide) ?_
            obtain ⟨n44, ln44, iI10⟩ := h
            exact rI10 n44 ln44 x43 M40 iI10 H locs hG ls (lv_sub hl [1, 0] rfl)
    exact lI10 n11s 0 M7 iI10 H locs hG ls (lv_sub hl [2, 0] rfl)
  · refine j_contxv (vx_runS (As := [.int (J z1)]) (rest := []) ⟨hx, hb, hml, hown, hts⟩ (A_X10_needArgument l hst h) (va_cwS 1 hts (gj_S ml_RX10_72 i_X10_needArgument n_RX10 k_X10_needArgument) rfl rfl rfl (by decide +kernel) ⟨by exact Nat.le_of_ble_eq_true rfl, by exact Nat.le_of_ble_eq_true rfl⟩) (j_preS hK hSX hG) rfl rfl hl.1 rfl (lv_room (Nat.le_of_ble_eq_true rfl)) dX10_run_17 ⟨by exact Nat.le_of_ble_eq_true rfl, by exact Nat.le_of_ble_eq_true rfl⟩) hG (c2 := 1) (s2 := 6) ⟨by exact Nat.le_of_ble_eq_true rfl, by exact Nat.le_of_ble_eq_true rfl⟩ (fun x M h ce q H locs hG h1 h2 h3 => ?_) (fun M h H locs hG => h.elim)
    rw [hQf]
    exact j_xout hlocks hout hG h h1 h2 h3 (by decide)
