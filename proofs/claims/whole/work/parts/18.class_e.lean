abbrev rm_X6_letterAt : Room := { frames := 0, cells := 0, slots := 0, locals := 0 }
set_option maxRecDepth 100000 in
set_option maxHeartbeats 4000000 in
theorem A_X6_letterAt (l : Launch) {D : va_G} {cy : Nat → ClassId} {o : Nat} {sK sV : Nat → Nat} {M : jT} {a0 : Int} {a1 : Int} (ka0 : kd a0 = 6) (h : pg_X6_letterAt M a0 a1) : CoI l yX6_letterAt (wj yX6_letterAt cX6_letterAt 2 (some .char)) rm_X6_letterAt D cy o sK sV M [.ref (rA o a0), .int (J a1)] (fun z M9 => z = pf_X6_letterAt M a0 a1 ∧ M9 = M) := by
  refine j_ofW (cc := cX6_letterAt) (maxL := 2) (ret := (some .char)) (by decide) rfl (Nat.le_of_ble_eq_true rfl) ?_
  intro p e s m args below meth c hx hb hr hlocks hml hown hts hK hSX H locs hG ls hl Qf hQf
  have hown : s.vm.findClass RX6 = some m.cls := hown
  have hl : lv_has ls 2 [(0, .ref (rA o a0)), (1, .int (J a1))] := hl
  have w_fl_RX6_23 := hts _ (List.mem_cons_of_mem _ fl_RX6_23)
  have w_fl_RX6_15 := hts _ (List.mem_cons_of_mem _ fl_RX6_15)
  unfold pg_X6_letterAt at h
  refine lv_iload_n hx hb dX6_letterAt_0 rfl (lv_at hl 1 rfl) ?_
  obtain ⟨g2, h⟩ := h
  refine j_if_lt (tgt := 30) hx hb dX6_letterAt_1 (by decide) g2 (fun c1 => ?_) (fun c1 => ?_)
  · have h := h.1 c1
    refine lv_iconst (v := J 0) hx hb dX6_letterAt_30 (by decide) ?_
    rw [hQf]
    exact j_iretn hx hb hr hlocks (nar_c (by decide)) hG ⟨(by unfold pf_X6_letterAt; rw [if_pos c1]), rfl⟩ (by decide) dX6_letterAt_31
  · have h := h.2 c1
    refine lv_iload_n hx hb dX6_letterAt_4 rfl (lv_at hl 1 rfl) ?_
    refine lv_aload_n hx hb dX6_letterAt_5 rfl (lv_at hl 0 rfl) ?_
    refine j_geti hx hb hts hown hK hG (k := a0) (fun w h => List.mem_cons_of_mem _ (u_X6 w h)) (ci := 5) rfl ka0 0 (by decide) (jz := 0) rfl w_fl_RX6_23 dX6_letterAt_6 ?_
    obtain ⟨g4, h⟩ := h
    refine j_icmp_ge (tgt := 30) hx hb dX6_letterAt_9 (by decide) g2 g4 (fun c3 => ?_) (fun c3 => ?_)
    · have h := h.1 c3
      refine lv_iconst (v := J 0) hx hb dX6_letterAt_30 (by decide) ?_
      rw [hQf]
      exact j_iretn hx hb hr hlocks (nar_c (by decide)) hG ⟨(by unfold pf_X6_letterAt; rw [if_neg (show ¬ (a1 < 0) from by omega), if_pos c3]), rfl⟩ (by decide) dX6_letterAt_31
    · have h := h.2 c3
      refine lv_iload_n hx hb dX6_letterAt_12 rfl (lv_at hl 1 rfl) ?_
      refine lv_aload_n hx hb dX6_letterAt_13 rfl (lv_at hl 0 rfl) ?_
      refine j_getr hx hb hts hown hK hG (k := a0) (fun w h => List.mem_cons_of_mem _ (u_X6 w h)) (ci := 5) rfl ka0 4 (k2 := a0 + 1) (by decide) (by show a0 + (1 : Int) = a0 + 1; omega) w_fl_RX6_15 dX6_letterAt_14 ?_
      refine j_alenz_c hx hb hK hG (n := 60) (nz := 60) rfl (kf_6_4 ka0) (by decide) dX6_letterAt_17 ?_
      refine j_icmp_ge (tgt := 30) hx hb dX6_letterAt_18 (by decide) g2 (by decide) (fun c5 => ?_) (fun c5 => ?_)
      · have h := h.1 c5
        refine lv_iconst (v := J 0) hx hb dX6_letterAt_30 (by decide) ?_
        rw [hQf]
        exact j_iretn hx hb hr hlocks (nar_c (by decide)) hG ⟨(by unfold pf_X6_letterAt; rw [if_neg (show ¬ (a1 < 0) from by omega), if_neg (show ¬ (M a0 0 ≤ a1) from by omega), if_pos c5]), rfl⟩ (by decide) dX6_letterAt_31
      · have h := h.2 c5
        refine lv_aload_n hx hb dX6_letterAt_21 rfl (lv_at hl 0 rfl) ?_
        refine j_getr hx hb hts hown hK hG (k := a0) (fun w h => List.mem_cons_of_mem _ (u_X6 w h)) (ci := 5) rfl ka0 4 (k2 := a0 + 1) (by decide) (by show a0 + (1 : Int) = a0 + 1; omega) w_fl_RX6_15 dX6_letterAt_22 ?_
        refine lv_iload_n hx hb dX6_letterAt_25 rfl (lv_at hl 1 rfl) ?_
        obtain ⟨g6, h⟩ := h
        refine j_cald hx hb hK hG (n := 60) (kf_6_4 ka0) (by decide) g6 dX6_letterAt_26 ?_
        refine lv_goto (tgt := 31) hx hb dX6_letterAt_27 (by decide) ?_
        obtain ⟨g7, h⟩ := h
        rw [hQf]
        exact j_iretn hx hb hr hlocks (nar_c g7) hG ⟨(by unfold pf_X6_letterAt; rw [if_neg (show ¬ (a1 < 0) from by omega), if_neg (show ¬ (M a0 0 ≤ a1) from by omega), if_neg (show ¬ (60 ≤ a1) from by omega)]), rfl⟩ (by decide) dX6_letterAt_31

abbrev rm_X6_readSign : Room := { frames := 1, cells := 0, slots := 0, locals := 21 }
set_option maxRecDepth 100000 in
set_option maxHeartbeats 4000000 in
theorem A_X6_readSign (l : Launch) {D : va_G} {cy : Nat → ClassId} {o : Nat} {sK sV : Nat → Nat} {M : jT} {a0 : Int} {a1 : Int} (ka0 : kd a0 = 6) {Q : jT → Prop} (h : wp_X6_readSign M a0 a1 Q) : CoV l yX6_readSign (wj yX6_readSign cX6_readSign 2 none) rm_X6_readSign D cy o sK sV M [.ref (rA o a0), .int (J a1)] Q := by
  refine j_ofW (cc := cX6_readSign) (maxL := 2) (ret := none) (by decide) rfl (Nat.le_of_ble_eq_true rfl) ?_
  intro p e s m args below meth c hx hb hr hlocks hml hown hts hK hSX H locs hG ls hl Qf hQf
  have hown : s.vm.findClass RX6 = some m.cls := hown
  have hl : lv_has ls 2 [(0, .ref (rA o a0)), (1, .int (J a1))] := hl
  have w_fl_RX6_11 := hts _ (List.mem_cons_of_mem _ fl_RX6_11)
  have w_fl_RX6_26 := hts _ (List.mem_cons_of_mem _ fl_RX6_26)
  unfold wp_X6_readSign at h
  refine lv_aload_n hx hb dX6_readSign_0 rfl (lv_at hl 0 rfl) ?_
  refine j_geti hx hb hts hown hK hG (k := a0) (fun w h => List.mem_cons_of_mem _ (u_X6 w h)) (ci := 5) rfl ka0 2 (by decide) (jz := 2) rfl w_fl_RX6_11 dX6_readSign_1 ?_
  obtain ⟨g2, h⟩ := h
  refine j_if_lt (tgt := 8) hx hb dX6_readSign_4 (by decide) g2 (fun c1 => ?_) (fun c1 => ?_)
  · have h := h.1 c1
    refine lv_aload_n hx hb dX6_readSign_8 rfl (lv_at hl 0 rfl) ?_
    refine lv_aload_n hx hb dX6_readSign_9 rfl (lv_at hl 0 rfl) ?_
    refine j_geti hx hb hts hown hK hG (k := a0) (fun w h => List.mem_cons_of_mem _ (u_X6 w h)) (ci := 5) rfl ka0 3 (by decide) (jz := 3) rfl w_fl_RX6_26 dX6_readSign_10 ?_
    obtain ⟨g3, h⟩ := h
    refine j_conti (va_runV (As := [.int (J (M a0 3))]) (rest := []) ⟨hx, hb, hml, hown, hts⟩ (A_X6_letterAt l ka0 g3) (cwV 1 hts (gj_V ml_RX6_60 i_X6_letterAt s_X6_letterAt n_RX6 k_X6_letterAt) rfl rfl rfl (by decide +kernel) ⟨by exact Nat.le_of_ble_eq_true rfl, by exact Nat.le_of_ble_eq_true rfl⟩) (j_preV hK hSX hG (ci := 5) rfl ka0 (by decide)) rfl rfl hl.1 rfl (lv_room (Nat.le_of_ble_eq_true rfl)) dX6_readSign_13 ⟨by exact Nat.le_of_ble_eq_true rfl, by exact Nat.le_of_ble_eq_true rfl⟩) hG (c2 := 0) (s2 := 0) ⟨by exact Nat.le_of_ble_eq_true rfl, by exact Nat.le_of_ble_eq_true rfl⟩ (fun z4 M5 ez4 H locs hG => ?_)
    obtain ⟨ez4, eM5⟩ := ez4
    subst ez4
    rw [eM5] at hG
    refine lv_iload_n hx hb dX6_readSign_16 rfl (lv_at hl 1 rfl) ?_
    obtain ⟨K12, hK12, h⟩ := h
    have jK12 : ∀ (M11 : jT), K12 M11 → ∀ (H : Heap) (locs : List Loc), GM D cy o M11 s.heap H locs → ∀ ls : Array Slot, lv_has ls 2 [] → W p l e rm_X6_readSign s m args below meth c H locs 0 0 Qf (F0 m 41 ls []) := by
      intro M11 hcK12 H locs hG ls hl
      have h := hK12 M11 hcK12
      rw [hQf]
      exact j_vret hx hb hr hlocks hG h (by decide) dX6_readSign_41
    obtain ⟨g14, h⟩ := h
    obtain ⟨g15, h⟩ := h
    refine j_icmp_ne (tgt := 33) hx hb dX6_readSign_17 (by decide) g14 g15 (fun c13 => ?_) (fun c13 => ?_)
    · have h := h.1 c13
      refine lv_aload_n hx hb dX6_readSign_33 rfl (lv_at hl 0 rfl) ?_
      refine lv_aload_n hx hb dX6_readSign_34 rfl (lv_at hl 0 rfl) ?_
      refine j_geti hx hb hts hown hK hG (k := a0) (fun w h => List.mem_cons_of_mem _ (u_X6 w h)) (ci := 5) rfl ka0 3 (by decide) (jz := 3) rfl w_fl_RX6_26 dX6_readSign_35 ?_
      refine j_puti hx hb hts hown hK hG (k := a0) (fun w h => List.mem_cons_of_mem _ (u_X6 w h)) tyX6 tyX6_ok nmX6 (ci := 5) rfl ka0 2 (by decide) (jz := 2) rfl w_fl_RX6_11 (hd := rfl) (hn := rfl) (hfit := rfl) (hdg := dX6_readSign_38) (fun M16 eM16 H locs hG => ?_)
      have h := h M16 eM16
      exact jK12 M16 h H locs hG ls (lv_sub hl [] rfl)
    · have h := h.2 c13
      refine lv_aload_n hx hb dX6_readSign_20 rfl (lv_at hl 0 rfl) ?_
      refine lv_dup hx hb dX6_readSign_21 rfl ?_
      refine j_geti hx hb hts hown hK hG (k := a0) (fun w h => List.mem_cons_of_mem _ (u_X6 w h)) (ci := 5) rfl ka0 3 (by decide) (jz := 3) rfl w_fl_RX6_26 dX6_readSign_22 ?_
      refine lv_iconst (v := J 1) hx hb dX6_readSign_25 (by decide) ?_
      refine j_iadd hx hb dX6_readSign_26 ?_
      refine j_puti hx hb hts hown hK hG (k := a0) (fun w h => List.mem_cons_of_mem _ (u_X6 w h)) tyX6 tyX6_ok nmX6 (ci := 5) rfl ka0 3 (by decide) (jz := 3) rfl w_fl_RX6_26 (hd := rfl) (hn := rfl) (hfit := rfl) (hdg := dX6_readSign_27) (fun M17 eM17 H locs hG => ?_)
      have h := h M17 eM17
      refine lv_goto (tgt := 41) hx hb dX6_readSign_30 (by decide) ?_
      exact jK12 M17 h H locs hG ls (lv_sub hl [] rfl)
  · have h := h.2 c1
    rw [hQf]
    exact j_vret hx hb hr hlocks hG h (by decide) dX6_readSign_7

abbrev rm_X6_readNumber : Room := { frames := 1, cells := 0, slots := 0, locals := 21 }
set_option maxRecDepth 100000 in
set_option maxHeartbeats 4000000 in
theorem A_X6_readNumber (l : Launch) {D : va_G} {cy : Nat → ClassId} {o : Nat} {sK sV : Nat → Nat} {M : jT} {a0 : Int} {a1 : Int} (ka0 : kd a0 = 6) {Q : Int → jT → Prop} (h : wp_X6_readNumber M a0 a1 Q) : CoI l yX6_readNumber (wj yX6_readNumber cX6_readNumber 4 (some .int)) rm_X6_readNumber D cy o sK sV M [.ref (rA o a0), .int (J a1)] Q := by
  refine j_ofW (cc := cX6_readNumber) (maxL := 4) (ret := (some .int)) (by decide) rfl (Nat.le_of_ble_eq_true rfl) ?_
  intro p e s m args below meth c hx hb hr hlocks hml hown hts hK hSX H locs hG ls hl Qf hQf
  have hown : s.vm.findClass RX6 = some m.cls := hown
  have hl : lv_has ls 4 [(0, .ref (rA o a0)), (1, .int (J a1))] := hl
  have w_fl_RX6_26 := hts _ (List.mem_cons_of_mem _ fl_RX6_26)
  have w_fl_RX6_11 := hts _ (List.mem_cons_of_mem _ fl_RX6_11)
  unfold wp_X6_readNumber at h
  refine lv_iconst (v := J 0) hx hb dX6_readNumber_0 (by decide) ?_
  refine lv_istore_n (lv' := [(2, .int (J 0)), (0, .ref (rA o a0)), (1, .int (J a1))]) hx hb dX6_readNumber_1 rfl hl (by decide) rfl (fun ls hl => ?_)
  refine lv_iconst (v := J 0) hx hb dX6_readNumber_2 (by decide) ?_
  refine lv_istore_n (lv' := [(3, .int (J 0)), (2, .int (J 0)), (0, .ref (rA o a0)), (1, .int (J a1))]) hx hb dX6_readNumber_3 rfl hl (by decide) rfl (fun ls hl => ?_)
  obtain ⟨I4, ⟨n5s, iI4⟩, qI4⟩ := h
  have lI4 : ∀ (n5 : Nat) (x1 : Int) (x2 : Int) (M3 : jT), I4 n5 x1 x2 M3 → ∀ (H : Heap) (locs : List Loc), GM D cy o M3 s.heap H locs → ∀ ls : Array Slot, lv_has ls 4 [(0, .ref (rA o a0)), (1, .int (J a1)), (2, .int (J x1)), (3, .int (J x2))] → W p l e rm_X6_readNumber s m args below meth c H locs 0 0 Qf (F0 m 4 ls []) := by
    intro n5
    induction n5 using Nat.strongRecOn with
    | ind n5 rI4 =>
      intro x1 x2 M3 iI4 H locs hG ls hl
      have h := qI4 n5 x1 x2 M3 iI4
      refine lv_iload_n hx hb dX6_readNumber_4 rfl (lv_at hl 3 rfl) ?_
      refine lv_iload_n hx hb dX6_readNumber_5 rfl (lv_at hl 1 rfl) ?_
      obtain ⟨K30, hK30, h⟩ := h
      have jK30 : K30 → ∀ (H : Heap) (locs : List Loc), GM D cy o M3 s.heap H locs → ∀ ls : Array Slot, lv_has ls 4 [(0, .ref (rA o a0)), (2, .int (J x1)), (3, .int (J x2))] → W p l e rm_X6_readNumber s m args below meth c H locs 0 0 Qf (F0 m 76 ls []) := by
        intro hcK30 H locs hG ls hl
        have h := hK30 hcK30
        refine lv_iload_n hx hb dX6_readNumber_76 rfl (lv_at hl 2 rfl) ?_
        obtain ⟨K35, hK35, h⟩ := h
        have jK35 : ∀ (M34 : jT), K35 M34 → ∀ (H : Heap) (locs : List Loc), GM D cy o M34 s.heap H locs → ∀ ls : Array Slot, lv_has ls 4 [(2, .int (J x1))] → W p l e rm_X6_readNumber s m args below meth c H locs 0 0 Qf (F0 m 88 ls []) := by
          intro M34 hcK35 H locs hG ls hl
          have h := hK35 M34 hcK35
          refine lv_iload_n hx hb dX6_readNumber_88 rfl (lv_at hl 0 rfl) ?_
          rw [hQf]
          exact j_ireti hx hb hr hlocks hG h (by decide) dX6_readNumber_89
        obtain ⟨g37, h⟩ := h
        refine j_if_ne (tgt := 88) hx hb dX6_readNumber_77 (by decide) g37 (fun c36 => ?_) (fun c36 => ?_)
        · have h := h.1 c36
          exact jK35 M3 h H locs hG ls (lv_sub hl [1] rfl)
        · have h := h.2 c36
          refine lv_aload_n hx hb dX6_readNumber_80 rfl (lv_at hl 0 rfl) ?_
          refine lv_aload_n hx hb dX6_readNumber_81 rfl (lv_at hl 0 rfl) ?_
          refine j_geti hx hb hts hown hK hG (k := a0) (fun w h => List.mem_cons_of_mem _ (u_X6 w h)) (ci := 5) rfl ka0 3 (by decide) (jz := 3) rfl w_fl_RX6_26 dX6_readNumber_82 ?_
          refine j_puti hx hb hts hown hK hG (k := a0) (fun w h => List.mem_cons_of_mem _ (u_X6 w h)) tyX6 tyX6_ok nmX6 (ci := 5) rfl ka0 2 (by decide) (jz := 2) rfl w_fl_RX6_11 (hd := rfl) (hn := rfl) (hfit := rfl) (hdg := dX6_readNumber_85) (fun M38 eM38 H locs hG => ?_)
          have h := h M38 eM38
          exact jK35 M38 h H locs hG ls (lv_sub hl [1] rfl)
      obtain ⟨g40, h⟩ := h
      obtain ⟨g41, h⟩ := h
      refine j_icmp_ge (tgt := 76) hx hb dX6_readNumber_6 (by decide) g40 g41 (fun c39 => ?_) (fun c39 => ?_)
      · have h := h.1 c39
        exact jK30 h H locs hG ls (lv_sub hl [0, 2, 3] rfl)
      · have h := h.2 c39
        refine lv_aload_n hx hb dX6_readNumber_9 rfl (lv_at hl 0 rfl) ?_
        refine lv_aload_n hx hb dX6_readNumber_10 rfl (lv_at hl 0 rfl) ?_
        refine j_geti hx hb hts hown hK hG (k := a0) (fun w h => List.mem_cons_of_mem _ (u_X6 w h)) (ci := 5) rfl ka0 3 (by decide) (jz := 3) rfl w_fl_RX6_26 dX6_readNumber_11 ?_
        obtain ⟨g42, h⟩ := h
        refine j_conti (va_runV (As := [.int (J (M3 a0 3))]) (rest := []) ⟨hx, hb, hml, hown, hts⟩ (A_X6_letterAt l ka0 g42) (cwV 1 hts (gj_V ml_RX6_60 i_X6_letterAt s_X6_letterAt n_RX6 k_X6_letterAt) rfl rfl rfl (by decide +kernel) ⟨by exact Nat.le_of_ble_eq_true rfl, by exact Nat.le_of_ble_eq_true rfl⟩) (j_preV hK hSX hG (ci := 5) rfl ka0 (by decide)) rfl rfl hl.1 rfl (lv_room (Nat.le_of_ble_eq_true rfl)) dX6_readNumber_14 ⟨by exact Nat.le_of_ble_eq_true rfl, by exact Nat.le_of_ble_eq_true rfl⟩) hG (c2 := 0) (s2 := 0) ⟨by exact Nat.le_of_ble_eq_true rfl, by exact Nat.le_of_ble_eq_true rfl⟩ (fun z43 M44 ez43 H locs hG => ?_)
        obtain ⟨ez43, eM44⟩ := ez43
        subst ez43
        rw [eM44] at hG
        refine lv_bipush (v := J 48) hx hb dX6_readNumber_17 (by decide) ?_
        obtain ⟨g46, h⟩ := h
        refine j_icmp_lt (tgt := 76) hx hb dX6_readNumber_19 (by decide) g46 (by decide) (fun c45 => ?_) (fun c45 => ?_)
        · have h := h.1 c45
          exact jK30 h H locs hG ls (lv_sub hl [0, 2, 3] rfl)
        · have h := h.2 c45
          refine lv_aload_n hx hb dX6_readNumber_22 rfl (lv_at hl 0 rfl) ?_
          refine lv_aload_n hx hb dX6_readNumber_23 rfl (lv_at hl 0 rfl) ?_
          refine j_geti hx hb hts hown hK hG (k := a0) (fun w h => List.mem_cons_of_mem _ (u_X6 w h)) (ci := 5) rfl ka0 3 (by decide) (jz := 3) rfl w_fl_RX6_26 dX6_readNumber_24 ?_
          refine j_conti (va_runV (As := [.int (J (M3 a0 3))]) (rest := []) ⟨hx, hb, hml, hown, hts⟩ (A_X6_letterAt l ka0 g42) (cwV 1 hts (gj_V ml_RX6_60 i_X6_letterAt s_X6_letterAt n_RX6 k_X6_letterAt) rfl rfl rfl (by decide +kernel) ⟨by exact Nat.le_of_ble_eq_true rfl, by exact Nat.le_of_ble_eq_true rfl⟩) (j_preV hK hSX hG (ci := 5) rfl ka0 (by decide)) rfl rfl hl.1 rfl (lv_room (Nat.le_of_ble_eq_true rfl)) dX6_readNumber_27 ⟨by exact Nat.le_of_ble_eq_true rfl, by exact Nat.le_of_ble_eq_true rfl⟩) hG (c2 := 0) (s2 := 0) ⟨by exact Nat.le_of_ble_eq_true rfl, by exact Nat.le_of_ble_eq_true rfl⟩ (fun z47 M48 ez47 H locs hG => ?_)
          obtain ⟨ez47, eM48⟩ := ez47
          subst ez47
          rw [eM48] at hG
          refine lv_bipush (v := J 57) hx hb dX6_readNumber_30 (by decide) ?_
          refine j_icmp_gt (tgt := 76) hx hb dX6_readNumber_32 (by decide) g46 (by decide) (fun c49 => ?_) (fun c49 => ?_)
          · have h := h.1 c49
            exact jK30 h H locs hG ls (lv_sub hl [0, 2, 3] rfl)
          · have h := h.2 c49
            refine lv_iload_n hx hb dX6_readNumber_35 rfl (lv_at hl 3 rfl) ?_
            obtain ⟨K53, hK53, h⟩ := h
            have jK53 : K53 → ∀ (H : Heap) (locs : List Loc), GM D cy o M3 s.heap H locs → ∀ ls : Array Slot, lv_has ls 4 [(0, .ref (rA o a0)), (1, .int (J a1)), (2, .int (J x1)), (3, .int (J x2))] → W p l e rm_X6_readNumber s m args below meth c H locs 0 0 Qf (F0 m 43 ls []) := by
              intro hcK53 H locs hG ls hl
              have h := hK53 hcK53
              refine lv_bipush (v := J 10) hx hb dX6_readNumber_43 (by decide) ?_
              refine lv_iload_n hx hb dX6_readNumber_45 rfl (lv_at hl 2 rfl) ?_
              refine j_imul hx hb dX6_readNumber_46 ?_
              refine lv_aload_n hx hb dX6_readNumber_47 rfl (lv_at hl 0 rfl) ?_
              refine lv_aload_n hx hb dX6_readNumber_48 rfl (lv_at hl 0 rfl) ?_
              refine j_geti hx hb hts hown hK hG (k := a0) (fun w h => List.mem_cons_of_mem _ (u_X6 w h)) (ci := 5) rfl ka0 3 (by decide) (jz := 3) rfl w_fl_RX6_26 dX6_readNumber_49 ?_
              refine j_conti (va_runV (As := [.int (J (M3 a0 3))]) (rest := [.int (J (10 * x1))]) ⟨hx, hb, hml, hown, hts⟩ (A_X6_letterAt l ka0 g42) (cwV 1 hts (gj_V ml_RX6_60 i_X6_letterAt s_X6_letterAt n_RX6 k_X6_letterAt) rfl rfl rfl (by decide +kernel) ⟨by exact Nat.le_of_ble_eq_true rfl, by exact Nat.le_of_ble_eq_true rfl⟩) (j_preV hK hSX hG (ci := 5) rfl ka0 (by decide)) rfl rfl hl.1 rfl (lv_room (Nat.le_of_ble_eq_true rfl)) dX6_readNumber_52 ⟨by exact Nat.le_of_ble_eq_true rfl, by exact Nat.le_of_ble_eq_true rfl⟩) hG (c2 := 0) (s2 := 0) ⟨by exact Nat.le_of_ble_eq_true rfl, by exact Nat.le_of_ble_eq_true rfl⟩ (fun z54 M55 ez54 H locs hG => ?_)
              obtain ⟨ez54, eM55⟩ := ez54
              subst ez54
              rw [eM55] at hG
              refine j_iadd hx hb dX6_readNumber_55 ?_
              refine lv_bipush (v := J 48) hx hb dX6_readNumber_56 (by decide) ?_
              refine j_isub hx hb dX6_readNumber_58 ?_
              refine j_topi (fun x56 ex56 => ?_)
              have h := h x56 ex56
              refine lv_istore_n (lv' := [(2, .int (J x56)), (0, .ref (rA o a0)), (1, .int (J a1)), (3, .int (J x2))]) hx hb dX6_readNumber_59 rfl hl (by decide) rfl (fun ls hl => ?_)
              refine j_iinc hx hb dX6_readNumber_60 hl (k := 3) rfl (by decide) (fun x57 ex57 ls hl => ?_)
              have h := h x57 ex57
              have hl : lv_has ls 4 [(3, .int (J x57)), (2, .int (J x56)), (0, .ref (rA o a0)), (1, .int (J a1))] := hl
              refine lv_aload_n hx hb dX6_readNumber_63 rfl (lv_at hl 2 rfl) ?_
              refine lv_dup hx hb dX6_readNumber_64 rfl ?_
              refine j_geti hx hb hts hown hK hG (k := a0) (fun w h => List.mem_cons_of_mem _ (u_X6 w h)) (ci := 5) rfl ka0 3 (by decide) (jz := 3) rfl w_fl_RX6_26 dX6_readNumber_65 ?_
              refine lv_iconst (v := J 1) hx hb dX6_readNumber_68 (by decide) ?_
              refine j_iadd hx hb dX6_readNumber_69 ?_
              refine j_puti hx hb hts hown hK hG (k := a0) (fun w h => List.mem_cons_of_mem _ (u_X6 w h)) tyX6 tyX6_ok nmX6 (ci := 5) rfl ka0 3 (by decide) (jz := 3) rfl w_fl_RX6_26 (hd := rfl) (hn := rfl) (hfit := rfl) (hdg := dX6_readNumber_70) (fun M58 eM58 H locs hG => ?_)
              have h := h M58 eM58
              refine lv_goto (tgt := 4) hx hb dX6_readNumber_73 (by decide) ?_
              obtain ⟨n59, ln59, iI4⟩ := h
              exact rI4 n59 ln59 x56 x57 M58 iI4 H locs hG ls (lv_sub hl [2, 3, 1, 0] rfl)
            refine j_if_eq (tgt := 43) hx hb dX6_readNumber_36 (by decide) g40 (fun c60 => ?_) (fun c60 => ?_)
            · have h := h.1 c60
              exact jK53 h H locs hG ls (lv_sub hl [0, 1, 2, 3] rfl)
            · have h := h.2 c60
              refine lv_iload_n hx hb dX6_readNumber_39 rfl (lv_at hl 2 rfl) ?_
              obtain ⟨g62, h⟩ := h
              refine j_if_le (tgt := 76) hx hb dX6_readNumber_40 (by decide) g62 (fun c61 => ?_) (fun c61 => ?_)
              · have h := h.1 c61
                exact jK30 h H locs hG ls (lv_sub hl [0, 2, 3] rfl)
              · have h := h.2 c61
                exact jK53 h H locs hG ls (lv_sub hl [0, 1, 2, 3] rfl)
  exact lI4 n5s 0 0 M iI4 H locs hG ls (lv_sub hl [2, 3, 1, 0] rfl)

abbrev rm_X6_readBase : Room := { frames := 2, cells := 0, slots := 0, locals := 44 }
set_option maxRecDepth 100000 in
set_option maxHeartbeats 4000000 in
theorem A_X6_readBase (l : Launch) {D : va_G} {cy : Nat → ClassId} {o : Nat} {sK sV : Nat → Nat} {M : jT} {a0 : Int} (ka0 : kd a0 = 6) {Q : Int → jT → Prop} (h : wp_X6_readBase M a0 Q) : CoI l yX6_readBase (wj yX6_readBase cX6_readBase 1 (some .int)) rm_X6_readBase D cy o sK sV M [.ref (rA o a0)] Q := by
  refine j_ofW (cc := cX6_readBase) (maxL := 1) (ret := (some .int)) (by decide) rfl (Nat.le_of_ble_eq_true rfl) ?_
  intro p e s m args below meth c hx hb hr hlocks hml hown hts hK hSX H locs hG ls hl Qf hQf
  have hown : s.vm.findClass RX6 = some m.cls := hown
  have hl : lv_has ls 1 [(0, .ref (rA o a0))] := hl
  have w_fl_RX6_26 := hts _ (List.mem_cons_of_mem _ fl_RX6_26)
  unfold wp_X6_readBase at h
  refine lv_aload_n hx hb dX6_readBase_0 rfl (lv_at hl 0 rfl) ?_
  refine lv_aload_n hx hb dX6_readBase_1 rfl (lv_at hl 0 rfl) ?_
  refine j_geti hx hb hts hown hK hG (k := a0) (fun w h => List.mem_cons_of_mem _ (u_X6 w h)) (ci := 5) rfl ka0 3 (by decide) (jz := 3) rfl w_fl_RX6_26 dX6_readBase_2 ?_
  obtain ⟨g1, h⟩ := h
  refine j_conti (va_runV (As := [.int (J (M a0 3))]) (rest := []) ⟨hx, hb, hml, hown, hts⟩ (A_X6_letterAt l ka0 g1) (cwV 1 hts (gj_V ml_RX6_60 i_X6_letterAt s_X6_letterAt n_RX6 k_X6_letterAt) rfl rfl rfl (by decide +kernel) ⟨by exact Nat.le_of_ble_eq_true rfl, by exact Nat.le_of_ble_eq_true rfl⟩) (j_preV hK hSX hG (ci := 5) rfl ka0 (by decide)) rfl rfl hl.1 rfl (lv_room (Nat.le_of_ble_eq_true rfl)) dX6_readBase_5 ⟨by exact Nat.le_of_ble_eq_true rfl, by exact Nat.le_of_ble_eq_true rfl⟩) hG (c2 := 0) (s2 := 0) ⟨by exact Nat.le_of_ble_eq_true rfl, by exact Nat.le_of_ble_eq_true rfl⟩ (fun z2 M3 ez2 H locs hG => ?_)
  obtain ⟨ez2, eM3⟩ := ez2
  subst ez2
  rw [eM3] at hG
  refine lv_bipush (v := J 45) hx hb dX6_readBase_8 (by decide) ?_
  obtain ⟨g5, h⟩ := h
  refine j_icmp_eq (tgt := 19) hx hb dX6_readBase_10 (by decide) g5 (by decide) (fun c4 => ?_) (fun c4 => ?_)
  · have h := h.1 c4
    refine lv_aload_n hx hb dX6_readBase_19 rfl (lv_at hl 0 rfl) ?_
    refine lv_dup hx hb dX6_readBase_20 rfl ?_
    refine j_geti hx hb hts hown hK hG (k := a0) (fun w h => List.mem_cons_of_mem _ (u_X6 w h)) (ci := 5) rfl ka0 3 (by decide) (jz := 3) rfl w_fl_RX6_26 dX6_readBase_21 ?_
    refine lv_iconst (v := J 1) hx hb dX6_readBase_24 (by decide) ?_
    refine j_iadd hx hb dX6_readBase_25 ?_
    refine j_puti hx hb hts hown hK hG (k := a0) (fun w h => List.mem_cons_of_mem _ (u_X6 w h)) tyX6 tyX6_ok nmX6 (ci := 5) rfl ka0 3 (by decide) (jz := 3) rfl w_fl_RX6_26 (hd := rfl) (hn := rfl) (hfit := rfl) (hdg := dX6_readBase_26) (fun M6 eM6 H locs hG => ?_)
    have h := h M6 eM6
    refine lv_aload_n hx hb dX6_readBase_29 rfl (lv_at hl 0 rfl) ?_
    refine lv_iconst (v := J 5) hx hb dX6_readBase_30 (by decide) ?_
    refine j_conti (va_runV (As := [.int (J 5)]) (rest := []) ⟨hx, hb, hml, hown, hts⟩ (A_X6_readNumber l ka0 h) (cwV 1 hts (gj_V ml_RX6_97 i_X6_readNumber s_X6_readNumber n_RX6 k_X6_readNumber) rfl rfl rfl (by decide +kernel) ⟨by exact Nat.le_of_ble_eq_true rfl, by exact Nat.le_of_ble_eq_true rfl⟩) (j_preV hK hSX hG (ci := 5) rfl ka0 (by decide)) rfl rfl hl.1 rfl (lv_room (Nat.le_of_ble_eq_true rfl)) dX6_readBase_31 ⟨by exact Nat.le_of_ble_eq_true rfl, by exact Nat.le_of_ble_eq_true rfl⟩) hG (c2 := 0) (s2 := 0) ⟨by exact Nat.le_of_ble_eq_true rfl, by exact Nat.le_of_ble_eq_true rfl⟩ (fun z7 M8 h H locs hG => ?_)
    refine j_ineg hx hb dX6_readBase_34 ?_
    rw [hQf]
    exact j_ireti hx hb hr hlocks hG h (by decide) dX6_readBase_35
  · have h := h.2 c4
    refine lv_aload_n hx hb dX6_readBase_13 rfl (lv_at hl 0 rfl) ?_
    refine lv_iconst (v := J 5) hx hb dX6_readBase_14 (by decide) ?_
    refine j_conti (va_runV (As := [.int (J 5)]) (rest := []) ⟨hx, hb, hml, hown, hts⟩ (A_X6_readNumber l ka0 h) (cwV 1 hts (gj_V ml_RX6_97 i_X6_readNumber s_X6_readNumber n_RX6 k_X6_readNumber) rfl rfl rfl (by decide +kernel) ⟨by exact Nat.le_of_ble_eq_true rfl, by exact Nat.le_of_ble_eq_true rfl⟩) (j_preV hK hSX hG (ci := 5) rfl ka0 (by decide)) rfl rfl hl.1 rfl (lv_room (Nat.le_of_ble_eq_true rfl)) dX6_readBase_15 ⟨by exact Nat.le_of_ble_eq_true rfl, by exact Nat.le_of_ble_eq_true rfl⟩) hG (c2 := 0) (s2 := 0) ⟨by exact Nat.le_of_ble_eq_true rfl, by exact Nat.le_of_ble_eq_true rfl⟩ (fun z9 M10 h H locs hG => ?_)
    rw [hQf]
    exact j_ireti hx hb hr hlocks hG h (by decide) dX6_readBase_18

abbrev rm_X6_readWeekday : Room := { frames := 1, cells := 0, slots := 0, locals := 21 }
set_option maxRecDepth 100000 in
set_option maxHeartbeats 4000000 in
theorem A_X6_readWeekday (l : Launch) {D : va_G} {cy : Nat → ClassId} {o : Nat} {sK sV : Nat → Nat} {M : jT} {a0 : Int} (ka0 : kd a0 = 6) {Q : Int → jT → Prop} (h : wp_X6_readWeekday M a0 Q) : CoI l yX6_readWeekday (wj yX6_readWeekday cX6_readWeekday 2 (some .int)) rm_X6_readWeekday D cy o sK sV M [.ref (rA o a0)] Q := by
  refine j_ofW (cc := cX6_readWeekday) (maxL := 2) (ret := (some .int)) (by decide) rfl (Nat.le_of_ble_eq_true rfl) ?_
  intro p e s m args below meth c hx hb hr hlocks hml hown hts hK hSX H locs hG ls hl Qf hQf
  have hown : s.vm.findClass RX6 = some m.cls := hown
  have hl : lv_has ls 2 [(0, .ref (rA o a0))] := hl
  have w_fl_RX6_26 := hts _ (List.mem_cons_of_mem _ fl_RX6_26)
  have w_fl_RX6_11 := hts _ (List.mem_cons_of_mem _ fl_RX6_11)
  unfold wp_X6_readWeekday at h
  refine lv_aload_n hx hb dX6_readWeekday_0 rfl (lv_at hl 0 rfl) ?_
  refine lv_aload_n hx hb dX6_readWeekday_1 rfl (lv_at hl 0 rfl) ?_
  refine j_geti hx hb hts hown hK hG (k := a0) (fun w h => List.mem_cons_of_mem _ (u_X6 w h)) (ci := 5) rfl ka0 3 (by decide) (jz := 3) rfl w_fl_RX6_26 dX6_readWeekday_2 ?_
  obtain ⟨g1, h⟩ := h
  refine j_conti (va_runV (As := [.int (J (M a0 3))]) (rest := []) ⟨hx, hb, hml, hown, hts⟩ (A_X6_letterAt l ka0 g1) (cwV 1 hts (gj_V ml_RX6_60 i_X6_letterAt s_X6_letterAt n_RX6 k_X6_letterAt) rfl rfl rfl (by decide +kernel) ⟨by exact Nat.le_of_ble_eq_true rfl, by exact Nat.le_of_ble_eq_true rfl⟩) (j_preV hK hSX hG (ci := 5) rfl ka0 (by decide)) rfl rfl hl.1 rfl (lv_room (Nat.le_of_ble_eq_true rfl)) dX6_readWeekday_5 ⟨by exact Nat.le_of_ble_eq_true rfl, by exact Nat.le_of_ble_eq_true rfl⟩) hG (c2 := 0) (s2 := 0) ⟨by exact Nat.le_of_ble_eq_true rfl, by exact Nat.le_of_ble_eq_true rfl⟩ (fun z2 M3 ez2 H locs hG => ?_)
  obtain ⟨ez2, eM3⟩ := ez2
  subst ez2
  rw [eM3] at hG
  refine lv_bipush (v := J 48) hx hb dX6_readWeekday_8 (by decide) ?_
  refine j_isub hx hb dX6_readWeekday_10 ?_
  refine j_topi (fun x4 ex4 => ?_)
  have h := h x4 ex4
  refine lv_istore_n (lv' := [(1, .int (J x4)), (0, .ref (rA o a0))]) hx hb dX6_readWeekday_11 rfl hl (by decide) rfl (fun ls hl => ?_)
  refine lv_iload_n hx hb dX6_readWeekday_12 rfl (lv_at hl 0 rfl) ?_
  obtain ⟨K9, hK9, h⟩ := h
  have jK9 : K9 → ∀ (H : Heap) (locs : List Loc), GM D cy o M s.heap H locs → ∀ ls : Array Slot, lv_has ls 2 [(0, .ref (rA o a0))] → W p l e rm_X6_readWeekday s m args below meth c H locs 0 0 Qf (F0 m 22 ls []) := by
    intro hcK9 H locs hG ls hl
    have h := hK9 hcK9
    refine lv_aload_n hx hb dX6_readWeekday_22 rfl (lv_at hl 0 rfl) ?_
    refine lv_aload_n hx hb dX6_readWeekday_23 rfl (lv_at hl 0 rfl) ?_
    refine j_geti hx hb hts hown hK hG (k := a0) (fun w h => List.mem_cons_of_mem _ (u_X6 w h)) (ci := 5) rfl ka0 3 (by decide) (jz := 3) rfl w_fl_RX6_26 dX6_readWeekday_24 ?_
    refine j_puti hx hb hts hown hK hG (k := a0) (fun w h => List.mem_cons_of_mem _ (u_X6 w h)) tyX6 tyX6_ok nmX6 (ci := 5) rfl ka0 2 (by decide) (jz := 2) rfl w_fl_RX6_11 (hd := rfl) (hn := rfl) (hfit := rfl) (hdg := dX6_readWeekday_27) (fun M10 eM10 H locs hG => ?_)
    have h := h M10 eM10
    refine lv_iconst (v := J 0) hx hb dX6_readWeekday_30 (by decide) ?_
    rw [hQf]
    exact j_ireti hx hb hr hlocks hG h (by decide) dX6_readWeekday_31
  obtain ⟨g12, h⟩ := h
  refine j_if_lt (tgt := 22) hx hb dX6_readWeekday_13 (by decide) g12 (fun c11 => ?_) (fun c11 => ?_)
  · have h := h.1 c11
    exact jK9 h H locs hG ls (lv_sub hl [1] rfl)
  · have h := h.2 c11
    refine lv_iload_n hx hb dX6_readWeekday_16 rfl (lv_at hl 0 rfl) ?_
    refine lv_bipush (v := J 6) hx hb dX6_readWeekday_17 (by decide) ?_
    refine j_icmp_le (tgt := 32) hx hb dX6_readWeekday_19 (by decide) g12 (by decide) (fun c13 => ?_) (fun c13 => ?_)
    · have h := h.1 c13
      refine lv_aload_n hx hb dX6_readWeekday_32 rfl (lv_at hl 1 rfl) ?_
      refine lv_dup hx hb dX6_readWeekday_33 rfl ?_
      refine j_geti hx hb hts hown hK hG (k := a0) (fun w h => List.mem_cons_of_mem _ (u_X6 w h)) (ci := 5) rfl ka0 3 (by decide) (jz := 3) rfl w_fl_RX6_26 dX6_readWeekday_34 ?_
      refine lv_iconst (v := J 1) hx hb dX6_readWeekday_37 (by decide) ?_
      refine j_iadd hx hb dX6_readWeekday_38 ?_
      refine j_puti hx hb hts hown hK hG (k := a0) (fun w h => List.mem_cons_of_mem _ (u_X6 w h)) tyX6 tyX6_ok nmX6 (ci := 5) rfl ka0 3 (by decide) (jz := 3) rfl w_fl_RX6_26 (hd := rfl) (hn := rfl) (hfit := rfl) (hdg := dX6_readWeekday_39) (fun M14 eM14 H locs hG => ?_)
      have h := h M14 eM14
      refine lv_iload_n hx hb dX6_readWeekday_42 rfl (lv_at hl 0 rfl) ?_
      rw [hQf]
      exact j_ireti hx hb hr hlocks hG h (by decide) dX6_readWeekday_43
    · have h := h.2 c13
      exact jK9 h H locs hG ls (lv_sub hl [1] rfl)

abbrev rm_X6_readDate : Room := { frames := 2, cells := 0, slots := 0, locals := 44 }
set_option maxRecDepth 100000 in
set_option maxHeartbeats 4000000 in
theorem A_X6_readDate (l : Launch) {D : va_G} {cy : Nat → ClassId} {o : Nat} {sK sV : Nat → Nat} {M : jT} {a0 : Int} (ka0 : kd a0 = 6) {Q : Int → jT → Prop} (h : wp_X6_readDate M a0 Q) : CoI l yX6_readDate (wj yX6_readDate cX6_readDate 4 (some .int)) rm_X6_readDate D cy o sK sV M [.ref (rA o a0)] Q := by
  refine j_ofW (cc := cX6_readDate) (maxL := 4) (ret := (some .int)) (by decide) rfl (Nat.le_of_ble_eq_true rfl) ?_
  intro p e s m args below meth c hx hb hr hlocks hml hown hts hK hSX H locs hG ls hl Qf hQf
  have hown : s.vm.findClass RX6 = some m.cls := hown
  have hl : lv_has ls 4 [(0, .ref (rA o a0))] := hl
  have w_fl_RX6_26 := hts _ (List.mem_cons_of_mem _ fl_RX6_26)
  unfold wp_X6_readDate at h
  refine lv_aload_n hx hb dX6_readDate_0 rfl (lv_at hl 0 rfl) ?_
  refine lv_aload_n hx hb dX6_readDate_1 rfl (lv_at hl 0 rfl) ?_
  refine j_geti hx hb hts hown hK hG (k := a0) (fun w h => List.mem_cons_of_mem _ (u_X6 w h)) (ci := 5) rfl ka0 3 (by decide) (jz := 3) rfl w_fl_RX6_26 dX6_readDate_2 ?_
  obtain ⟨g1, h⟩ := h
  refine j_conti (va_runV (As := [.int (J (M a0 3))]) (rest := []) ⟨hx, hb, hml, hown, hts⟩ (A_X6_letterAt l ka0 g1) (cwV 1 hts (gj_V ml_RX6_60 i_X6_letterAt s_X6_letterAt n_RX6 k_X6_letterAt) rfl rfl rfl (by decide +kernel) ⟨by exact Nat.le_of_ble_eq_true rfl, by exact Nat.le_of_ble_eq_true rfl⟩) (j_preV hK hSX hG (ci := 5) rfl ka0 (by decide)) rfl rfl hl.1 rfl (lv_room (Nat.le_of_ble_eq_true rfl)) dX6_readDate_5 ⟨by exact Nat.le_of_ble_eq_true rfl, by exact Nat.le_of_ble_eq_true rfl⟩) hG (c2 := 0) (s2 := 0) ⟨by exact Nat.le_of_ble_eq_true rfl, by exact Nat.le_of_ble_eq_true rfl⟩ (fun z2 M3 ez2 H locs hG => ?_)
  obtain ⟨ez2, eM3⟩ := ez2
  subst ez2
  rw [eM3] at hG
  refine lv_bipush (v := J 48) hx hb dX6_readDate_8 (by decide) ?_
  refine j_isub hx hb dX6_readDate_10 ?_
  refine j_topi (fun x4 ex4 => ?_)
  have h := h x4 ex4
  refine lv_istore_n (lv' := [(1, .int (J x4)), (0, .ref (rA o a0))]) hx hb dX6_readDate_11 rfl hl (by decide) rfl (fun ls hl => ?_)
  refine lv_aload_n hx hb dX6_readDate_12 rfl (lv_at hl 1 rfl) ?_
  refine lv_aload_n hx hb dX6_readDate_13 rfl (lv_at hl 1 rfl) ?_
  refine j_geti hx hb hts hown hK hG (k := a0) (fun w h => List.mem_cons_of_mem _ (u_X6 w h)) (ci := 5) rfl ka0 3 (by decide) (jz := 3) rfl w_fl_RX6_26 dX6_readDate_14 ?_
  refine lv_iconst (v := J 1) hx hb dX6_readDate_17 (by decide) ?_
  refine j_iadd hx hb dX6_readDate_18 ?_
  obtain ⟨g5, h⟩ := h
  refine j_conti (va_runV (As := [.int (J ((M a0 3) + 1))]) (rest := []) ⟨hx, hb, hml, hown, hts⟩ (A_X6_letterAt l ka0 g5) (cwV 1 hts (gj_V ml_RX6_60 i_X6_letterAt s_X6_letterAt n_RX6 k_X6_letterAt) rfl rfl rfl (by decide +kernel) ⟨by exact Nat.le_of_ble_eq_true rfl, by exact Nat.le_of_ble_eq_true rfl⟩) (j_preV hK hSX hG (ci := 5) rfl ka0 (by decide)) rfl rfl hl.1 rfl (lv_room (Nat.le_of_ble_eq_true rfl)) dX6_readDate_19 ⟨by exact Nat.le_of_ble_eq_true rfl, by exact Nat.le_of_ble_eq_true rfl⟩) hG (c2 := 0) (s2 := 0) ⟨by exact Nat.le_of_ble_eq_true rfl, by exact Nat.le_of_ble_eq_true rfl⟩ (fun z6 M7 ez6 H locs hG => ?_)
  obtain ⟨ez6, eM7⟩ := ez6
  subst ez6
  rw [eM7] at hG
  refine j_topi (fun x8 ex8 => ?_)
  have h := h x8 ex8
  refine lv_istore_n (lv' := [(2, .int (J x8)), (1, .int (J x4)), (0, .ref (rA o a0))]) hx hb dX6_readDate_22 rfl hl (by decide) rfl (fun ls hl => ?_)
  refine lv_aload_n hx hb dX6_readDate_23 rfl (lv_at hl 2 rfl) ?_
  refine lv_aload_n hx hb dX6_readDate_24 rfl (lv_at hl 2 rfl) ?_
  refine j_geti hx hb hts hown hK hG (k := a0) (fun w h => List.mem_cons_of_mem _ (u_X6 w h)) (ci := 5) rfl ka0 3 (by decide) (jz := 3) rfl w_fl_RX6_26 dX6_readDate_25 ?_
  refine j_conti (va_runV (As := [.int (J (M a0 3))]) (rest := []) ⟨hx, hb, hml, hown, hts⟩ (A_X6_letterAt l ka0 g1) (cwV 1 hts (gj_V ml_RX6_60 i_X6_letterAt s_X6_letterAt n_RX6 k_X6_letterAt) rfl rfl rfl (by decide +kernel) ⟨by exact Nat.le_of_ble_eq_true rfl, by exact Nat.le_of_ble_eq_true rfl⟩) (j_preV hK hSX hG (ci := 5) rfl ka0 (by decide)) rfl rfl hl.1 rfl (lv_room (Nat.le_of_ble_eq_true rfl)) dX6_readDate_28 ⟨by exact Nat.le_of_ble_eq_true rfl, by exact Nat.le_of_ble_eq_true rfl⟩) hG (c2 := 0) (s2 := 0) ⟨by exact Nat.le_of_ble_eq_true rfl, by exact Nat.le_of_ble_eq_true rfl⟩ (fun z9 M10 ez9 H locs hG => ?_)
  obtain ⟨ez9, eM10⟩ := ez9
  subst ez9
  rw [eM10] at hG
  refine lv_bipush (v := J 108) hx hb dX6_readDate_31 (by decide) ?_
  obtain ⟨g12, h⟩ := h
  refine j_icmp_ne (tgt := 55) hx hb dX6_readDate_33 (by decide) g12 (by decide) (fun c11 => ?_) (fun c11 => ?_)
  · have h := h.1 c11
    refine lv_iload_n hx hb dX6_readDate_55 rfl (lv_at hl 0 rfl) ?_
    refine lv_bipush (v := J 120) hx hb dX6_readDate_56 (by decide) ?_
    obtain ⟨K21, hK21, h⟩ := h
    have jK21 : K21 → ∀ (H : Heap) (locs : List Loc), GM D cy o M s.heap H locs → ∀ ls : Array Slot, lv_has ls 4 [(0, .ref (rA o a0)), (1, .int (J x4)), (2, .int (J x8))] → W p l e rm_X6_readDate s m args below meth c H locs 0 0 Qf (F0 m 91 ls []) := by
      intro hcK21 H locs hG ls hl
      have h := hK21 hcK21
      refine lv_iload_n hx hb dX6_readDate_91 rfl (lv_at hl 2 rfl) ?_
      refine lv_bipush (v := J 62) hx hb dX6_readDate_92 (by decide) ?_
      obtain ⟨K30, hK30, h⟩ := h
      have jK30 : K30 → ∀ (H : Heap) (locs : List Loc), GM D cy o M s.heap H locs → ∀ ls : Array Slot, lv_has ls 4 [(0, .ref (rA o a0))] → W p l e rm_X6_readDate s m args below meth c H locs 0 0 Qf (F0 m 132 ls []) := by
        intro hcK30 H locs hG ls hl
        have h := hK30 hcK30
        refine lv_aload_n hx hb dX6_readDate_132 rfl (lv_at hl 0 rfl) ?_
        refine lv_iconst (v := J 5) hx hb dX6_readDate_133 (by decide) ?_
        refine j_conti (va_runV (As := [.int (J 5)]) (rest := []) ⟨hx, hb, hml, hown, hts⟩ (A_X6_readNumber l ka0 h) (cwV 1 hts (gj_V ml_RX6_97 i_X6_readNumber s_X6_readNumber n_RX6 k_X6_readNumber) rfl rfl rfl (by decide +kernel) ⟨by exact Nat.le_of_ble_eq_true rfl, by exact Nat.le_of_ble_eq_true rfl⟩) (j_preV hK hSX hG (ci := 5) rfl ka0 (by decide)) rfl rfl hl.1 rfl (lv_room (Nat.le_of_ble_eq_true rfl)) dX6_readDate_134 ⟨by exact Nat.le_of_ble_eq_true rfl, by exact Nat.le_of_ble_eq_true rfl⟩) hG (c2 := 0) (s2 := 0) ⟨by exact Nat.le_of_ble_eq_true rfl, by exact Nat.le_of_ble_eq_true rfl⟩ (fun z31 M32 h H locs hG => ?_)
        refine lv_istore_n (lv' := [(3, .int (J z31)), (0, .ref (rA o a0))]) hx hb dX6_readDate_137 rfl hl (by decide) rfl (fun ls hl => ?_)
        refine lv_iload_n hx hb dX6_readDate_138 rfl (lv_at hl 0 rfl) ?_
        refine lv_bipush (v := J 31) hx hb dX6_readDate_139 (by decide) ?_
        obtain ⟨hg, h⟩ := h
        have jK36 : ∀ x35 : Int, (31 < z31 → x35 = 0) → (z31 ≤ 31 → x35 = z31) → ∀ (H : Heap) (locs : List Loc), GM D cy o M32 s.heap H locs → ∀ ls : Array Slot, lv_has ls 4 [] → W p l e rm_X6_readDate s m args below meth c H locs 0 0 Qf (F0 m 149 ls [.int (J x35)]) := by
          intro x35 qx35_0 qx35_1 H locs hG ls hl
          have h := h x35 qx35_0 qx35_1
          rw [hQf]
          exact j_ireti hx hb hr hlocks hG h (by decide) dX6_readDate_149
        have h := hg
        obtain ⟨g38, h⟩ := h
        refine j_icmp_gt (tgt := 148) hx hb dX6_readDate_141 (by decide) g38 (by decide) (fun c37 => ?_) (fun c37 => ?_)
        · have h := h.1 c37
          refine lv_iconst (v := J 0) hx hb dX6_readDate_148 (by decide) ?_
          exact jK36 0 (fun _ => rfl) (fun q => absurd q (by omega)) H locs hG ls (lv_sub hl [] rfl)
        · have h := h.2 c37
          refine lv_iload_n hx hb dX6_readDate_144 rfl (lv_at hl 0 rfl) ?_
          refine lv_goto (tgt := 149) hx hb dX6_readDate_145 (by decide) ?_
          exact jK36 z31 (fun q => absurd q (by omega)) (fun _ => rfl) H locs hG ls (lv_sub hl [] rfl)
      obtain ⟨g40, h⟩ := h
      refine j_icmp_ne (tgt := 132) hx hb dX6_readDate_94 (by decide) g40 (by decide) (fun c39 => ?_) (fun c39 => ?_)
      · have h := h.1 c39
        exact jK30 h H locs hG ls (lv_sub hl [0] rfl)
      · have h := h.2 c39
        refine lv_iload_n hx hb dX6_readDate_97 rfl (lv_at hl 1 rfl) ?_
        obtain ⟨g42, h⟩ := h
        refine j_if_lt (tgt := 132) hx hb dX6_readDate_98 (by decide) g42 (fun c41 => ?_) (fun c41 => ?_)
        · have h := h.1 c41
          exact jK30 h H locs hG ls (lv_sub hl [0] rfl)
        · have h := h.2 c41
          refine lv_iload_n hx hb dX6_readDate_101 rfl (lv_at hl 1 rfl) ?_
          refine lv_bipush (v := J 6) hx hb dX6_readDate_102 (by decide) ?_
          refine j_icmp_gt (tgt := 132) hx hb dX6_readDate_104 (by decide) g42 (by decide) (fun c43 => ?_) (fun c43 => ?_)
          · have h := h.1 c43
            exact jK30 h H locs hG ls (lv_sub hl [0] rfl)
          · have h := h.2 c43
            refine lv_aload_n hx hb dX6_readDate_107 rfl (lv_at hl 0 rfl) ?_
            refine lv_dup hx hb dX6_readDate_108 rfl ?_
            refine j_geti hx hb hts hown hK hG (k := a0) (fun w h => List.mem_cons_of_mem _ (u_X6 w h)) (ci := 5) rfl ka0 3 (by decide) (jz := 3) rfl w_fl_RX6_26 dX6_readDate_109 ?_
            refine lv_iconst (v := J 2) hx hb dX6_readDate_112 (by decide) ?_
            refine j_iadd hx hb dX6_readDate_113 ?_
            refine j_puti hx hb hts hown hK hG (k := a0) (fun w h => List.mem_cons_of_mem _ (u_X6 w h)) tyX6 tyX6_ok nmX6 (ci := 5) rfl ka0 3 (by decide) (jz := 3) rfl w_fl_RX6_26 (hd := rfl) (hn := rfl) (hfit := rfl) (hdg := dX6_readDate_114) (fun M44 eM44 H locs hG => ?_)
            have h := h M44 eM44
            refine lv_sipush (v := J 1000) hx hb dX6_readDate_117 (by decide) ?_
            refine lv_bipush (v := J 10) hx hb dX6_readDate_120 (by decide) ?_
            refine lv_aload_n hx hb dX6_readDate_122 rfl (lv_at hl 0 rfl) ?_
            refine lv_iconst (v := J 2) hx hb dX6_readDate_123 (by decide) ?_
            refine j_conti (va_runV (As := [.int (J 2)]) (rest := [.int (J 10), .int (J 1000)]) ⟨hx, hb, hml, hown, hts⟩ (A_X6_readNumber l ka0 h) (cwV 1 hts (gj_V ml_RX6_97 i_X6_readNumber s_X6_readNumber n_RX6 k_X6_readNumber) rfl rfl rfl (by decide +kernel) ⟨by exact Nat.le_of_ble_eq_true rfl, by exact Nat.le_of_ble_eq_true rfl⟩) (j_preV hK hSX hG (ci := 5) rfl ka0 (by decide)) rfl rfl hl.1 rfl (lv_room (Nat.le_of_ble_eq_true rfl)) dX6_readDate_124 ⟨by exact Nat.le_of_ble_eq_true rfl, by exact Nat.le_of_ble_eq_true rfl⟩) hG (c2 := 0) (s2 := 0) ⟨by exact Nat.le_of_ble_eq_true rfl, by exact Nat.le_of_ble_eq_true rfl⟩ (fun z45 M46 h H locs hG => ?_)
            refine j_imul hx hb dX6_readDate_127 ?_
            refine j_iadd hx hb dX6_readDate_128 ?_
            refine lv_iload_n hx hb dX6_readDate_129 rfl (lv_at hl 1 rfl) ?_
            refine j_iadd hx hb dX6_readDate_130 ?_
            rw [hQf]
            exact j_ireti hx hb hr hlocks hG h (by decide) dX6_readDate_131
    obtain ⟨g48, h⟩ := h
    refine j_icmp_ne (tgt := 91) hx hb dX6_readDate_58 (by decide) g48 (by decide) (fun c47 => ?_) (fun c47 => ?_)
    · have h := h.1 c47
      exact jK21 h H locs hG ls (lv_sub hl [2, 1, 0] rfl)
    · have h := h.2 c47
      refine lv_iload_n hx hb dX6_readDate_61 rfl (lv_at hl 1 rfl) ?_
      refine lv_iconst (v := J 1) hx hb dX6_readDate_62 (by decide) ?_
      obtain ⟨g50, h⟩ := h
      refine j_icmp_lt (tgt := 91) hx hb dX6_readDate_63 (by decide) g50 (by decide) (fun c49 => ?_) (fun c49 => ?_)
      · have h := h.1 c49
        exact jK21 h H locs hG ls (lv_sub hl [2, 1, 0] rfl)
      · have h := h.2 c49
        refine lv_iload_n hx hb dX6_readDate_66 rfl (lv_at hl 1 rfl) ?_
        refine lv_iconst (v := J 4) hx hb dX6_readDate_67 (by decide) ?_
        refine j_icmp_gt (tgt := 91) hx hb dX6_readDate_68 (by decide) g50 (by decide) (fun c51 => ?_) (fun c51 => ?_)
        · have h := h.1 c51
          exact jK21 h H locs hG ls (lv_sub hl [2, 1, 0] rfl)
        · have h := h.2 c51
          refine lv_aload_n hx hb dX6_readDate_71 rfl (lv_at hl 2 rfl) ?_
          refine lv_dup hx hb dX6_readDate_72 rfl ?_
          refine j_geti hx hb hts hown hK hG (k := a0) (fun w h => List.mem_cons_of_mem _ (u_X6 w h)) (ci := 5) rfl ka0 3 (by decide) (jz := 3) rfl w_fl_RX6_26 dX6_readDate_73 ?_
          refine lv_iconst (v := J 2) hx hb dX6_readDate_76 (by decide) ?_
          refine j_iadd hx hb dX6_readDate_77 ?_
          refine j_puti hx hb hts hown hK hG (k := a0) (fun w h => List.mem_cons_of_mem _ (u_X6 w h)) tyX6 tyX6_ok nmX6 (ci := 5) rfl ka0 3 (by decide) (jz := 3) rfl w_fl_RX6_26 (hd := rfl) (hn := rfl) (hfit := rfl) (hdg := dX6_readDate_78) (fun M52 eM52 H locs hG => ?_)
          have h := h M52 eM52
          refine lv_bipush (v := J 100) hx hb dX6_readDate_81 (by decide) ?_
          refine lv_iload_n hx hb dX6_readDate_83 rfl (lv_at hl 1 rfl) ?_
          refine j_imul hx hb dX6_readDate_84 ?_
          refine lv_aload_n hx hb dX6_readDate_85 rfl (lv_at hl 2 rfl) ?_
          refine j_conti (va_runV (As := []) (rest := [.int (J (100 * x4))]) ⟨hx, hb, hml, hown, hts⟩ (A_X6_readWeekday l ka0 h) (cwV 0 hts (gj_V ml_RX6_101 i_X6_readWeekday s_X6_readWeekday n_RX6 k_X6_readWeekday) rfl rfl rfl (by decide +kernel) ⟨by exact Nat.le_of_ble_eq_true rfl, by exact Nat.le_of_ble_eq_true rfl⟩) (j_preV hK hSX hG (ci := 5) rfl ka0 (by decide)) rfl rfl hl.1 rfl (lv_room (Nat.le_of_ble_eq_true rfl)) dX6_readDate_86 ⟨by exact Nat.le_of_ble_eq_true rfl, by exact Nat.le_of_ble_eq_true rfl⟩) hG (c2 := 0) (s2 := 0) ⟨by exact Nat.le_of_ble_eq_true rfl, by exact Nat.le_of_ble_eq_true rfl⟩ (fun z53 M54 h H locs hG => ?_)
          refine j_iadd hx hb dX6_readDate_89 ?_
          rw [hQf]
          exact j_ireti hx hb hr hlocks hG h (by decide) dX6_readDate_90
  · have h := h.2 c11
    refine lv_aload_n hx hb dX6_readDate_36 rfl (lv_at hl 2 rfl) ?_
    refine lv_dup hx hb dX6_readDate_37 rfl ?_
    refine j_geti hx hb hts hown hK hG (k := a0) (fun w h => List.mem_cons_of_mem _ (u_X6 w h)) (ci := 5) rfl ka0 3 (by decide) (jz := 3) rfl w_fl_RX6_26 dX6_readDate_38 ?_
    refine lv_iconst (v := J 1) hx hb dX6_readDate_41 (by decide) ?_
    refine j_iadd hx hb dX6_readDate_42 ?_
    refine j_puti hx hb hts hown hK hG (k := a0) (fun w h => List.mem_cons_of_mem _ (u_X6 w h)) tyX6 tyX6_ok nmX6 (ci := 5) rfl ka0 3 (by decide) (jz := 3) rfl w_fl_RX6_26 (hd := rfl) (hn := rfl) (hfit := rfl) (hdg := dX6_readDate_43) (fun M55 eM55 H locs hG => ?_)
    have h := h M55 eM55
    refine lv_sipush (v := J 500) hx hb dX6_readDate_46 (by decide) ?_
    refine lv_aload_n hx hb dX6_readDate_49 rfl (lv_at hl 2 rfl) ?_
    refine j_conti (va_runV (As := []) (rest := [.int (J 500)]) ⟨hx, hb, hml, hown, hts⟩ (A_X6_readWeekday l ka0 h) (cwV 0 hts (gj_V ml_RX6_101 i_X6_readWeekday s_X6_readWeekday n_RX6 k_X6_readWeekday) rfl rfl rfl (by decide +kernel) ⟨by exact Nat.le_of_ble_eq_true rfl, by exact Nat.le_of_ble_eq_true rfl⟩) (j_preV hK hSX hG (ci := 5) rfl ka0 (by decide)) rfl rfl hl.1 rfl (lv_room (Nat.le_of_ble_eq_true rfl)) dX6_readDate_50 ⟨by exact Nat.le_of_ble_eq_true rfl, by exact Nat.le_of_ble_eq_true rfl⟩) hG (c2 := 0) (s2 := 0) ⟨by exact Nat.le_of_ble_eq_true rfl, by exact Nat.le_of_ble_eq_true rfl⟩ (fun z56 M57 h H locs hG => ?_)
    refine j_iadd hx hb dX6_readDate_53 ?_
    rw [hQf]
    exact j_ireti hx hb hr hlocks hG h (by decide) dX6_readDate_54

abbrev rm_X6_readClock : Room := { frames := 1, cells := 0, slots := 0, locals := 21 }
set_option maxRecDepth 100000 in
set_option maxHeartbeats 4000000 in
theorem A_X6_readClock (l : Launch) {D : va_G} {cy : Nat → ClassId} {o : Nat} {sK sV : Nat → Nat} {M : jT} {a0 : Int} (ka0 : kd a0 = 6) {Q : Int → jT → Prop} (h : wp_X6_readClock M a0 Q) : CoI l yX6_readClock (wj yX6_readClock cX6_readClock 2 (some .int)) rm_X6_readClock D cy o sK sV M [.ref (rA o a0)] Q := by
  refine j_ofW (cc := cX6_readClock) (maxL := 2) (ret := (some .int)) (by decide) rfl (Nat.le_of_ble_eq_true rfl) ?_
  intro p e s m args below meth c hx hb hr hlocks hml hown hts hK hSX H locs hG ls hl Qf hQf
  have hown : s.vm.findClass RX6 = some m.cls := hown
  have hl : lv_has ls 2 [(0, .ref (rA o a0))] := hl
  have w_fl_RX6_26 := hts _ (List.mem_cons_of_mem _ fl_RX6_26)
  have w_fl_RX6_11 := hts _ (List.mem_cons_of_mem _ fl_RX6_11)
  unfold wp_X6_readClock at h
  refine lv_aload_n hx hb dX6_readClock_0 rfl (lv_at hl 0 rfl) ?_
  refine lv_aload_n hx hb dX6_readClock_1 rfl (lv_at hl 0 rfl) ?_
  refine j_geti hx hb hts hown hK hG (k := a0) (fun w h => List.mem_cons_of_mem _ (u_X6 w h)) (ci := 5) rfl ka0 3 (by decide) (jz := 3) rfl w_fl_RX6_26 dX6_readClock_2 ?_
  obtain ⟨g1, h⟩ := h
  refine j_conti (va_runV (As := [.int (J (M a0 3))]) (rest := []) ⟨hx, hb, hml, hown, hts⟩ (A_X6_letterAt l ka0 g1) (cwV 1 hts (gj_V ml_RX6_60 i_X6_letterAt s_X6_letterAt n_RX6 k_X6_letterAt) rfl rfl rfl (by decide +kernel) ⟨by exact Nat.le_of_ble_eq_true rfl, by exact Nat.le_of_ble_eq_true rfl⟩) (j_preV hK hSX hG (ci := 5) rfl ka0 (by decide)) rfl rfl hl.1 rfl (lv_room (Nat.le_of_ble_eq_true rfl)) dX6_readClock_5 ⟨by exact Nat.le_of_ble_eq_true rfl, by exact Nat.le_of_ble_eq_true rfl⟩) hG (c2 := 0) (s2 := 0) ⟨by exact Nat.le_of_ble_eq_true rfl, by exact Nat.le_of_ble_eq_true rfl⟩ (fun z2 M3 ez2 H locs hG => ?_)
  obtain ⟨ez2, eM3⟩ := ez2
  subst ez2
  rw [eM3] at hG
  obtain ⟨K8, hK8, h⟩ := h
  have jK8 : ∀ (x7 : Int), K8 x7 → ∀ (H : Heap) (locs : List Loc), GM D cy o M s.heap H locs → ∀ ls : Array Slot, lv_has ls 2 [(0, .ref (rA o a0)), (1, .int (J x7))] → W p l e rm_X6_readClock s m args below meth c H locs 0 0 Qf (F0 m 69 ls []) := by
    intro x7 hcK8 H locs hG ls hl
    have h := hK8 x7 hcK8
    refine lv_aload_n hx hb dX6_readClock_69 rfl (lv_at hl 0 rfl) ?_
    refine lv_dup hx hb dX6_readClock_70 rfl ?_
    refine j_geti hx hb hts hown hK hG (k := a0) (fun w h => List.mem_cons_of_mem _ (u_X6 w h)) (ci := 5) rfl ka0 3 (by decide) (jz := 3) rfl w_fl_RX6_26 dX6_readClock_71 ?_
    refine lv_iconst (v := J 1) hx hb dX6_readClock_74 (by decide) ?_
    refine j_iadd hx hb dX6_readClock_75 ?_
    refine j_puti hx hb hts hown hK hG (k := a0) (fun w h => List.mem_cons_of_mem _ (u_X6 w h)) tyX6 tyX6_ok nmX6 (ci := 5) rfl ka0 3 (by decide) (jz := 3) rfl w_fl_RX6_26 (hd := rfl) (hn := rfl) (hfit := rfl) (hdg := dX6_readClock_76) (fun M9 eM9 H locs hG => ?_)
    have h := h M9 eM9
    refine lv_iload_n hx hb dX6_readClock_79 rfl (lv_at hl 1 rfl) ?_
    rw [hQf]
    exact j_ireti hx hb hr hlocks hG h (by decide) dX6_readClock_80
  obtain ⟨g10, h⟩ := h
  rcases em_eqI (pf_X6_letterAt M a0 (M a0 3)) 98 with c11 | c11_0
  · refine j_lsw hx hb dX6_readClock_8 g10 (k := 98) (tgt := 49) c11 rfl (by decide) (by decide) ?_
    have h := h.1 c11
    refine lv_iconst (v := J 1) hx hb dX6_readClock_49 (by decide) ?_
    refine lv_istore_n (lv' := [(1, .int (J 1)), (0, .ref (rA o a0))]) hx hb dX6_readClock_50 rfl hl (by decide) rfl (fun ls hl => ?_)
    refine lv_goto (tgt := 69) hx hb dX6_readClock_51 (by decide) ?_
    exact jK8 1 h H locs hG ls (lv_sub hl [1, 0] rfl)
  · rcases em_eqI (pf_X6_letterAt M a0 (M a0 3)) 105 with c11 | c11_1
    · refine j_lsw hx hb dX6_readClock_8 g10 (k := 105) (tgt := 54) c11 rfl (by decide) (by decide) ?_
      have h := h.2.1 c11
      refine lv_iconst (v := J 2) hx hb dX6_readClock_54 (by decide) ?_
      refine lv_istore_n (lv' := [(1, .int (J 2)), (0, .ref (rA o a0))]) hx hb dX6_readClock_55 rfl hl (by decide) rfl (fun ls hl => ?_)
      refine lv_goto (tgt := 69) hx hb dX6_readClock_56 (by decide) ?_
      exact jK8 2 h H locs hG ls (lv_sub hl [1, 0] rfl)
    · rcases em_eqI (pf_X6_letterAt M a0 (M a0 3)) 119 with c11 | c11_2
      · refine j_lsw hx hb dX6_readClock_8 g10 (k := 119) (tgt := 44) c11 rfl (by decide) (by decide) ?_
        have h := h.2.2.1 c11
        refine lv_iconst (v := J 0) hx hb dX6_readClock_44 (by decide) ?_
        refine lv_istore_n (lv' := [(1, .int (J 0)), (0, .ref (rA o a0))]) hx hb dX6_readClock_45 rfl hl (by decide) rfl (fun ls hl => ?_)
        refine lv_goto (tgt := 69) hx hb dX6_readClock_46 (by decide) ?_
        exact jK8 0 h H locs hG ls (lv_sub hl [1, 0] rfl)
      · have c11 : pf_X6_letterAt M a0 (M a0 3) ≠ 98 ∧ pf_X6_letterAt M a0 (M a0 3) ≠ 105 ∧ pf_X6_letterAt M a0 (M a0 3) ≠ 119 := ⟨c11_0, c11_1, c11_2⟩
        have h := h.2.2.2 c11
        refine j_lswd hx hb dX6_readClock_8 g10 (tgt := 59) (by simp only [Op.lookupswitch.offset_cons, Op.lookupswitch.offset]; repeat (rw [if_neg (by omega)])) (by decide) (by decide) ?_
        refine lv_aload_n hx hb dX6_readClock_59 rfl (lv_at hl 0 rfl) ?_
        refine lv_aload_n hx hb dX6_readClock_60 rfl (lv_at hl 0 rfl) ?_
        refine j_geti hx hb hts hown hK hG (k := a0) (fun w h => List.mem_cons_of_mem _ (u_X6 w h)) (ci := 5) rfl ka0 3 (by decide) (jz := 3) rfl w_fl_RX6_26 dX6_readClock_61 ?_
        refine j_puti hx hb hts hown hK hG (k := a0) (fun w h => List.mem_cons_of_mem _ (u_X6 w h)) tyX6 tyX6_ok nmX6 (ci := 5) rfl ka0 2 (by decide) (jz := 2) rfl w_fl_RX6_11 (hd := rfl) (hn := rfl) (hfit := rfl) (hdg := dX6_readClock_64) (fun M12 eM12 H locs hG => ?_)
        have h := h M12 eM12
        refine lv_iconst (v := J 0) hx hb dX6_readClock_67 (by decide) ?_
        rw [hQf]
        exact j_ireti hx hb hr hlocks hG h (by decide) dX6_readClock_68

abbrev rm_X6_readItem : Room := { frames := 3, cells := 0, slots := 0, locals := 67 }
set_option maxRecDepth 100000 in
set_option maxHeartbeats 4000000 in
theorem A_X6_readItem (l : Launch) {D : va_G} {cy : Nat → ClassId} {o : Nat} {sK sV : Nat → Nat} {M : jT} {a0 : Int} {a1 : Int} (ka0 : kd a0 = 6) {Q : Int → jT → Prop} (h : wp_X6_readItem M a0 a1 Q) : CoI l yX6_readItem (wj yX6_readItem cX6_readItem 2 (some .int)) rm_X6_readItem D cy o sK sV M [.ref (rA o a0), .int (J a1)] Q := by
  refine j_ofW (cc := cX6_readItem) (maxL := 2) (ret := (some .int)) (by decide) rfl (Nat.le_of_ble_eq_true rfl) ?_
  intro p e s m args below meth c hx hb hr hlocks hml hown hts hK hSX H locs hG ls hl Qf hQf
  have hown : s.vm.findClass RX6 = some m.cls := hown
  have hl : lv_has ls 2 [(0, .ref (rA o a0)), (1, .int (J a1))] := hl
  have w_fl_RX6_11 := hts _ (List.mem_cons_of_mem _ fl_RX6_11)
  unfold wp_X6_readItem at h
  refine lv_aload_n hx hb dX6_readItem_0 rfl (lv_at hl 0 rfl) ?_
  refine j_geti hx hb hts hown hK hG (k := a0) (fun w h => List.mem_cons_of_mem _ (u_X6 w h)) (ci := 5) rfl ka0 2 (by decide) (jz := 2) rfl w_fl_RX6_11 dX6_readItem_1 ?_
  obtain ⟨g2, h⟩ := h
  refine j_if_lt (tgt := 9) hx hb dX6_readItem_4 (by decide) g2 (fun c1 => ?_) (fun c1 => ?_)
  · have h := h.1 c1
    refine lv_iload_n hx hb dX6_readItem_9 rfl (lv_at hl 1 rfl) ?_
    obtain ⟨g3, h⟩ := h
    rcases em_eqI (a1) 98 with c4 | c4_0
    · refine j_tsw hx hb dX6_readItem_10 g3 (k := 98) (tgt := 36) c4 ⟨by decide, by decide, rfl⟩ (by decide) ?_
      have h := h.1 c4
      refine lv_aload_n hx hb dX6_readItem_36 rfl (lv_at hl 0 rfl) ?_
      refine j_conti (va_runV (As := []) (rest := []) ⟨hx, hb, hml, hown, hts⟩ (A_X6_readBase l ka0 h) (cwV 0 hts (gj_V ml_RX6_88 i_X6_readBase s_X6_readBase n_RX6 k_X6_readBase) rfl rfl rfl (by decide +kernel) ⟨by exact Nat.le_of_ble_eq_true rfl, by exact Nat.le_of_ble_eq_true rfl⟩) (j_preV hK hSX hG (ci := 5) rfl ka0 (by decide)) rfl rfl hl.1 rfl (lv_room (Nat.le_of_ble_eq_true rfl)) dX6_readItem_37 ⟨by exact Nat.le_of_ble_eq_true rfl, by exact Nat.le_of_ble_eq_true rfl⟩) hG (c2 := 0) (s2 := 0) ⟨by exact Nat.le_of_ble_eq_true rfl, by exact Nat.le_of_ble_eq_true rfl⟩ (fun z5 M6 h H locs hG => ?_)
      rw [hQf]
      exact j_ireti hx hb hr hlocks hG h (by decide) dX6_readItem_40
    · rcases em_eqI (a1) 99 with c4 | c4_1
      · refine j_tsw hx hb dX6_readItem_10 g3 (k := 99) (tgt := 46) c4 ⟨by decide, by decide, rfl⟩ (by decide) ?_
        have h := h.2.1 c4
        refine lv_aload_n hx hb dX6_readItem_46 rfl (lv_at hl 0 rfl) ?_
        refine j_conti (va_runV (As := []) (rest := []) ⟨hx, hb, hml, hown, hts⟩ (A_X6_readClock l ka0 h) (cwV 0 hts (gj_V ml_RX6_94 i_X6_readClock s_X6_readClock n_RX6 k_X6_readClock) rfl rfl rfl (by decide +kernel) ⟨by exact Nat.le_of_ble_eq_true rfl, by exact Nat.le_of_ble_eq_true rfl⟩) (j_preV hK hSX hG (ci := 5) rfl ka0 (by decide)) rfl rfl hl.1 rfl (lv_room (Nat.le_of_ble_eq_true rfl)) dX6_readItem_47 ⟨by exact Nat.le_of_ble_eq_true rfl, by exact Nat.le_of_ble_eq_true rfl⟩) hG (c2 := 0) (s2 := 0) ⟨by exact Nat.le_of_ble_eq_true rfl, by exact Nat.le_of_ble_eq_true rfl⟩ (fun z7 M8 h H locs hG => ?_)
        rw [hQf]
        exact j_ireti hx hb hr hlocks hG h (by decide) dX6_readItem_50
      · rcases em_eqI (a1) 100 with c4 | c4_2
        · refine j_tsw hx hb dX6_readItem_10 g3 (k := 100) (tgt := 41) c4 ⟨by decide, by decide, rfl⟩ (by decide) ?_
          have h := h.2.2.1 c4
          refine lv_aload_n hx hb dX6_readItem_41 rfl (lv_at hl 0 rfl) ?_
          refine j_conti (va_runV (As := []) (rest := []) ⟨hx, hb, hml, hown, hts⟩ (A_X6_readDate l ka0 h) (cwV 0 hts (gj_V ml_RX6_91 i_X6_readDate s_X6_readDate n_RX6 k_X6_readDate) rfl rfl rfl (by decide +kernel) ⟨by exact Nat.le_of_ble_eq_true rfl, by exact Nat.le_of_ble_eq_true rfl⟩) (j_preV hK hSX hG (ci := 5) rfl ka0 (by decide)) rfl rfl hl.1 rfl (lv_room (Nat.le_of_ble_eq_true rfl)) dX6_readItem_42 ⟨by exact Nat.le_of_ble_eq_true rfl, by exact Nat.le_of_ble_eq_true rfl⟩) hG (c2 := 0) (s2 := 0) ⟨by exact Nat.le_of_ble_eq_true rfl, by exact Nat.le_of_ble_eq_true rfl⟩ (fun z9 M10 h H locs hG => ?_)
          rw [hQf]
          exact j_ireti hx hb hr hlocks hG h (by decide) dX6_readItem_45
        · have c4 : a1 ≠ 98 ∧ a1 ≠ 99 ∧ a1 ≠ 100 := ⟨c4_0, c4_1, c4_2⟩
          have h := h.2.2.2 c4
          refine j_tswd hx hb dX6_readItem_10 g3 (tgt := 51) (by omega) (by decide) ?_
          refine lv_aload_n hx hb dX6_readItem_51 rfl (lv_at hl 0 rfl) ?_
          refine lv_iconst (v := J 5) hx hb dX6_readItem_52 (by decide) ?_
          refine j_conti (va_runV (As := [.int (J 5)]) (rest := []) ⟨hx, hb, hml, hown, hts⟩ (A_X6_readNumber l ka0 h) (cwV 1 hts (gj_V ml_RX6_97 i_X6_readNumber s_X6_readNumber n_RX6 k_X6_readNumber) rfl rfl rfl (by decide +kernel) ⟨by exact Nat.le_of_ble_eq_true rfl, by exact Nat.le_of_ble_eq_true rfl⟩) (j_preV hK hSX hG (ci := 5) rfl ka0 (by decide)) rfl rfl hl.1 rfl (lv_room (Nat.le_of_ble_eq_true rfl)) dX6_readItem_53 ⟨by exact Nat.le_of_ble_eq_true rfl, by exact Nat.le_of_ble_eq_true rfl⟩) hG (c2 := 0) (s2 := 0) ⟨by exact Nat.le_of_ble_eq_true rfl, by exact Nat.le_of_ble_eq_true rfl⟩ (fun z11 M12 h H locs hG => ?_)
          rw [hQf]
          exact j_ireti hx hb hr hlocks hG h (by decide) dX6_readItem_56
  · have h := h.2 c1
    refine lv_iconst (v := J 0) hx hb dX6_readItem_7 (by decide) ?_
    rw [hQf]
    exact j_ireti hx hb hr hlocks hG h (by decide) dX6_readItem_8

abbrev rm_X6_item : Room := { frames := 0, cells := 0, slots := 0, locals := 0 }
set_option maxRecDepth 100000 in
set_option maxHeartbeats 4000000 in
theorem A_X6_item (l : Launch) {D : va_G} {cy : Nat → ClassId} {o : Nat} {sK sV : Nat → Nat} {M : jT} {a0 : Int} {a1 : Int} {a2 : Int} (ka0 : kd a0 = 6) (h : pg_X6_item M a0 a1 a2) : CoI l yX6_item (wj yX6_item cX6_item 3 (some .int)) rm_X6_item D cy o sK sV M [.ref (rA o a0), .int (J a1), .int (J a2)] (fun z M9 => z = pf_X6_item M a0 a1 a2 ∧ M9 = M) := by
  refine j_ofW (cc := cX6_item) (maxL := 3) (ret := (some .int)) (by decide) rfl (Nat.le_of_ble_eq_true rfl) ?_
  intro p e s m args below meth c hx hb hr hlocks hml hown hts hK hSX H locs hG ls hl Qf hQf
  have hown : s.vm.findClass RX6 = some m.cls := hown
  have hl : lv_has ls 3 [(0, .ref (rA o a0)), (1, .int (J a1)), (2, .int (J a2))] := hl
  have w_fl_RX6_19 := hts _ (List.mem_cons_of_mem _ fl_RX6_19)
  unfold pg_X6_item at h
  refine lv_aload_n hx hb dX6_item_0 rfl (lv_at hl 0 rfl) ?_
  refine j_getr hx hb hts hown hK hG (k := a0) (fun w h => List.mem_cons_of_mem _ (u_X6 w h)) (ci := 5) rfl ka0 5 (k2 := a0 + 2) (by decide) (by show a0 + (2 : Int) = a0 + 2; omega) w_fl_RX6_19 dX6_item_1 ?_
  refine lv_iload_n hx hb dX6_item_4 rfl (lv_at hl 1 rfl) ?_
  refine lv_bipush (v := J 10) hx hb dX6_item_5 (by decide) ?_
  refine j_imul hx hb dX6_item_7 ?_
  refine lv_iconst (v := J 2) hx hb dX6_item_8 (by decide) ?_
  refine j_iadd hx hb dX6_item_9 ?_
  refine lv_iload_n hx hb dX6_item_10 rfl (lv_at hl 2 rfl) ?_
  refine j_iadd hx hb dX6_item_11 ?_
  obtain ⟨g1, h⟩ := h
  refine j_iald hx hb hK hG (n := 90) (kf_6_5 ka0) (by decide) g1 dX6_item_12 ?_
  rw [hQf]
  exact j_ireti hx hb hr hlocks hG ⟨rfl, rfl⟩ (by decide) dX6_item_13

abbrev rm_X6_wordOf : Room := { frames := 0, cells := 0, slots := 0, locals := 0 }
set_option maxRecDepth 100000 in
set_option maxHeartbeats 4000000 in
theorem A_X6_wordOf (l : Launch) {D : va_G} {cy : Nat → ClassId} {o : Nat} {sK sV : Nat → Nat} {M : jT} {a0 : Int} {a1 : Int} (ka0 : kd a0 = 6) (h : pg_X6_wordOf M a0 a1) : CoI l yX6_wordOf (wj yX6_wordOf cX6_wordOf 2 (some .int)) rm_X6_wordOf D cy o sK sV M [.ref (rA o a0), .int (J a1)] (fun z M9 => z = pf_X6_wordOf M a0 a1 ∧ M9 = M) := by
  refine j_ofW (cc := cX6_wordOf) (maxL := 2) (ret := (some .int)) (by decide) rfl (Nat.le_of_ble_eq_true rfl) ?_
  intro p e s m args below meth c hx hb hr hlocks hml hown hts hK hSX H locs hG ls hl Qf hQf
  have hown : s.vm.findClass RX6 = some m.cls := hown
  have hl : lv_has ls 2 [(0, .ref (rA o a0)), (1, .int (J a1))] := hl
  have w_fl_RX6_19 := hts _ (List.mem_cons_of_mem _ fl_RX6_19)
  unfold pg_X6_wordOf at h
  refine lv_aload_n hx hb dX6_wordOf_0 rfl (lv_at hl 0 rfl) ?_
  refine j_getr hx hb hts hown hK hG (k := a0) (fun w h => List.mem_cons_of_mem _ (u_X6 w h)) (ci := 5) rfl ka0 5 (k2 := a0 + 2) (by decide) (by show a0 + (2 : Int) = a0 + 2; omega) w_fl_RX6_19 dX6_wordOf_1 ?_
  refine lv_iload_n hx hb dX6_wordOf_4 rfl (lv_at hl 1 rfl) ?_
  refine lv_bipush (v := J 10) hx hb dX6_wordOf_5 (by decide) ?_
  refine j_imul hx hb dX6_wordOf_7 ?_
  obtain ⟨g1, h⟩ := h
  refine j_iald hx hb hK hG (n := 90) (kf_6_5 ka0) (by decide) g1 dX6_wordOf_8 ?_
  rw [hQf]
  exact j_ireti hx hb hr hlocks hG ⟨rfl, rfl⟩ (by decide) dX6_wordOf_9

abbrev rm_X10_carryOutBase : Room := { frames := 2, cells := 0, slots := 0, locals := 46 }
set_option maxRecDepth 100000 in
set_option maxHeartbeats 4000000 in
theorem A_X10_carryOutBase (l : Launch) {D : va_G} {cy : Nat → ClassId} {o : Nat} {sK sV : Nat → Nat} {M : jT} {a0 : Int} {a1 : Int} {a2 : Int} {a3 : Int} (ka0 : kd a0 = 10) {Q : Int → jT → Prop} (h : wp_X10_carryOutBase M a0 a1 a2 a3 Q) : CoI l yX10_carryOutBase (wj yX10_carryOutBase cX10_carryOutBase 4 (some .boolean)) rm_X10_carryOutBase D cy o sK sV M [.ref (rA o a0), .int (J a1), .int (J a2), .int (J a3)] Q := by
  refine j_ofW (cc := cX10_carryOutBase) (maxL := 4) (ret := (some .boolean)) (by decide) rfl (Nat.le_of_ble_eq_true rfl) ?_
  intro p e s m args below meth c hx hb hr hlocks hml hown hts hK hSX H locs hG ls hl Qf hQf
  have hown : s.vm.findClass RX10 = some m.cls := hown
  have hl : lv_has ls 4 [(0, .ref (rA o a0)), (1, .int (J a1)), (2, .int (J a2)), (3, .int (J a3))] := hl
  unfold wp_X10_carryOutBase at h
  refine lv_aload_n hx hb dX10_carryOutBase_0 rfl (lv_at hl 0 rfl) ?_
  refine lv_iload_n hx hb dX10_carryOutBase_1 rfl (lv_at hl 1 rfl) ?_
  refine lv_iload_n hx hb dX10_carryOutBase_2 rfl (lv_at hl 2 rfl) ?_
  refine lv_iload_n hx hb dX10_carryOutBase_3 rfl (lv_at hl 3 rfl) ?_
  obtain ⟨g1, h⟩ := h
  refine j_conti (va_runV (As := [.int (J a1), .int (J a2), .int (J a3)]) (rest := []) ⟨hx, hb, hml, hown, hts⟩ (A_X10_changeFault l ka0 g1) (cwV 3 hts (gj_V ml_RX10_117 i_X10_changeFault s_X10_changeFault n_RX10 k_X10_changeFault) rfl rfl rfl (by decide +kernel) ⟨by exact Nat.le_of_ble_eq_true rfl, by exact Nat.le_of_ble_eq_true rfl⟩) (j_preV hK hSX hG (ci := 9) rfl ka0 (by decide)) rfl rfl hl.1 rfl (lv_room (Nat.le_of_ble_eq_true rfl)) dX10_carryOutBase_4 ⟨by exact Nat.le_of_ble_eq_true rfl, by exact Nat.le_of_ble_eq_true rfl⟩) hG (c2 := 0) (s2 := 0) ⟨by exact Nat.le_of_ble_eq_true rfl, by exact Nat.le_of_ble_eq_true rfl⟩ (fun z2 M3 ez2 H locs hG => ?_)
  obtain ⟨ez2, eM3⟩ := ez2
  subst ez2
  rw [eM3] at hG
  obtain ⟨K20, hK20, h⟩ := h
  have jK20 : ∀ (x18 : Int) (M19 : jT), K20 x18 M19 → ∀ (H : Heap) (locs : List Loc), GM D cy o M19 s.heap H locs → ∀ ls : Array Slot, lv_has ls 4 [] → W p l e rm_X10_carryOutBase s m args below meth c H locs 0 0 Qf (F0 m 25 ls [.int (J x18)]) := by
    intro x18 M19 hcK20 H locs hG ls hl
    have h := hK20 x18 M19 hcK20
    obtain ⟨g21, h⟩ := h
    rw [hQf]
    exact j_iretn hx hb hr hlocks (nar_b g21) hG h (by decide) dX10_carryOutBase_25
  obtain ⟨K29, hK29, h⟩ := h
  have jK29 : ∀ (M28 : jT), K29 M28 → ∀ (H : Heap) (locs : List Loc), GM D cy o M28 s.heap H locs → ∀ ls : Array Slot, lv_has ls 4 [] → W p l e rm_X10_carryOutBase s m args below meth c H locs 0 0 Qf (F0 m 24 ls []) := by
    intro M28 hcK29 H locs hG ls hl
    have h := hK29 M28 hcK29
    refine lv_iconst (v := J 0) hx hb dX10_carryOutBase_24 (by decide) ?_
    exact jK20 0 M28 h H locs hG ls (lv_sub hl [] rfl)
  obtain ⟨g31, h⟩ := h
  refine j_if_ne (tgt := 24) hx hb dX10_carryOutBase_7 (by decide) g31 (fun c30 => ?_) (fun c30 => ?_)
  · have h := h.1 c30
    exact jK29 M h H locs hG ls (lv_sub hl [] rfl)
  · have h := h.2 c30
    refine lv_aload_n hx hb dX10_carryOutBase_10 rfl (lv_at hl 0 rfl) ?_
    refine lv_iload_n hx hb dX10_carryOutBase_11 rfl (lv_at hl 1 rfl) ?_
    refine lv_iload_n hx hb dX10_carryOutBase_12 rfl (lv_at hl 2 rfl) ?_
    refine lv_iload_n hx hb dX10_carryOutBase_13 rfl (lv_at hl 3 rfl) ?_
    refine j_conti (va_runV (As := [.int (J a1), .int (J a2), .int (J a3)]) (rest := []) ⟨hx, hb, hml, hown, hts⟩ (A_X10_putChange l ka0 h) (cwV 3 hts (gj_V ml_RX10_121 i_X10_putChange s_X10_putChange n_RX10 k_X10_putChange) rfl rfl rfl (by decide +kernel) ⟨by exact Nat.le_of_ble_eq_true rfl, by exact Nat.le_of_ble_eq_true rfl⟩) (j_preV hK hSX hG (ci := 9) rfl ka0 (by decide)) rfl rfl hl.1 rfl (lv_room (Nat.le_of_ble_eq_true rfl)) dX10_carryOutBase_14 ⟨by exact Nat.le_of_ble_eq_true rfl, by exact Nat.le_of_ble_eq_true rfl⟩) hG (c2 := 0) (s2 := 0) ⟨by exact Nat.le_of_ble_eq_true rfl, by exact Nat.le_of_ble_eq_true rfl⟩ (fun z32 M33 h H locs hG => ?_)
    obtain ⟨g35, h⟩ := h
    refine j_if_lt (tgt := 24) hx hb dX10_carryOutBase_17 (by decide) g35 (fun c34 => ?_) (fun c34 => ?_)
    · have h := h.1 c34
      exact jK29 M33 h H locs hG ls (lv_sub hl [] rfl)
    · have h := h.2 c34
      refine lv_iconst (v := J 1) hx hb dX10_carryOutBase_20 (by decide) ?_
      refine lv_goto (tgt := 25) hx hb dX10_carryOutBase_21 (by decide) ?_
      exact jK20 1 M33 h H locs hG ls (lv_sub hl [] rfl)

abbrev rm_X10_carryOutRule : Room := { frames := 2, cells := 0, slots := 0, locals := 53 }
set_option maxRecDepth 100000 in
set_option maxHeartbeats 4000000 in
theorem A_X10_carryOutRule (l : Launch) {D : va_G} {cy : Nat → ClassId} {o : Nat} {sK sV : Nat → Nat} {M : jT} {a0 : Int} {a1 : Int} (ka0 : kd a0 = 10) {Q : Int → jT → Prop} (h : wp_X10_carryOutRule M a0 a1 Q) : CoI l yX10_carryOutRule (wj yX10_carryOutRule cX10_carryOutRule 10 (some .boolean)) rm_X10_carryOutRule D cy o sK sV M [.ref (rA o a0), .int (J a1)] Q := by
  refine j_ofW (cc := cX10_carryOutRule) (maxL := 10) (ret := (some .boolean)) (by decide) rfl (Nat.le_of_ble_eq_true rfl) ?_
  intro p e s m args below meth c hx hb hr hlocks hml hown hts hK hSX H locs hG ls hl Qf hQf
  have hown : s.vm.findClass RX10 = some m.cls := hown
  have hl : lv_has ls 10 [(0, .ref (rA o a0)), (1, .int (J a1))] := hl
  have w_fl_RX10_47 := hts _ (List.mem_cons_of_mem _ fl_RX10_47)
  unfold wp_X10_carryOutRule at h
  refine lv_aload_n hx hb dX10_carryOutRule_0 rfl (lv_at hl 0 rfl) ?_
  refine j_getr hx hb hts hown hK hG (k := a0) (fun w h => List.mem_cons_of_mem _ (u_X10 w h)) (ci := 9) rfl ka0 5 (k2 := a0 + 601) (by decide) (by show a0 + (601 : Int) = a0 + 601; omega) w_fl_RX10_47 dX10_carryOutRule_1 ?_
  refine lv_iload_n hx hb dX10_carryOutRule_4 rfl (lv_at hl 1 rfl) ?_
  refine lv_iconst (v := J 0) hx hb dX10_carryOutRule_5 (by decide) ?_
  obtain ⟨g1, h⟩ := h
  refine j_conti (va_runV (As := [.int (J a1), .int (J 0)]) (rest := []) ⟨hx, hb, hml, hown, hts⟩ (A_X6_item l (kf_10_5 ka0) g1) (cwV 2 hts (gj_V ml_RX10_503 i_X6_item s_X6_item n_RX6 k_X6_item) rfl rfl rfl (by decide +kernel) ⟨by exact Nat.le_of_ble_eq_true rfl, by exact Nat.le_of_ble_eq_true rfl⟩) (j_preV hK hSX hG (ci := 5) rfl (kf_10_5 ka0) (by decide)) rfl rfl hl.1 rfl (lv_room (Nat.le_of_ble_eq_true rfl)) dX10_carryOutRule_6 ⟨by exact Nat.le_of_ble_eq_true rfl, by exact Nat.le_of_ble_eq_true rfl⟩) hG (c2 := 0) (s2 := 0) ⟨by exact Nat.le_of_ble_eq_true rfl, by exact Nat.le_of_ble_eq_true rfl⟩ (fun z2 M3 ez2 H locs hG => ?_)
  obtain ⟨ez2, eM3⟩ := ez2
  subst ez2
  rw [eM3] at hG
  refine j_topi (fun x4 ex4 => ?_)
  have h := h x4 ex4
  refine lv_istore_n (lv' := [(2, .int (J x4)), (0, .ref (rA o a0)), (1, .int (J a1))]) hx hb dX10_carryOutRule_9 rfl hl (by decide) rfl (fun ls hl => ?_)
  refine lv_aload_n hx hb dX10_carryOutRule_10 rfl (lv_at hl 1 rfl) ?_
  refine j_getr hx hb hts hown hK hG (k := a0) (fun w h => List.mem_cons_of_mem _ (u_X10 w h)) (ci := 9) rfl ka0 5 (k2 := a0 + 601) (by decide) (by show a0 + (601 : Int) = a0 + 601; omega) w_fl_RX10_47 dX10_carryOutRule_11 ?_
  refine lv_iload_n hx hb dX10_carryOutRule_14 rfl (lv_at hl 2 rfl) ?_
  refine lv_iconst (v := J 1) hx hb dX10_carryOutRule_15 (by decide) ?_
  obtain ⟨g5, h⟩ := h
  refine j_conti (va_runV (As := [.int (J a1), .int (J 1)]) (rest := []) ⟨hx, hb, hml, hown, hts⟩ (A_X6_item l (kf_10_5 ka0) g5) (cwV 2 hts (gj_V ml_RX10_503 i_X6_item s_X6_item n_RX6 k_X6_item) rfl rfl rfl (by decide +kernel) ⟨by exact Nat.le_of_ble_eq_true rfl, by exact Nat.le_of_ble_eq_true rfl⟩) (j_preV hK hSX hG (ci := 5) rfl (kf_10_5 ka0) (by decide)) rfl rfl hl.1 rfl (lv_room (Nat.le_of_ble_eq_true rfl)) dX10_carryOutRule_16 ⟨by exact Nat.le_of_ble_eq_true rfl, by exact Nat.le_of_ble_eq_true rfl⟩) hG (c2 := 0) (s2 := 0) ⟨by exact Nat.le_of_ble_eq_true rfl, by exact Nat.le_of_ble_eq_true rfl⟩ (fun z6 M7 ez6 H locs hG => ?_)
  obtain ⟨ez6, eM7⟩ := ez6
  subst ez6
  rw [eM7] at hG
  refine lv_sipush (v := J 2000) hx hb dX10_carryOutRule_19 (by decide) ?_
  refine j_isub hx hb dX10_carryOutRule_22 ?_
  refine j_topi (fun x8 ex8 => ?_)
  have h := h x8 ex8
  refine lv_istore_n (lv' := [(3, .int (J x8)), (2, .int (J x4)), (0, .ref (rA o a0)), (1, .int (J a1))]) hx hb dX10_carryOutRule_23 rfl hl (by decide) rfl (fun ls hl => ?_)
  refine lv_aload_n hx hb dX10_carryOutRule_24 rfl (lv_at hl 2 rfl) ?_
  refine j_getr hx hb hts hown hK hG (k := a0) (fun w h => List.mem_cons_of_mem _ (u_X10 w h)) (ci := 9) rfl ka0 5 (k2 := a0 + 601) (by decide) (by show a0 + (601 : Int) = a0 + 601; omega) w_fl_RX10_47 dX10_carryOutRule_25 ?_
  refine lv_iload_n hx hb dX10_carryOutRule_28 rfl (lv_at hl 3 rfl) ?_
  refine lv_iconst (v := J 2) hx hb dX10_carryOutRule_29 (by decide) ?_
  obtain ⟨g9, h⟩ := h
  refine j_conti (va_runV (As := [.int (J a1), .int (J 2)]) (rest := []) ⟨hx, hb, hml, hown, hts⟩ (A_X6_item l (kf_10_5 ka0) g9) (cwV 2 hts (gj_V ml_RX10_503 i_X6_item s_X6_item n_RX6 k_X6_item) rfl rfl rfl (by decide +kernel) ⟨by exact Nat.le_of_ble_eq_true rfl, by exact Nat.le_of_ble_eq_true rfl⟩) (j_preV hK hSX hG (ci := 5) rfl (kf_10_5 ka0) (by decide)) rfl rfl hl.1 rfl (lv_room (Nat.le_of_ble_eq_true rfl)) dX10_carryOutRule_30 ⟨by exact Nat.le_of_ble_eq_true rfl, by exact Nat.le_of_ble_eq_true rfl⟩) hG (c2 := 0) (s2 := 0) ⟨by exact Nat.le_of_ble_eq_true rfl, by exact Nat.le_of_ble_eq_true rfl⟩ (fun z10 M11 ez10 H locs hG => ?_)
  obtain ⟨ez10, eM11⟩ := ez10
  subst ez10
  rw [eM11] at hG
  refine lv_sipush (v := J 2000) hx hb dX10_carryOutRule_33 (by decide) ?_
  refine j_isub hx hb dX10_carryOutRule_36 ?_
  refine j_topi (fun x12 ex12 => ?_)
  have h := h x12 ex12
  refine lv_istore (lv' := [(4, .int (J x12)), (3, .int (J x8)), (2, .int (J x4)), (0, .ref (rA o a0)), (1, .int (J a1))]) hx hb dX10_carryOutRule_37 hl (by decide) rfl (fun ls hl => ?_)
  refine lv_iload_n hx hb dX10_carryOutRule_39 rfl (lv_at hl 1 rfl) ?_
  obtain ⟨g13, h⟩ := h
  refine j_conti (va_runS (As := [.int (J x8)]) (rest := []) ⟨hx, hb, hml, hown, hts⟩ (A_X10_isYear l g13) (va_cwS 1 hts (gj_S ml_RX10_65 i_X10_isYear n_RX10 k_X10_isYear) rfl rfl rfl (by decide +kernel) ⟨by exact Nat.le_of_ble_eq_true rfl, by exact Nat.le_of_ble_eq_true rfl⟩) (j_preS hK hSX hG) rfl rfl hl.1 rfl (lv_room (Nat.le_of_ble_eq_true rfl)) dX10_carryOutRule_40 ⟨by exact Nat.le_of_ble_eq_true rfl, by exact Nat.le_of_ble_eq_true rfl⟩) hG (c2 := 0) (s2 := 0) ⟨by exact Nat.le_of_ble_eq_true rfl, by exact Nat.le_of_ble_eq_true rfl⟩ (fun z14 M15 ez14 H locs hG => ?_)
  obtain ⟨ez14, eM15⟩ := ez14
  subst ez14
  rw [eM15] at hG
  obtain ⟨K75, hK75, h⟩ := h
  have jK75 : K75 → ∀ (H : Heap) (locs : List Loc), GM D cy o M s.heap H locs → ∀ ls : Array Slot, lv_has ls 10 [] → W p l e rm_X10_carryOutRule s m args below meth c H locs 0 0 Qf (F0 m 54 ls []) := by
    intro hcK75 H locs hG ls hl
    have h := hK75 hcK75
    refine lv_iconst (v := J 0) hx hb dX10_carryOutRule_54 (by decide) ?_
    rw [hQf]
    exact j_iretn hx hb hr hlocks (nar_b (by decide)) hG h (by decide) dX10_carryOutRule_55
  refine j_if_eq_b (tgt := 54) hx hb dX10_carryOutRule_43 (by decide) (fun c76 => ?_) (fun c76 => ?_)
  · have h := h.1 c76
    exact jK75 h H locs hG ls (lv_sub hl [] rfl)
  · have h := h.2 c76
    refine lv_iload hx hb dX10_carryOutRule_46 (lv_at hl 0 rfl) ?_
    obtain ⟨g77, h⟩ := h
    refine j_conti (va_runS (As := [.int (J x12)]) (rest := []) ⟨hx, hb, hml, hown, hts⟩ (A_X10_isYear l g77) (va_cwS 1 hts (gj_S ml_RX10_65 i_X10_isYear n_RX10 k_X10_isYear) rfl rfl rfl (by decide +kernel) ⟨by exact Nat.le_of_ble_eq_true rfl, by exact Nat.le_of_ble_eq_true rfl⟩) (j_preS hK hSX hG) rfl rfl hl.1 rfl (lv_room (Nat.le_of_ble_eq_true rfl)) dX10_carryOutRule_48 ⟨by exact Nat.le_of_ble_eq_true rfl, by exact Nat.le_of_ble_eq_true rfl⟩) hG (c2 := 0) (s2 := 0) ⟨by exact Nat.le_of_ble_eq_true rfl, by exact Nat.le_of_ble_eq_true rfl⟩ (fun z78 M79 ez78 H locs hG => ?_)
    obtain ⟨ez78, eM79⟩ := ez78
    subst ez78
    rw [eM79] at hG
    refine j_if_ne_b (tgt := 56) hx hb dX10_carryOutRule_51 (by decide) (fun c80 => ?_) (fun c80 => ?_)
    · have h := h.1 c80
      refine lv_bipush (v := J 100) hx hb dX10_carryOutRule_56 (by decide) ?_
      refine lv_iload_n hx hb dX10_carryOutRule_58 rfl (lv_at hl 1 rfl) ?_
      refine j_imul hx hb dX10_carryOutRule_59 ?_
      refine lv_iload hx hb dX10_carryOutRule_60 (lv_at hl 0 rfl) ?_
      refine j_iadd hx hb dX10_carryOutRule_62 ?_
      refine j_topi (fun x81 ex81 => ?_)
      have h := h x81 ex81
      refine lv_istore (lv' := [(5, .int (J x81)), (4, .int (J x12)), (3, .int (J x8)), (2, .int (J x4)), (0, .ref (rA o a0)), (1, .int (J a1))]) hx hb dX10_carryOutRule_63 hl (by decide) rfl (fun ls hl => ?_)
      refine lv_aload_n hx hb dX10_carryOutRule_65 rfl (lv_at hl 4 rfl) ?_
      refine j_getr hx hb hts hown hK hG (k := a0) (fun w h => List.mem_cons_of_mem _ (u_X10 w h)) (ci := 9) rfl ka0 5 (k2 := a0 + 601) (by decide) (by show a0 + (601 : Int) = a0 + 601; omega) w_fl_RX10_47 dX10_carryOutRule_66 ?_
      refine lv_iload_n hx hb dX10_carryOutRule_69 rfl (lv_at hl 5 rfl) ?_
      refine lv_iconst (v := J 3) hx hb dX10_carryOutRule_70 (by decide) ?_
      obtain ⟨g82, h⟩ := h
      refine j_conti (va_runV (As := [.int (J a1), .int (J 3)]) (rest := []) ⟨hx, hb, hml, hown, hts⟩ (A_X6_item l (kf_10_5 ka0) g82) (cwV 2 hts (gj_V ml_RX10_503 i_X6_item s_X6_item n_RX6 k_X6_item) rfl rfl rfl (by decide +kernel) ⟨by exact Nat.le_of_ble_eq_true rfl, by exact Nat.le_of_ble_eq_true rfl⟩) (j_preV hK hSX hG (ci := 5) rfl (kf_10_5 ka0) (by decide)) rfl rfl hl.1 rfl (lv_room (Nat.le_of_ble_eq_true rfl)) dX10_carryOutRule_71 ⟨by exact Nat.le_of_ble_eq_true rfl, by exact Nat.le_of_ble_eq_true rfl⟩) hG (c2 := 0) (s2 := 0) ⟨by exact Nat.le_of_ble_eq_true rfl, by exact Nat.le_of_ble_eq_true rfl⟩ (fun z83 M84 ez83 H locs hG => ?_)
      obtain ⟨ez83, eM84⟩ := ez83
      subst ez83
      rw [eM84] at hG
      refine j_topi (fun x85 ex85 => ?_)
      have h := h x85 ex85
      refine lv_istore (lv' := [(6, .int (J x85)), (5, .int (J x81)), (4, .int (J x12)), (3, .int (J x8)), (2, .int (J x4)), (0, .ref (rA o a0)), (1, .int (J a1))]) hx hb dX10_carryOutRule_74 hl (by decide) rfl (fun ls hl => ?_)
      refine lv_aload_n hx hb dX10_carryOutRule_76 rfl (lv_at hl 5 rfl) ?_
      refine j_getr hx hb hts hown hK hG (k := a0) (fun w h => List.mem_cons_of_mem _ (u_X10 w h)) (ci := 9) rfl ka0 5 (k2 := a0 + 601) (by decide) (by show a0 + (601 : Int) = a0 + 601; omega) w_fl_RX10_47 dX10_carryOutRule_77 ?_
      refine lv_iload_n hx hb dX10_carryOutRule_80 rfl (lv_at hl 6 rfl) ?_
      refine lv_iconst (v := J 4) hx hb dX10_carryOutRule_81 (by decide) ?_
      obtain ⟨g86, h⟩ := h
      refine j_conti (va_runV (As := [.int (J a1), .int (J 4)]) (rest := []) ⟨hx, hb, hml, hown, hts⟩ (A_X6_item l (kf_10_5 ka0) g86) (cwV 2 hts (gj_V ml_RX10_503 i_X6_item s_X6_item n_RX6 k_X6_item) rfl rfl rfl (by decide +kernel) ⟨by exact Nat.le_of_ble_eq_true rfl, by exact Nat.le_of_ble_eq_true rfl⟩) (j_preV hK hSX hG (ci := 5) rfl (kf_10_5 ka0) (by decide)) rfl rfl hl.1 rfl (lv_room (Nat.le_of_ble_eq_true rfl)) dX10_carryOutRule_82 ⟨by exact Nat.le_of_ble_eq_true rfl, by exact Nat.le_of_ble_eq_true rfl⟩) hG (c2 := 0) (s2 := 0) ⟨by exact Nat.le_of_ble_eq_true rfl, by exact Nat.le_of_ble_eq_true rfl⟩ (fun z87 M88 ez87 H locs hG => ?_)
      obtain ⟨ez87, eM88⟩ := ez87
      subst ez87
      rw [eM88] at hG
      refine j_topi (fun x89 ex89 => ?_)
      have h := h x89 ex89
      refine lv_istore (lv' := [(7, .int (J x89)), (6, .int (J x85)), (5, .int (J x81)), (4, .int (J x12)), (3, .int (J x8)), (2, .int (J x4)), (0, .ref (rA o a0)), (1, .int (J a1))]) hx hb dX10_carryOutRule_85 hl (by decide) rfl (fun ls hl => ?_)
      refine lv_bipush (v := J 10) hx hb dX10_carryOutRule_87 (by decide) ?_
      refine lv_aload_n hx hb dX10_carryOutRule_89 rfl (lv_at hl 6 rfl) ?_
      refine j_getr hx hb hts hown hK hG (k := a0) (fun w h => List.mem_cons_of_mem _ (u_X10 w h)) (ci := 9) rfl ka0 5 (k2 := a0 + 601) (by decide) (by show a0 + (601 : Int) = a0 + 601; omega) w_fl_RX10_47 dX10_carryOutRule_90 ?_
      refine lv_iload_n hx hb dX10_carryOutRule_93 rfl (lv_at hl 7 rfl) ?_
      refine lv_iconst (v := J 5) hx hb dX10_carryOutRule_94 (by decide) ?_
      obtain ⟨g90, h⟩ := h
      refine j_conti (va_runV (As := [.int (J a1), .int (J 5)]) (rest := [.int (J 10)]) ⟨hx, hb, hml, hown, hts⟩ (A_X6_item l (kf_10_5 ka0) g90) (cwV 2 hts (gj_V ml_RX10_503 i_X6_item s_X6_item n_RX6 k_X6_item) rfl rfl rfl (by decide +kernel) ⟨by exact Nat.le_of_ble_eq_true rfl, by exact Nat.le_of_ble_eq_true rfl⟩) (j_preV hK hSX hG (ci := 5) rfl (kf_10_5 ka0) (by decide)) rfl rfl hl.1 rfl (lv_room (Nat.le_of_ble_eq_true rfl)) dX10_carryOutRule_95 ⟨by exact Nat.le_of_ble_eq_true rfl, by exact Nat.le_of_ble_eq_true rfl⟩) hG (c2 := 0) (s2 := 0) ⟨by exact Nat.le_of_ble_eq_true rfl, by exact Nat.le_of_ble_eq_true rfl⟩ (fun z91 M92 ez91 H locs hG => ?_)
      obtain ⟨ez91, eM92⟩ := ez91
      subst ez91
      rw [eM92] at hG
      refine j_imul hx hb dX10_carryOutRule_98 ?_
      refine lv_aload_n hx hb dX10_carryOutRule_99 rfl (lv_at hl 6 rfl) ?_
      refine j_getr hx hb hts hown hK hG (k := a0) (fun w h => List.mem_cons_of_mem _ (u_X10 w h)) (ci := 9) rfl ka0 5 (k2 := a0 + 601) (by decide) (by show a0 + (601 : Int) = a0 + 601; omega) w_fl_RX10_47 dX10_carryOutRule_100 ?_
      refine lv_iload_n hx hb dX10_carryOutRule_103 rfl (lv_at hl 7 rfl) ?_
      refine lv_bipush (v := J 6) hx hb dX10_carryOutRule_104 (by decide) ?_
      obtain ⟨g93, h⟩ := h
      refine j_conti (va_runV (As := [.int (J a1), .int (J 6)]) (rest := [.int (J (10 * (pf_X6_item M (a0 + 601) a1 5)))]) ⟨hx, hb, hml, hown, hts⟩ (A_X6_item l (kf_10_5 ka0) g93) (cwV 2 hts (gj_V ml_RX10_503 i_X6_item s_X6_item n_RX6 k_X6_item) rfl rfl rfl (by decide +kernel) ⟨by exact Nat.le_of_ble_eq_true rfl, by exact Nat.le_of_ble_eq_true rfl⟩) (j_preV hK hSX hG (ci := 5) rfl (kf_10_5 ka0) (by decide)) rfl rfl hl.1 rfl (lv_room (Nat.le_of_ble_eq_true rfl)) dX10_carryOutRule_106 ⟨by exact Nat.le_of_ble_eq_true rfl, by exact Nat.le_of_ble_eq_true rfl⟩) hG (c2 := 0) (s2 := 0) ⟨by exact Nat.le_of_ble_eq_true rfl, by exact Nat.le_of_ble_eq_true rfl⟩ (fun z94 M95 ez94 H locs hG => ?_)
      obtain ⟨ez94, eM95⟩ := ez94
      subst ez94
      rw [eM95] at hG
      refine j_iadd hx hb dX10_carryOutRule_109 ?_
      refine j_topi (fun x96 ex96 => ?_)
      have h := h x96 ex96
      refine lv_istore (lv' := [(8, .int (J x96)), (7, .int (J x89)), (6, .int (J x85)), (5, .int (J x81)), (4, .int (J x12)), (3, .int (J x8)), (2, .int (J x4)), (0, .ref (rA o a0)), (1, .int (J a1))]) hx hb dX10_carryOutRule_110 hl (by decide) rfl (fun ls hl => ?_)
      refine lv_aload_n hx hb dX10_carryOutRule_112 rfl (lv_at hl 7 rfl) ?_
      refine j_getr hx hb hts hown hK hG (k := a0) (fun w h => List.mem_cons_of_mem _ (u_X10 w h)) (ci := 9) rfl ka0 5 (k2 := a0 + 601) (by decide) (by show a0 + (601 : Int) = a0 + 601; omega) w_fl_RX10_47 dX10_carryOutRule_113 ?_
      refine lv_iload_n hx hb dX10_carryOutRule_116 rfl (lv_at hl 8 rfl) ?_
      refine lv_bipush (v := J 7) hx hb dX10_carryOutRule_117 (by decide) ?_
      obtain ⟨g97, h⟩ := h
      refine j_conti (va_runV (As := [.int (J a1), .int (J 7)]) (rest := []) ⟨hx, hb, hml, hown, hts⟩ (A_X6_item l (kf_10_5 ka0) g97) (cwV 2 hts (gj_V ml_RX10_503 i_X6_item s_X6_item n_RX6 k_X6_item) rfl rfl rfl (by decide +kernel) ⟨by exact Nat.le_of_ble_eq_true rfl, by exact Nat.le_of_ble_eq_true rfl⟩) (j_preV hK hSX hG (ci := 5) rfl (kf_10_5 ka0) (by decide)) rfl rfl hl.1 rfl (lv_room (Nat.le_of_ble_eq_true rfl)) dX10_carryOutRule_119 ⟨by exact Nat.le_of_ble_eq_true rfl, by exact Nat.le_of_ble_eq_true rfl⟩) hG (c2 := 0) (s2 := 0) ⟨by exact Nat.le_of_ble_eq_true rfl, by exact Nat.le_of_ble_eq_true rfl⟩ (fun z98 M99 ez98 H locs hG => ?_)
      obtain ⟨ez98, eM99⟩ := ez98
      subst ez98
      rw [eM99] at hG
      refine j_topi (fun x100 ex100 => ?_)
      have h := h x100 ex100
      refine lv_istore (lv' := [(9, .int (J x100)), (8, .int (J x96)), (7, .int (J x89)), (6, .int (J x85)), (5, .int (J x81)), (4, .int (J x12)), (3, .int (J x8)), (2, .int (J x4)), (0, .ref (rA o a0)), (1, .int (J a1))]) hx hb dX10_carryOutRule_122 hl (by decide) rfl (fun ls hl => ?_)
      refine lv_aload_n hx hb dX10_carryOutRule_124 rfl (lv_at hl 8 rfl) ?_
      refine lv_iload_n hx hb dX10_carryOutRule_125 rfl (lv_at hl 7 rfl) ?_
      refine lv_iload hx hb dX10_carryOutRule_126 (lv_at hl 4 rfl) ?_
      refine lv_iload hx hb dX10_carryOutRule_128 (lv_at hl 3 rfl) ?_
      refine lv_iload hx hb dX10_carryOutRule_130 (lv_at hl 2 rfl) ?_
      refine lv_iload hx hb dX10_carryOutRule_132 (lv_at hl 1 rfl) ?_
      refine lv_iload hx hb dX10_carryOutRule_134 (lv_at hl 0 rfl) ?_
      refine j_conti (va_runV (As := [.int (J x4), .int (J x81), .int (J x85), .int (J x89), .int (J x96), .int (J x100)]) (rest := []) ⟨hx, hb, hml, hown, hts⟩ (A_X10_ruleFault l ka0 h) (cwV 6 hts (gj_V ml_RX10_124 i_X10_ruleFault s_X10_ruleFault n_RX10 k_X10_ruleFault) rfl rfl rfl (by decide +kernel) ⟨by exact Nat.le_of_ble_eq_true rfl, by exact Nat.le_of_ble_eq_true rfl⟩) (j_preV hK hSX hG (ci := 9) rfl ka0 (by decide)) rfl rfl hl.1 rfl (lv_room (Nat.le_of_ble_eq_true rfl)) dX10_carryOutRule_136 ⟨by exact Nat.le_of_ble_eq_true rfl, by exact Nat.le_of_ble_eq_true rfl⟩) hG (c2 := 0) (s2 := 0) ⟨by exact Nat.le_of_ble_eq_true rfl, by exact Nat.le_of_ble_eq_true rfl⟩ (fun z101 M102 h H locs hG => ?_)
      obtain ⟨h, eM102⟩ := h
      rw [eM102] at hG
      obtain ⟨K119, hK119, h⟩ := h
      have jK119 : ∀ (x117 : Int) (M118 : jT), K119 x117 M118 → ∀ (H : Heap) (locs : List Loc), GM D cy o M118 s.heap H locs → ∀ ls : Array Slot, lv_has ls 10 [] → W p l e rm_X10_carryOutRule s m args below meth c H locs 0 0 Qf (F0 m 165 ls [.int (J x117)]) := by
        intro x117 M118 hcK119 H locs hG ls hl
        have h := hK119 x117 M118 hcK119
        obtain ⟨g120, h⟩ := h
        rw [hQf]
        exact j_iretn hx hb hr hlocks (nar_b g120) hG h (by decide) dX10_carryOutRule_165
      obtain ⟨K128, hK128, h⟩ := h
      have jK128 : ∀ (M127 : jT), K128 M127 → ∀ (H : Heap) (locs : List Loc), GM D cy o M127 s.heap H locs → ∀ ls : Array Slot, lv_has ls 10 [] → W p l e rm_X10_carryOutRule s m args below meth c H locs 0 0 Qf (F0 m 164 ls []) := by
        intro M127 hcK128 H locs hG ls hl
        have h := hK128 M127 hcK128
        refine lv_iconst (v := J 0) hx hb dX10_carryOutRule_164 (by decide) ?_
        exact jK119 0 M127 h H locs hG ls (lv_sub hl [] rfl)
      obtain ⟨g130, h⟩ := h
      refine j_if_ne (tgt := 164) hx hb dX10_carryOutRule_139 (by decide) g130 (fun c129 => ?_) (fun c129 => ?_)
      · have h := h.1 c129
        exact jK128 M h H locs hG ls (lv_sub hl [] rfl)
      · have h := h.2 c129
        refine lv_aload_n hx hb dX10_carryOutRule_142 rfl (lv_at hl 8 rfl) ?_
        refine lv_iload_n hx hb dX10_carryOutRule_143 rfl (lv_at hl 7 rfl) ?_
        refine lv_iload hx hb dX10_carryOutRule_144 (lv_at hl 4 rfl) ?_
        refine lv_iload hx hb dX10_carryOutRule_146 (lv_at hl 3 rfl) ?_
        refine lv_iload hx hb dX10_carryOutRule_148 (lv_at hl 2 rfl) ?_
        refine lv_iload hx hb dX10_carryOutRule_150 (lv_at hl 1 rfl) ?_
        refine lv_iload hx hb dX10_carryOutRule_152 (lv_at hl 0 rfl) ?_
        refine j_conti (va_runV (As := [.int (J x4), .int (J x81), .int (J x85), .int (J x89), .int (J x96), .int (J x100)]) (rest := []) ⟨hx, hb, hml, hown, hts⟩ (A_X10_putRule l ka0 h) (cwV 6 hts (gj_V ml_RX10_128 i_X10_putRule s_X10_putRule n_RX10 k_X10_putRule) rfl rfl rfl (by decide +kernel) ⟨by exact Nat.le_of_ble_eq_true rfl, by exact Nat.le_of_ble_eq_true rfl⟩) (j_preV hK hSX hG (ci := 9) rfl ka0 (by decide)) rfl rfl hl.1 rfl (lv_room (Nat.le_of_ble_eq_true rfl)) dX10_carryOutRule_154 ⟨by exact Nat.le_of_ble_eq_true rfl, by exact Nat.le_of_ble_eq_true rfl⟩) hG (c2 := 0) (s2 := 0) ⟨by exact Nat.le_of_ble_eq_true rfl, by exact Nat.le_of_ble_eq_true rfl⟩ (fun z131 M132 h H locs hG => ?_)
        obtain ⟨g134, h⟩ := h
        refine j_if_lt (tgt := 164) hx hb dX10_carryOutRule_157 (by decide) g134 (fun c133 => ?_) (fun c133 => ?_)
        · have h := h.1 c133
          exact jK128 M132 h H locs hG ls (lv_sub hl [] rfl)
        · have h := h.2 c133
          refine lv_iconst (v := J 1) hx hb dX10_carryOutRule_160 (by decide) ?_
          refine lv_goto (tgt := 165) hx hb dX10_carryOutRule_161 (by decide) ?_
          exact jK119 1 M132 h H locs hG ls (lv_sub hl [] rfl)
    · have h := h.2 c80
      exact jK75 h H locs hG ls (lv_sub hl [] rfl)

abbrev rm_X10_carryOut : Room := { frames := 5, cells := 0, slots := 0, locals := 121 }
set_option maxRecDepth 100000 in
set_option maxHeartbeats 4000000 in
theorem A_X10_carryOut (l : Launch) {D : va_G} {cy : Nat → ClassId} {o : Nat} {sK sV : Nat → Nat} {M : jT} {a0 : Int} {a1 : Int} (ka0 : kd a0 = 10) {Q : Int → jT → Prop} (h : wp_X10_carryOut M a0 a1 Q) : CoI l yX10_carryOut (wj yX10_carryOut cX10_carryOut 4 (some .boolean)) rm_X10_carryOut D cy o sK sV M [.ref (rA o a0), .int (J a1)] Q := by
  refine j_ofW (cc := cX10_carryOut) (maxL := 4) (ret := (some .boolean)) (by decide) rfl (Nat.le_of_ble_eq_true rfl) ?_
  intro p e s m args below meth c hx hb hr hlocks hml hown hts hK hSX H locs hG ls hl Qf hQf
  have hown : s.vm.findClass RX10 = some m.cls := hown
  have hl : lv_has ls 4 [(0, .ref (rA o a0)), (1, .int (J a1))] := hl
  have w_fl_RX10_47 := hts _ (List.mem_cons_of_mem _ fl_RX10_47)
  unfold wp_X10_carryOut at h
  refine lv_aload_n hx hb dX10_carryOut_0 rfl (lv_at hl 0 rfl) ?_
  refine j_getr hx hb hts hown hK hG (k := a0) (fun w h => List.mem_cons_of_mem _ (u_X10 w h)) (ci := 9) rfl ka0 5 (k2 := a0 + 601) (by decide) (by show a0 + (601 : Int) = a0 + 601; omega) w_fl_RX10_47 dX10_carryOut_1 ?_
  refine lv_iload_n hx hb dX10_carryOut_4 rfl (lv_at hl 1 rfl) ?_
  refine lv_iconst (v := J 0) hx hb dX10_carryOut_5 (by decide) ?_
  obtain ⟨g1, h⟩ := h
  refine j_conti (va_runV (As := [.int (J a1), .int (J 0)]) (rest := []) ⟨hx, hb, hml, hown, hts⟩ (A_X6_item l (kf_10_5 ka0) g1) (cwV 2 hts (gj_V ml_RX10_503 i_X6_item s_X6_item n_RX6 k_X6_item) rfl rfl rfl (by decide +kernel) ⟨by exact Nat.le_of_ble_eq_true rfl, by exact Nat.le_of_ble_eq_true rfl⟩) (j_preV hK hSX hG (ci := 5) rfl (kf_10_5 ka0) (by decide)) rfl rfl hl.1 rfl (lv_room (Nat.le_of_ble_eq_true rfl)) dX10_carryOut_6 ⟨by exact Nat.le_of_ble_eq_true rfl, by exact Nat.le_of_ble_eq_true rfl⟩) hG (c2 := 0) (s2 := 0) ⟨by exact Nat.le_of_ble_eq_true rfl, by exact Nat.le_of_ble_eq_true rfl⟩ (fun z2 M3 ez2 H locs hG => ?_)
  obtain ⟨ez2, eM3⟩ := ez2
  subst ez2
  rw [eM3] at hG
  refine j_topi (fun x4 ex4 => ?_)
  have h := h x4 ex4
  refine lv_istore_n (lv' := [(2, .int (J x4)), (0, .ref (rA o a0)), (1, .int (J a1))]) hx hb dX10_carryOut_9 rfl hl (by decide) rfl (fun ls hl => ?_)
  refine lv_aload_n hx hb dX10_carryOut_10 rfl (lv_at hl 1 rfl) ?_
  refine j_getr hx hb hts hown hK hG (k := a0) (fun w h => List.mem_cons_of_mem _ (u_X10 w h)) (ci := 9) rfl ka0 5 (k2 := a0 + 601) (by decide) (by show a0 + (601 : Int) = a0 + 601; omega) w_fl_RX10_47 dX10_carryOut_11 ?_
  refine lv_iload_n hx hb dX10_carryOut_14 rfl (lv_at hl 2 rfl) ?_
  refine lv_iconst (v := J 1) hx hb dX10_carryOut_15 (by decide) ?_
  obtain ⟨g5, h⟩ := h
  refine j_conti (va_runV (As := [.int (J a1), .int (J 1)]) (rest := []) ⟨hx, hb, hml, hown, hts⟩ (A_X6_item l (kf_10_5 ka0) g5) (cwV 2 hts (gj_V ml_RX10_503 i_X6_item s_X6_item n_RX6 k_X6_item) rfl rfl rfl (by decide +kernel) ⟨by exact Nat.le_of_ble_eq_true rfl, by exact Nat.le_of_ble_eq_true rfl⟩) (j_preV hK hSX hG (ci := 5) rfl (kf_10_5 ka0) (by decide)) rfl rfl hl.1 rfl (lv_room (Nat.le_of_ble_eq_true rfl)) dX10_carryOut_16 ⟨by exact Nat.le_of_ble_eq_true rfl, by exact Nat.le_of_ble_eq_true rfl⟩) hG (c2 := 0) (s2 := 0) ⟨by exact Nat.le_of_ble_eq_true rfl, by exact Nat.le_of_ble_eq_true rfl⟩ (fun z6 M7 ez6 H locs hG => ?_)
  obtain ⟨ez6, eM7⟩ := ez6
  subst ez6
  rw [eM7] at hG
  refine j_topi (fun x8 ex8 => ?_)
  have h := h x8 ex8
  refine lv_istore_n (lv' := [(3, .int (J x8)), (2, .int (J x4)), (0, .ref (rA o a0)), (1, .int (J a1))]) hx hb dX10_carryOut_19 rfl hl (by decide) rfl (fun ls hl => ?_)
  refine lv_aload_n hx hb dX10_carryOut_20 rfl (lv_at hl 2 rfl) ?_
  refine j_getr hx hb hts hown hK hG (k := a0) (fun w h => List.mem_cons_of_mem _ (u_X10 w h)) (ci := 9) rfl ka0 5 (k2 := a0 + 601) (by decide) (by show a0 + (601 : Int) = a0 + 601; omega) w_fl_RX10_47 dX10_carryOut_21 ?_
  refine lv_iload_n hx hb dX10_carryOut_24 rfl (lv_at hl 3 rfl) ?_
  obtain ⟨g9, h⟩ := h
  refine j_conti (va_runV (As := [.int (J a1)]) (rest := []) ⟨hx, hb, hml, hown, hts⟩ (A_X6_wordOf l (kf_10_5 ka0) g9) (cwV 1 hts (gj_V ml_RX10_506 i_X6_wordOf s_X6_wordOf n_RX6 k_X6_wordOf) rfl rfl rfl (by decide +kernel) ⟨by exact Nat.le_of_ble_eq_true rfl, by exact Nat.le_of_ble_eq_true rfl⟩) (j_preV hK hSX hG (ci := 5) rfl (kf_10_5 ka0) (by decide)) rfl rfl hl.1 rfl (lv_room (Nat.le_of_ble_eq_true rfl)) dX10_carryOut_25 ⟨by exact Nat.le_of_ble_eq_true rfl, by exact Nat.le_of_ble_eq_true rfl⟩) hG (c2 := 0) (s2 := 0) ⟨by exact Nat.le_of_ble_eq_true rfl, by exact Nat.le_of_ble_eq_true rfl⟩ (fun z10 M11 ez10 H locs hG => ?_)
  obtain ⟨ez10, eM11⟩ := ez10
  subst ez10
  rw [eM11] at hG
  obtain ⟨g12, h⟩ := h
  rcases em_eqI (pf_X6_wordOf M (a0 + 601) a1) 0 with c13 | c13_0
  · refine j_tsw hx hb dX10_carryOut_28 g12 (k := 0) (tgt := 60) c13 ⟨by decide, by decide, rfl⟩ (by decide) ?_
    have h := h.1 c13
    refine lv_aload_n hx hb dX10_carryOut_60 rfl (lv_at hl 2 rfl) ?_
    refine lv_iload_n hx hb dX10_carryOut_61 rfl (lv_at hl 1 rfl) ?_
    obtain ⟨g14, h⟩ := h
    refine j_conti (va_runV (As := [.int (J x4)]) (rest := []) ⟨hx, hb, hml, hown, hts⟩ (A_X10_zoneFault l ka0 g14) (cwV 1 hts (gj_V ml_RX10_104 i_X10_zoneFault s_X10_zoneFault n_RX10 k_X10_zoneFault) rfl rfl rfl (by decide +kernel) ⟨by exact Nat.le_of_ble_eq_true rfl, by exact Nat.le_of_ble_eq_true rfl⟩) (j_preV hK hSX hG (ci := 9) rfl ka0 (by decide)) rfl rfl hl.1 rfl (lv_room (Nat.le_of_ble_eq_true rfl)) dX10_carryOut_62 ⟨by exact Nat.le_of_ble_eq_true rfl, by exact Nat.le_of_ble_eq_true rfl⟩) hG (c2 := 0) (s2 := 0) ⟨by exact Nat.le_of_ble_eq_true rfl, by exact Nat.le_of_ble_eq_true rfl⟩ (fun z15 M16 ez15 H locs hG => ?_)
    obtain ⟨ez15, eM16⟩ := ez15
    subst ez15
    rw [eM16] at hG
    obtain ⟨K33, hK33, h⟩ := h
    have jK33 : ∀ (x31 : Int) (M32 : jT), K33 x31 M32 → ∀ (H : Heap) (locs : List Loc), GM D cy o M32 s.heap H locs → ∀ ls : Array Slot, lv_has ls 4 [] → W p l e rm_X10_carryOut s m args below meth c H locs 0 0 Qf (F0 m 81 ls [.int (J x31)]) := by
      intro x31 M32 hcK33 H locs hG ls hl
      have h := hK33 x31 M32 hcK33
      obtain ⟨g34, h⟩ := h
      rw [hQf]
      exact j_iretn hx hb hr hlocks (nar_b g34) hG h (by decide) dX10_carryOut_81
    obtain ⟨K42, hK42, h⟩ := h
    have jK42 : ∀ (M41 : jT), K42 M41 → ∀ (H : Heap) (locs : List Loc), GM D cy o M41 s.heap H locs → ∀ ls : Array Slot, lv_has ls 4 [] → W p l e rm_X10_carryOut s m args below meth c H locs 0 0 Qf (F0 m 80 ls []) := by
      intro M41 hcK42 H locs hG ls hl
      have h := hK42 M41 hcK42
      refine lv_iconst (v := J 0) hx hb dX10_carryOut_80 (by decide) ?_
      exact jK33 0 M41 h H locs hG ls (lv_sub hl [] rfl)
    obtain ⟨g44, h⟩ := h
    refine j_if_ne (tgt := 80) hx hb dX10_carryOut_65 (by decide) g44 (fun c43 => ?_) (fun c43 => ?_)
    · have h := h.1 c43
      exact jK42 M h H locs hG ls (lv_sub hl [] rfl)
    · have h := h.2 c43
      refine lv_aload_n hx hb dX10_carryOut_68 rfl (lv_at hl 2 rfl) ?_
      refine lv_iload_n hx hb dX10_carryOut_69 rfl (lv_at hl 1 rfl) ?_
      refine j_conti (va_runV (As := [.int (J x4)]) (rest := []) ⟨hx, hb, hml, hown, hts⟩ (A_X10_putZone l ka0 h) (cwV 1 hts (gj_V ml_RX10_114 i_X10_putZone s_X10_putZone n_RX10 k_X10_putZone) rfl rfl rfl (by decide +kernel) ⟨by exact Nat.le_of_ble_eq_true rfl, by exact Nat.le_of_ble_eq_true rfl⟩) (j_preV hK hSX hG (ci := 9) rfl ka0 (by decide)) rfl rfl hl.1 rfl (lv_room (Nat.le_of_ble_eq_true rfl)) dX10_carryOut_70 ⟨by exact Nat.le_of_ble_eq_true rfl, by exact Nat.le_of_ble_eq_true rfl⟩) hG (c2 := 0) (s2 := 0) ⟨by exact Nat.le_of_ble_eq_true rfl, by exact Nat.le_of_ble_eq_true rfl⟩ (fun z45 M46 h H locs hG => ?_)
      obtain ⟨g48, h⟩ := h
      refine j_if_lt (tgt := 80) hx hb dX10_carryOut_73 (by decide) g48 (fun c47 => ?_) (fun c47 => ?_)
      · have h := h.1 c47
        exact jK42 M46 h H locs hG ls (lv_sub hl [] rfl)
      · have h := h.2 c47
        refine lv_iconst (v := J 1) hx hb dX10_carryOut_76 (by decide) ?_
        refine lv_goto (tgt := 81) hx hb dX10_carryOut_77 (by decide) ?_
        exact jK33 1 M46 h H locs hG ls (lv_sub hl [] rfl)
  · rcases em_eqI (pf_X6_wordOf M (a0 + 601) a1) 1 with c13 | c13_1
    · refine j_tsw hx hb dX10_carryOut_28 g12 (k := 1) (tgt := 82) c13 ⟨by decide, by decide, rfl⟩ (by decide) ?_
      have h := h.2.1 c13
      refine lv_aload_n hx hb dX10_carryOut_82 rfl (lv_at hl 2 rfl) ?_
      refine lv_iload_n hx hb dX10_carryOut_83 rfl (lv_at hl 1 rfl) ?_
      refine lv_iload_n hx hb dX10_carryOut_84 rfl (lv_at hl 0 rfl) ?_
      refine lv_aload_n hx hb dX10_carryOut_85 rfl (lv_at hl 2 rfl) ?_
      refine j_getr hx hb hts hown hK hG (k := a0) (fun w h => List.mem_cons_of_mem _ (u_X10 w h)) (ci := 9) rfl ka0 5 (k2 := a0 + 601) (by decide) (by show a0 + (601 : Int) = a0 + 601; omega) w_fl_RX10_47 dX10_carryOut_86 ?_
      refine lv_iload_n hx hb dX10_carryOut_89 rfl (lv_at hl 3 rfl) ?_
      refine lv_iconst (v := J 2) hx hb dX10_carryOut_90 (by decide) ?_
      obtain ⟨g49, h⟩ := h
      refine j_conti (va_runV (As := [.int (J a1), .int (J 2)]) (rest := [.int (J x8), .int (J x4), .ref (rA o a0)]) ⟨hx, hb, hml, hown, hts⟩ (A_X6_item l (kf_10_5 ka0) g49) (cwV 2 hts (gj_V ml_RX10_503 i_X6_item s_X6_item n_RX6 k_X6_item) rfl rfl rfl (by decide +kernel) ⟨by exact Nat.le_of_ble_eq_true rfl, by exact Nat.le_of_ble_eq_true rfl⟩) (j_preV hK hSX hG (ci := 5) rfl (kf_10_5 ka0) (by decide)) rfl rfl hl.1 rfl (lv_room (Nat.le_of_ble_eq_true rfl)) dX10_carryOut_91 ⟨by exact Nat.le_of_ble_eq_true rfl, by exact Nat.le_of_ble_eq_true rfl⟩) hG (c2 := 0) (s2 := 0) ⟨by exact Nat.le_of_ble_eq_true rfl, by exact Nat.le_of_ble_eq_true rfl⟩ (fun z50 M51 ez50 H locs hG => ?_)
      obtain ⟨ez50, eM51⟩ := ez50
      subst ez50
      rw [eM51] at hG
      refine j_conti (va_runV (As := [.int (J x4), .int (J x8), .int (J (pf_X6_item M (a0 + 601) a1 2))]) (rest := []) ⟨hx, hb, hml, hown, hts⟩ (A_X10_carryOutBase l ka0 h) (cwV 3 hts (gj_V ml_RX10_509 i_X10_carryOutBase s_X10_carryOutBase n_RX10 k_X10_carryOutBase) rfl rfl rfl (by decide +kernel) ⟨by exact Nat.le_of_ble_eq_true rfl, by exact Nat.le_of_ble_eq_true rfl⟩) (j_preV hK hSX hG (ci := 9) rfl ka0 (by decide)) rfl rfl hl.1 rfl (lv_room (Nat.le_of_ble_eq_true rfl)) dX10_carryOut_94 ⟨by exact Nat.le_of_ble_eq_true rfl, by exact Nat.le_of_ble_eq_true rfl⟩) hG (c2 := 0) (s2 := 0) ⟨by exact Nat.le_of_ble_eq_true rfl, by exact Nat.le_of_ble_eq_true rfl⟩ (fun z52 M53 h H locs hG => ?_)
      obtain ⟨g54, h⟩ := h
      rw [hQf]
      exact j_iretn hx hb hr hlocks (nar_b g54) hG h (by decide) dX10_carryOut_97
    · rcases em_eqI (pf_X6_wordOf M (a0 + 601) a1) 2 with c13 | c13_2
      · refine j_tsw hx hb dX10_carryOut_28 g12 (k := 2) (tgt := 98) c13 ⟨by decide, by decide, rfl⟩ (by decide) ?_
        have h := h.2.2.1 c13
        refine lv_aload_n hx hb dX10_carryOut_98 rfl (lv_at hl 2 rfl) ?_
        refine lv_iload_n hx hb dX10_carryOut_99 rfl (lv_at hl 3 rfl) ?_
        refine j_conti (va_runV (As := [.int (J a1)]) (rest := []) ⟨hx, hb, hml, hown, hts⟩ (A_X10_carryOutRule l ka0 h) (cwV 1 hts (gj_V ml_RX10_513 i_X10_carryOutRule s_X10_carryOutRule n_RX10 k_X10_carryOutRule) rfl rfl rfl (by decide +kernel) ⟨by exact Nat.le_of_ble_eq_true rfl, by exact Nat.le_of_ble_eq_true rfl⟩) (j_preV hK hSX hG (ci := 9) rfl ka0 (by decide)) rfl rfl hl.1 rfl (lv_room (Nat.le_of_ble_eq_true rfl)) dX10_carryOut_100 ⟨by exact Nat.le_of_ble_eq_true rfl, by exact Nat.le_of_ble_eq_true rfl⟩) hG (c2 := 0) (s2 := 0) ⟨by exact Nat.le_of_ble_eq_true rfl, by exact Nat.le_of_ble_eq_true rfl⟩ (fun z55 M56 h H locs hG => ?_)
        obtain ⟨g57, h⟩ := h
        rw [hQf]
        exact j_iretn hx hb hr hlocks (nar_b g57) hG h (by decide) dX10_carryOut_103
      · rcases em_eqI (pf_X6_wordOf M (a0 + 601) a1) 3 with c13 | c13_3
        · refine j_tsw hx hb dX10_carryOut_28 g12 (k := 3) (tgt := 104) c13 ⟨by decide, by decide, rfl⟩ (by decide) ?_
          have h := h.2.2.2.1 c13
          refine lv_aload_n hx hb dX10_carryOut_104 rfl (lv_at hl 2 rfl) ?_
          refine lv_iload_n hx hb dX10_carryOut_105 rfl (lv_at hl 1 rfl) ?_
          refine lv_iload_n hx hb dX10_carryOut_106 rfl (lv_at hl 0 rfl) ?_
          obtain ⟨g58, h⟩ := h
          refine j_conti (va_runV (As := [.int (J x4), .int (J x8)]) (rest := []) ⟨hx, hb, hml, hown, hts⟩ (A_X10_ruleIndexFault l ka0 g58) (cwV 2 hts (gj_V ml_RX10_131 i_X10_ruleIndexFault s_X10_ruleIndexFault n_RX10 k_X10_ruleIndexFault) rfl rfl rfl (by decide +kernel) ⟨by exact Nat.le_of_ble_eq_true rfl, by exact Nat.le_of_ble_eq_true rfl⟩) (j_preV hK hSX hG (ci := 9) rfl ka0 (by decide)) rfl rfl hl.1 rfl (lv_room (Nat.le_of_ble_eq_true rfl)) dX10_carryOut_107 ⟨by exact Nat.le_of_ble_eq_true rfl, by exact Nat.le_of_ble_eq_true rfl⟩) hG (c2 := 0) (s2 := 0) ⟨by exact Nat.le_of_ble_eq_true rfl, by exact Nat.le_of_ble_eq_true rfl⟩ (fun z59 M60 ez59 H locs hG => ?_)
          obtain ⟨ez59, eM60⟩ := ez59
          subst ez59
          rw [eM60] at hG
          obtain ⟨K77, hK77, h⟩ := h
          have jK77 : ∀ (x75 : Int) (M76 : jT), K77 x75 M76 → ∀ (H : Heap) (locs : List Loc), GM D cy o M76 s.heap H locs → ∀ ls : Array Slot, lv_has ls 4 [] → W p l e rm_X10_carryOut s m args below meth c H locs 0 0 Qf (F0 m 127 ls [.int (J x75)]) := by
            intro x75 M76 hcK77 H locs hG ls hl
            have h := hK77 x75 M76 hcK77
            obtain ⟨g78, h⟩ := h
            rw [hQf]
            exact j_iretn hx hb hr hlocks (nar_b g78) hG h (by decide) dX10_carryOut_127
          obtain ⟨K86, hK86, h⟩ := h
          have jK86 : ∀ (M85 : jT), K86 M85 → ∀ (H : Heap) (locs : List Loc), GM D cy o M85 s.heap H locs → ∀ ls : Array Slot, lv_has ls 4 [] → W p l e rm_X10_carryOut s m args below meth c H locs 0 0 Qf (F0 m 126 ls []) := by
            intro M85 hcK86 H locs hG ls hl
            have h := hK86 M85 hcK86
            refine lv_iconst (v := J 0) hx hb dX10_carryOut_126 (by decide) ?_
            exact jK77 0 M85 h H locs hG ls (lv_sub hl [] rfl)
          obtain ⟨g88, h⟩ := h
          refine j_if_ne (tgt := 126) hx hb dX10_carryOut_110 (by decide) g88 (fun c87 => ?_) (fun c87 => ?_)
          · have h := h.1 c87
            exact jK86 M h H locs hG ls (lv_sub hl [] rfl)
          · have h := h.2 c87
            refine lv_aload_n hx hb dX10_carryOut_113 rfl (lv_at hl 2 rfl) ?_
            refine lv_iload_n hx hb dX10_carryOut_114 rfl (lv_at hl 1 rfl) ?_
            refine lv_iload_n hx hb dX10_carryOut_115 rfl (lv_at hl 0 rfl) ?_
            refine j_conti (va_runV (As := [.int (J x4), .int (J x8)]) (rest := []) ⟨hx, hb, hml, hown, hts⟩ (A_X10_takeRule l ka0 h) (cwV 2 hts (gj_V ml_RX10_134 i_X10_takeRule s_X10_takeRule n_RX10 k_X10_takeRule) rfl rfl rfl (by decide +kernel) ⟨by exact Nat.le_of_ble_eq_true rfl, by exact Nat.le_of_ble_eq_true rfl⟩) (j_preV hK hSX hG (ci := 9) rfl ka0 (by decide)) rfl rfl hl.1 rfl (lv_room (Nat.le_of_ble_eq_true rfl)) dX10_carryOut_116 ⟨by exact Nat.le_of_ble_eq_true rfl, by exact Nat.le_of_ble_eq_true rfl⟩) hG (c2 := 0) (s2 := 0) ⟨by exact Nat.le_of_ble_eq_true rfl, by exact Nat.le_of_ble_eq_true rfl⟩ (fun z89 M90 h H locs hG => ?_)
            obtain ⟨g92, h⟩ := h
            refine j_if_lt (tgt := 126) hx hb dX10_carryOut_119 (by decide) g92 (fun c91 => ?_) (fun c91 => ?_)
            · have h := h.1 c91
              exact jK86 M90 h H locs hG ls (lv_sub hl [] rfl)
            · have h := h.2 c91
              refine lv_iconst (v := J 1) hx hb dX10_carryOut_122 (by decide) ?_
              refine lv_goto (tgt := 127) hx hb dX10_carryOut_123 (by decide) ?_
              exact jK77 1 M90 h H locs hG ls (lv_sub hl [] rfl)
        · have c13 : pf_X6_wordOf M (a0 + 601) a1 ≠ 0 ∧ pf_X6_wordOf M (a0 + 601) a1 ≠ 1 ∧ pf_X6_wordOf M (a0 + 601) a1 ≠ 2 ∧ pf_X6_wordOf M (a0 + 601) a1 ≠ 3 := ⟨c13_0, c13_1, c13_2, c13_3⟩
          have h := h.2.2.2.2 c13
          refine j_tswd hx hb dX10_carryOut_28 g12 (tgt := 128) (by omega) (by decide) ?_
          refine lv_aload_n hx hb dX10_carryOut_128 rfl (lv_at hl 2 rfl) ?_
          refine lv_iload_n hx hb dX10_carryOut_129 rfl (lv_at hl 1 rfl) ?_
          refine lv_iload_n hx hb dX10_carryOut_130 rfl (lv_at hl 0 rfl) ?_
          refine j_conti (va_runV (As := [.int (J x4), .int (J x8)]) (rest := []) ⟨hx, hb, hml, hown, hts⟩ (A_X10_occurrenceFault l ka0 h) (cwV 2 hts (gj_V ml_RX10_298 i_X10_occurrenceFault s_X10_occurrenceFault n_RX10 k_X10_occurrenceFault) rfl rfl rfl (by decide +kernel) ⟨by exact Nat.le_of_ble_eq_true rfl, by exact Nat.le_of_ble_eq_true rfl⟩) (j_preV hK hSX hG (ci := 9) rfl ka0 (by decide)) rfl rfl hl.1 rfl (lv_room (Nat.le_of_ble_eq_true rfl)) dX10_carryOut_131 ⟨by exact Nat.le_of_ble_eq_true rfl, by exact Nat.le_of_ble_eq_true rfl⟩) hG (c2 := 0) (s2 := 0) ⟨by exact Nat.le_of_ble_eq_true rfl, by exact Nat.le_of_ble_eq_true rfl⟩ (fun z93 M94 h H locs hG => ?_)
          obtain ⟨K111, hK111, h⟩ := h
          have jK111 : ∀ (x109 : Int) (M110 : jT), K111 x109 M110 → ∀ (H : Heap) (locs : List Loc), GM D cy o M110 s.heap H locs → ∀ ls : Array Slot, lv_has ls 4 [] → W p l e rm_X10_carryOut s m args below meth c H locs 0 0 Qf (F0 m 151 ls [.int (J x109)]) := by
            intro x109 M110 hcK111 H locs hG ls hl
            have h := hK111 x109 M110 hcK111
            obtain ⟨g112, h⟩ := h
            rw [hQf]
            exact j_iretn hx hb hr hlocks (nar_b g112) hG h (by decide) dX10_carryOut_151
          obtain ⟨K120, hK120, h⟩ := h
          have jK120 : ∀ (M119 : jT), K120 M119 → ∀ (H : Heap) (locs : List Loc), GM D cy o M119 s.heap H locs → ∀ ls : Array Slot, lv_has ls 4 [] → W p l e rm_X10_carryOut s m args below meth c H locs 0 0 Qf (F0 m 150 ls []) := by
            intro M119 hcK120 H locs hG ls hl
            have h := hK120 M119 hcK120
            refine lv_iconst (v := J 0) hx hb dX10_carryOut_150 (by decide) ?_
            exact jK111 0 M119 h H locs hG ls (lv_sub hl [] rfl)
          obtain ⟨g122, h⟩ := h
          refine j_if_ne (tgt := 150) hx hb dX10_carryOut_134 (by decide) g122 (fun c121 => ?_) (fun c121 => ?_)
          · have h := h.1 c121
            exact jK120 M94 h H locs hG ls (lv_sub hl [] rfl)
          · have h := h.2 c121
            refine lv_aload_n hx hb dX10_carryOut_137 rfl (lv_at hl 2 rfl) ?_
            refine lv_iload_n hx hb dX10_carryOut_138 rfl (lv_at hl 1 rfl) ?_
            refine lv_iload_n hx hb dX10_carryOut_139 rfl (lv_at hl 0 rfl) ?_
            refine j_conti (va_runV (As := [.int (J x4), .int (J x8)]) (rest := []) ⟨hx, hb, hml, hown, hts⟩ (A_X10_turnCancelled l ka0 h) (cwV 2 hts (gj_V ml_RX10_301 i_X10_turnCancelled s_X10_turnCancelled n_RX10 k_X10_turnCancelled) rfl rfl rfl (by decide +kernel) ⟨by exact Nat.le_of_ble_eq_true rfl, by exact Nat.le_of_ble_eq_true rfl⟩) (j_preV hK hSX hG (ci := 9) rfl ka0 (by decide)) rfl rfl hl.1 rfl (lv_room (Nat.le_of_ble_eq_true rfl)) dX10_carryOut_140 ⟨by exact Nat.le_of_ble_eq_true rfl, by exact Nat.le_of_ble_eq_true rfl⟩) hG (c2 := 0) (s2 := 0) ⟨by exact Nat.le_of_ble_eq_true rfl, by exact Nat.le_of_ble_eq_true rfl⟩ (fun z123 M124 h H locs hG => ?_)
            obtain ⟨g126, h⟩ := h
            refine j_if_lt (tgt := 150) hx hb dX10_carryOut_143 (by decide) g126 (fun c125 => ?_) (fun c125 => ?_)
            · have h := h.1 c125
              exact jK120 M124 h H locs hG ls (lv_sub hl [] rfl)
            · have h := h.2 c125
              refine lv_iconst (v := J 1) hx hb dX10_carryOut_146 (by decide) ?_
              refine lv_goto (tgt := 151) hx hb dX10_carryOut_147 (by decide) ?_
              exact jK111 1 M124 h H locs hG ls (lv_sub hl [] rfl)

abbrev rm_X6_startOf : Room := { frames := 0, cells := 0, slots := 0, locals := 0 }
set_option maxRecDepth 100000 in
set_option maxHeartbeats 4000000 in
theorem A_X6_startOf (l : Launch) {D : va_G} {cy : Nat → ClassId} {o : Nat} {sK sV : Nat → Nat} {M : jT} {a0 : Int} {a1 : Int} (ka0 : kd a0 = 6) (h : pg_X6_startOf M a0 a1) : CoI l yX6_startOf (wj yX6_startOf cX6_startOf 2 (some .int)) rm_X6_startOf D cy o sK sV M [.ref (rA o a0), .int (J a1)] (fun z M9 => z = pf_X6_startOf M a0 a1 ∧ M9 = M) := by
  refine j_ofW (cc := cX6_startOf) (maxL := 2) (ret := (some .int)) (by decide) rfl (Nat.le_of_ble_eq_true rfl) ?_
  intro p e s m args below meth c hx hb hr hlocks hml hown hts hK hSX H locs hG ls hl Qf hQf
  have hown : s.vm.findClass RX6 = some m.cls := hown
  have hl : lv_has ls 2 [(0, .ref (rA o a0)), (1, .int (J a1))] := hl
  have w_fl_RX6_19 := hts _ (List.mem_cons_of_mem _ fl_RX6_19)
  unfold pg_X6_startOf at h
  refine lv_aload_n hx hb dX6_startOf_0 rfl (lv_at hl 0 rfl) ?_
  refine j_getr hx hb hts hown hK hG (k := a0) (fun w h => List.mem_cons_of_mem _ (u_X6 w h)) (ci := 5) rfl ka0 5 (k2 := a0 + 2) (by decide) (by show a0 + (2 : Int) = a0 + 2; omega) w_fl_RX6_19 dX6_startOf_1 ?_
  refine lv_iload_n hx hb dX6_startOf_4 rfl (lv_at hl 1 rfl) ?_
  refine lv_bipush (v := J 10) hx hb dX6_startOf_5 (by decide) ?_
  refine j_imul hx hb dX6_startOf_7 ?_
  refine lv_iconst (v := J 1) hx hb dX6_startOf_8 (by decide) ?_
  refine j_iadd hx hb dX6_startOf_9 ?_
  obtain ⟨g1, h⟩ := h
  refine j_iald hx hb hK hG (n := 90) (kf_6_5 ka0) (by decide) g1 dX6_startOf_10 ?_
  rw [hQf]
  exact j_ireti hx hb hr hlocks hG ⟨rfl, rfl⟩ (by decide) dX6_startOf_11

abbrev rm_X3_giveUp : Room := { frames := 3, cells := 0, slots := 0, locals := 103 }
set_option maxRecDepth 100000 in
set_option maxHeartbeats 4000000 in
theorem A_X3_giveUp (l : Launch) {D : va_G} {cy : Nat → ClassId} {o : Nat} {sK sV : Nat → Nat} {M : jT} {a0 : Int} {a1 : Int} (ka0 : kd a0 = 3) (ka1 : kd a1 = 1) {Q : jT → Prop} (h : wp_X3_giveUp M a0 a1 Q) : CoV l yX3_giveUp (wj yX3_giveUp cX3_giveUp 2 none) rm_X3_giveUp D cy o sK sV M [.ref (rA o a0), .ref (rA o a1)] Q := by
  refine j_ofW (cc := cX3_giveUp) (maxL := 2) (ret := none) (by decide) rfl (Nat.le_of_ble_eq_true rfl) ?_
  intro p e s m args below meth c hx hb hr hlocks hml hown hts hK hSX H locs hG ls hl Qf hQf
  have hown : s.vm.findClass RX3 = some m.cls := hown
  have hl : lv_has ls 2 [(0, .ref (rA o a0)), (1, .ref (rA o a1))] := hl
  have w_fl_RX3_18 := hts _ (List.mem_cons_of_mem _ fl_RX3_18)
  have w_fl_RX3_22 := hts _ (List.mem_cons_of_mem _ fl_RX3_22)
  unfold wp_X3_giveUp at h
  refine lv_aload_n hx hb dX3_giveUp_0 rfl (lv_at hl 1 rfl) ?_
  refine lv_aload_n hx hb dX3_giveUp_1 rfl (lv_at hl 0 rfl) ?_
  refine j_getr hx hb hts hown hK hG (k := a0) (fun w h => List.mem_cons_of_mem _ (u_X3 w h)) (ci := 2) rfl ka0 4 (k2 := a0 + 48) (by decide) (by show a0 + (48 : Int) = a0 + 48; omega) w_fl_RX3_18 dX3_giveUp_2 ?_
  refine lv_aload_n hx hb dX3_giveUp_5 rfl (lv_at hl 0 rfl) ?_
  refine j_geti hx hb hts hown hK hG (k := a0) (fun w h => List.mem_cons_of_mem _ (u_X3 w h)) (ci := 2) rfl ka0 3 (by decide) (jz := 3) rfl w_fl_RX3_22 dX3_giveUp_6 ?_
  obtain ⟨g1, h⟩ := h
  refine j_aald hx hb hK hG (t := 22) (t0 := 5) (k2 := a0 + 47 * (M a0 3) + 49) (kf_3_4 ka0) (by decide) rfl g1 (by simp only [ra_22]; omega) dX3_giveUp_9 ?_
  have k2 : kd (a0 + 47 * (M a0 3) + 49) = 1 := by have q9 := (ka_22 (kf_3_4 ka0) g1); rwa [show (a0 + 48) + 1 + 47 * (M a0 3) = a0 + 47 * (M a0 3) + 49 from by omega] at q9
  refine j_contv (va_runV (As := [.ref (rA o (a0 + 47 * (M a0 3) + 49))]) (rest := []) ⟨hx, hb, hml, hown, hts⟩ (A_X0_copyFrom l ka1 k2 h) (cwV 1 hts (gj_V ml_RX3_26 i_X0_copyFrom s_X0_copyFrom n_RX0 k_X0_copyFrom) rfl rfl rfl (by decide +kernel) ⟨by exact Nat.le_of_ble_eq_true rfl, by exact Nat.le_of_ble_eq_true rfl⟩) (j_preV hK hSX hG (ci := 0) rfl ka1 (by decide)) rfl rfl hl.1 rfl (lv_room (Nat.le_of_ble_eq_true rfl)) dX3_giveUp_10 ⟨by exact Nat.le_of_ble_eq_true rfl, by exact Nat.le_of_ble_eq_true rfl⟩) hG (c2 := 0) (s2 := 0) ⟨by exact Nat.le_of_ble_eq_true rfl, by exact Nat.le_of_ble_eq_true rfl⟩ (fun M4 h H locs hG => ?_)
  rw [hQf]
  exact j_vret hx hb hr hlocks hG h (by decide) dX3_giveUp_13

abbrev rm_X10_spoilAll : Room := { frames := 1, cells := 0, slots := 0, locals := 20 }
set_option maxRecDepth 100000 in
set_option maxHeartbeats 4000000 in
theorem A_X10_spoilAll (l : Launch) {D : va_G} {cy : Nat → ClassId} {o : Nat} {sK sV : Nat → Nat} {M : jT} {a0 : Int} (ka0 : kd a0 = 10) {Q : jT → Prop} (h : wp_X10_spoilAll M a0 Q) : CoV l yX10_spoilAll (wj yX10_spoilAll cX10_spoilAll 2 none) rm_X10_spoilAll D cy o sK sV M [.ref (rA o a0)] Q := by
  refine j_ofW (cc := cX10_spoilAll) (maxL := 2) (ret := none) (by decide) rfl (Nat.le_of_ble_eq_true rfl) ?_
  intro p e s m args below meth c hx hb hr hlocks hml hown hts hK hSX H locs hG ls hl Qf hQf
  have hown : s.vm.findClass RX10 = some m.cls := hown
  have hl : lv_has ls 2 [(0, .ref (rA o a0))] := hl
  have w_fl_RX10_32 := hts _ (List.mem_cons_of_mem _ fl_RX10_32)
  have w_fl_RX10_25 := hts _ (List.mem_cons_of_mem _ fl_RX10_25)
  have w_fl_RX10_516 := hts _ (List.mem_cons_of_mem _ fl_RX10_516)
  unfold wp_X10_spoilAll at h
  refine lv_iconst (v := J 0) hx hb dX10_spoilAll_0 (by decide) ?_
  refine lv_istore_n (lv' := [(1, .int (J 0)), (0, .ref (rA o a0))]) hx hb dX10_spoilAll_1 rfl hl (by decide) rfl (fun ls hl => ?_)
  obtain ⟨I3, ⟨n4s, iI3⟩, qI3⟩ := h
  have lI3 : ∀ (n4 : Nat) (x1 : Int) (M2 : jT), I3 n4 x1 M2 → ∀ (H : Heap) (locs : List Loc), GM D cy o M2 s.heap H locs → ∀ ls : Array Slot, lv_has ls 2 [(0, .ref (rA o a0)), (1, .int (J x1))] → W p l e rm_X10_spoilAll s m args below meth c H locs 0 0 Qf (F0 m 2 ls []) := by
    intro n4
    induction n4 using Nat.strongRecOn with
    | ind n4 rI3 =>
      intro x1 M2 iI3 H locs hG ls hl
      have h := qI3 n4 x1 M2 iI3
      refine lv_iload_n hx hb dX10_spoilAll_2 rfl (lv_at hl 1 rfl) ?_
      refine lv_bipush (v := J 6) hx hb dX10_spoilAll_3 (by decide) ?_
      obtain ⟨g6, h⟩ := h
      refine j_icmp_ge (tgt := 24) hx hb dX10_spoilAll_5 (by decide) g6 (by decide) (fun c5 => ?_) (fun c5 => ?_)
      · have h := h.1 c5
        refine lv_iconst (v := J 0) hx hb dX10_spoilAll_24 (by decide) ?_
        refine lv_istore_n (lv' := [(1, .int (J 0)), (0, .ref (rA o a0))]) hx hb dX10_spoilAll_25 rfl hl (by decide) rfl (fun ls hl => ?_)
        obtain ⟨I9, ⟨n10s, iI9⟩, qI9⟩ := h
        have lI9 : ∀ (n10 : Nat) (x7 : Int) (M8 : jT), I9 n10 x7 M8 → ∀ (H : Heap) (locs : List Loc), GM D cy o M8 s.heap H locs → ∀ ls : Array Slot, lv_has ls 2 [(0, .ref (rA o a0)), (1, .int (J x7))] → W p l e rm_X10_spoilAll s m args below meth c H locs 0 0 Qf (F0 m 26 ls []) := by
          intro n10
          induction n10 using Nat.strongRecOn with
          | ind n10 rI9 =>
            intro x7 M8 iI9 H locs hG ls hl
            have h := qI9 n10 x7 M8 iI9
            refine lv_iload_n hx hb dX10_spoilAll_26 rfl (lv_at hl 1 rfl) ?_
            refine lv_bipush (v := J 10) hx hb dX10_spoilAll_27 (by decide) ?_
            obtain ⟨g12, h⟩ := h
            refine j_icmp_ge (tgt := 47) hx hb dX10_spoilAll_29 (by decide) g12 (by decide) (fun c11 => ?_) (fun c11 => ?_)
            · have h := h.1 c11
              rw [hQf]
              exact j_vret hx hb hr hlocks hG h (by decide) dX10_spoilAll_47
            · have h := h.2 c11
              refine lv_aload_n hx hb dX10_spoilAll_32 rfl (lv_at hl 0 rfl) ?_
              refine j_getr hx hb hts hown hK hG (k := a0) (fun w h => List.mem_cons_of_mem _ (u_X10 w h)) (ci := 9) rfl ka0 3 (k2 := a0 + 569) (by decide) (by show a0 + (569 : Int) = a0 + 569; omega) w_fl_RX10_32 dX10_spoilAll_33 ?_
              refine lv_iload_n hx hb dX10_spoilAll_36 rfl (lv_at hl 1 rfl) ?_
              obtain ⟨g13, h⟩ := h
              refine j_aald hx hb hK hG (t := 24) (t0 := 7) (k2 := a0 + 3 * x7 + 570) (kf_10_3 ka0) (by decide) rfl g13 (by simp only [ra_24]; omega) dX10_spoilAll_37 ?_
              have k14 : kd (a0 + 3 * x7 + 570) = 5 := by have q9 := (ka_24 (kf_10_3 ka0) g13); rwa [show (a0 + 569) + 1 + 3 * x7 = a0 + 3 * x7 + 570 from by omega] at q9
              refine j_contv (va_runV (As := []) (rest := []) ⟨hx, hb, hml, hown, hts⟩ (A_X5_spoil l k14 h) (cwV 0 hts (gj_V ml_RX10_278 i_X5_spoil s_X5_spoil n_RX5 k_X5_spoil) rfl rfl rfl (by decide +kernel) ⟨by exact Nat.le_of_ble_eq_true rfl, by exact Nat.le_of_ble_eq_true rfl⟩) (j_preV hK hSX hG (ci := 4) rfl k14 (by decide)) rfl rfl hl.1 rfl (lv_room (Nat.le_of_ble_eq_true rfl)) dX10_spoilAll_38 ⟨by exact Nat.le_of_ble_eq_true rfl, by exact Nat.le_of_ble_eq_true rfl⟩) hG (c2 := 0) (s2 := 0) ⟨by exact Nat.le_of_ble_eq_true rfl, by exact Nat.le_of_ble_eq_true rfl⟩ (fun M16 h H locs hG => ?_)
              refine j_iinc hx hb dX10_spoilAll_41 hl (k := 1) rfl (by decide) (fun x17 ex17 ls hl => ?_)
              have h := h x17 ex17
              have hl : lv_has ls 2 [(1, .int (J x17)), (0, .ref (rA o a0))] := hl
              refine lv_goto (tgt := 26) hx hb dX10_spoilAll_44 (by decide) ?_
              obtain ⟨n18, ln18, iI9⟩ := h
              exact rI9 n18 ln18 x17 M16 iI9 H locs hG ls (lv_sub hl [1, 0] rfl)
        exact lI9 n10s 0 M2 iI9 H locs hG ls (lv_sub hl [1, 0] rfl)
      · have h := h.2 c5
        refine lv_aload_n hx hb dX10_spoilAll_8 rfl (lv_at hl 0 rfl) ?_
        refine j_getr hx hb hts hown hK hG (k := a0) (fun w h => List.mem_cons_of_mem _ (u_X10 w h)) (ci := 9) rfl ka0 2 (k2 := a0 + 520) (by decide) (by show a0 + (520 : Int) = a0 + 520; omega) w_fl_RX10_25 dX10_spoilAll_9 ?_
        refine lv_iload_n hx hb dX10_spoilAll_12 rfl (lv_at hl 1 rfl) ?_
        obtain ⟨g19, h⟩ := h
        refine j_aald hx hb hK hG (t := 23) (t0 := 6) (k2 := a0 + 8 * x1 + 521) (kf_10_2 ka0) (by decide) rfl g19 (by simp only [ra_23]; omega) dX10_spoilAll_13 ?_
        have k20 : kd (a0 + 8 * x1 + 521) = 7 := by have q9 := (ka_23 (kf_10_2 ka0) g19); rwa [show (a0 + 520) + 1 + 8 * x1 = a0 + 8 * x1 + 521 from by omega] at q9
        refine lv_iconst (v := J 0) hx hb dX10_spoilAll_14 (by decide) ?_
        refine j_puti hx hb hts hown hK hG (k := a0 + 8 * x1 + 521) (fun w h => List.mem_cons_of_mem _ (u_X7 w h)) tyX7 tyX7_ok nmX7 (ci := 6) rfl k20 0 (by decide) (jz := 0) rfl w_fl_RX10_516 (hd := rfl) (hn := nar_b (by decide)) (hfit := fit_b (by decide)) (hdg := dX10_spoilAll_15) (fun M21 eM21 H locs hG => ?_)
        have h := h M21 eM21
        refine j_iinc hx hb dX10_spoilAll_18 hl (k := 1) rfl (by decide) (fun x22 ex22 ls hl => ?_)
        have h := h x22 ex22
        have hl : lv_has ls 2 [(1, .int (J x22)), (0, .ref (rA o a0))] := hl
        refine lv_goto (tgt := 2) hx hb dX10_spoilAll_21 (by decide) ?_
        obtain ⟨n23, ln23, iI3⟩ := h
        exact rI3 n23 ln23 x22 M21 iI3 H locs hG ls (lv_sub hl [1, 0] rfl)
  exact lI3 n4s 0 M iI3 H locs hG ls (lv_sub hl [1, 0] rfl)

abbrev rm_X10_errorPosition : Room := { frames := 0, cells := 0, slots := 0, locals := 0 }
set_option maxRecDepth 100000 in
set_option maxHeartbeats 4000000 in
theorem A_X10_errorPosition (l : Launch) {D : va_G} {cy : Nat → ClassId} {o : Nat} {sK sV : Nat → Nat} {M : jT} {a0 : Int} (ka0 : kd a0 = 10) : CoI l yX10_errorPosition (wj yX10_errorPosition cX10_errorPosition 1 (some .int)) rm_X10_errorPosition D cy o sK sV M [.ref (rA o a0)] (fun z M9 => z = pf_X10_errorPosition M a0 ∧ M9 = M) := by
  refine j_ofW (cc := cX10_errorPosition) (maxL := 1) (ret := (some .int)) (by decide) rfl (Nat.le_of_ble_eq_true rfl) ?_
  intro p e s m args below meth c hx hb hr hlocks hml hown hts hK hSX H locs hG ls hl Qf hQf
  have hown : s.vm.findClass RX10 = some m.cls := hown
  have hl : lv_has ls 1 [(0, .ref (rA o a0))] := hl
  have w_fl_RX10_47 := hts _ (List.mem_cons_of_mem _ fl_RX10_47)
  have w_fl_RX10_402 := hts _ (List.mem_cons_of_mem _ fl_RX10_402)
  refine lv_aload_n hx hb dX10_errorPosition_0 rfl (lv_at hl 0 rfl) ?_
  refine j_getr hx hb hts hown hK hG (k := a0) (fun w h => List.mem_cons_of_mem _ (u_X10 w h)) (ci := 9) rfl ka0 5 (k2 := a0 + 601) (by decide) (by show a0 + (601 : Int) = a0 + 601; omega) w_fl_RX10_47 dX10_errorPosition_1 ?_
  refine j_geti hx hb hts hown hK hG (k := a0 + 601) (fun w h => List.mem_cons_of_mem _ (u_X6 w h)) (ci := 5) rfl (kf_10_5 ka0) 2 (by decide) (jz := 2) rfl w_fl_RX10_402 dX10_errorPosition_4 ?_
  rw [hQf]
  exact j_ireti hx hb hr hlocks hG ⟨rfl, rfl⟩ (by decide) dX10_errorPosition_7

abbrev rm_X8_put : Room := { frames := 0, cells := 0, slots := 0, locals := 0 }
set_option maxRecDepth 100000 in
set_option maxHeartbeats 4000000 in
theorem A_X8_put (l : Launch) {D : va_G} {cy : Nat → ClassId} {o : Nat} {sK sV : Nat → Nat} {M : jT} {a0 : Int} {a1 : Int} (ka0 : kd a0 = 8) {Q : jT → Prop} (h : wp_X8_put M a0 a1 Q) : CoV l yX8_put (wj yX8_put cX8_put 2 none) rm_X8_put D cy o sK sV M [.ref (rA o a0), .int (J a1)] Q := by
  refine j_ofW (cc := cX8_put) (maxL := 2) (ret := none) (by decide) rfl (Nat.le_of_ble_eq_true rfl) ?_
  intro p e s m args below meth c hx hb hr hlocks hml hown hts hK hSX H locs hG ls hl Qf hQf
  have hown : s.vm.findClass RX8 = some m.cls := hown
  have hl : lv_has ls 2 [(0, .ref (rA o a0)), (1, .int (J a1))] := hl
  have w_fl_RX8_15 := hts _ (List.mem_cons_of_mem _ fl_RX8_15)
  have w_fl_RX8_9 := hts _ (List.mem_cons_of_mem _ fl_RX8_9)
  unfold wp_X8_put at h
  refine lv_aload_n hx hb dX8_put_0 rfl (lv_at hl 0 rfl) ?_
  refine j_geti hx hb hts hown hK hG (k := a0) (fun w h => List.mem_cons_of_mem _ (u_X8 w h)) (ci := 7) rfl ka0 0 (by decide) (jz := 0) rfl w_fl_RX8_15 dX8_put_1 ?_
  refine lv_aload_n hx hb dX8_put_4 rfl (lv_at hl 0 rfl) ?_
  refine j_getr hx hb hts hown hK hG (k := a0) (fun w h => List.mem_cons_of_mem _ (u_X8 w h)) (ci := 7) rfl ka0 1 (k2 := a0 + 1) (by decide) (by show a0 + (1 : Int) = a0 + 1; omega) w_fl_RX8_9 dX8_put_5 ?_
  refine j_alenz_c hx hb hK hG (n := 60) (nz := 60) rfl (kf_8_1 ka0) (by decide) dX8_put_8 ?_
  obtain ⟨K8, hK8, h⟩ := h
  have jK8 : ∀ (M7 : jT), K8 M7 → ∀ (H : Heap) (locs : List Loc), GM D cy o M7 s.heap H locs → ∀ ls : Array Slot, lv_has ls 2 [] → W p l e rm_X8_put s m args below meth c H locs 0 0 Qf (F0 m 32 ls []) := by
    intro M7 hcK8 H locs hG ls hl
    have h := hK8 M7 hcK8
    rw [hQf]
    exact j_vret hx hb hr hlocks hG h (by decide) dX8_put_32
  obtain ⟨g10, h⟩ := h
  refine j_icmp_ge (tgt := 32) hx hb dX8_put_9 (by decide) g10 (by decide) (fun c9 => ?_) (fun c9 => ?_)
  · have h := h.1 c9
    exact jK8 M h H locs hG ls (lv_sub hl [] rfl)
  · have h := h.2 c9
    refine lv_aload_n hx hb dX8_put_12 rfl (lv_at hl 0 rfl) ?_
    refine j_getr hx hb hts hown hK hG (k := a0) (fun w h => List.mem_cons_of_mem _ (u_X8 w h)) (ci := 7) rfl ka0 1 (k2 := a0 + 1) (by decide) (by show a0 + (1 : Int) = a0 + 1; omega) w_fl_RX8_9 dX8_put_13 ?_
    refine lv_aload_n hx hb dX8_put_16 rfl (lv_at hl 0 rfl) ?_
    refine j_geti hx hb hts hown hK hG (k := a0) (fun w h => List.mem_cons_of_mem _ (u_X8 w h)) (ci := 7) rfl ka0 0 (by decide) (jz := 0) rfl w_fl_RX8_15 dX8_put_17 ?_
    refine lv_iload_n hx hb dX8_put_20 rfl (lv_at hl 1 rfl) ?_
    obtain ⟨g11, h⟩ := h
    obtain ⟨g12, h⟩ := h
    refine j_cast hx hb hK hG (n := 60) (kf_8_1 ka0) (by decide) g11 g12 dX8_put_21 (fun M13 eM13 H locs hG => ?_)
    have h := h M13 eM13
    refine lv_aload_n hx hb dX8_put_22 rfl (lv_at hl 0 rfl) ?_
    refine lv_dup hx hb dX8_put_23 rfl ?_
    refine j_geti hx hb hts hown hK hG (k := a0) (fun w h => List.mem_cons_of_mem _ (u_X8 w h)) (ci := 7) rfl ka0 0 (by decide) (jz := 0) rfl w_fl_RX8_15 dX8_put_24 ?_
    refine lv_iconst (v := J 1) hx hb dX8_put_27 (by decide) ?_
    refine j_iadd hx hb dX8_put_28 ?_
    refine j_puti hx hb hts hown hK hG (k := a0) (fun w h => List.mem_cons_of_mem _ (u_X8 w h)) tyX8 tyX8_ok nmX8 (ci := 7) rfl ka0 0 (by decide) (jz := 0) rfl w_fl_RX8_15 (hd := rfl) (hn := rfl) (hfit := rfl) (hdg := dX8_put_29) (fun M14 eM14 H locs hG => ?_)
    have h := h M14 eM14
    exact jK8 M14 h H locs hG ls (lv_sub hl [] rfl)

abbrev rm_X8_putNumber : Room := { frames := 1, cells := 0, slots := 0, locals := 21 }
set_option maxRecDepth 100000 in
set_option maxHeartbeats 4000000 in
theorem A_X8_putNumber (l : Launch) {D : va_G} {cy : Nat → ClassId} {o : Nat} {sK sV : Nat → Nat} {M : jT} {a0 : Int} {a1 : Int} (ka0 : kd a0 = 8) {Q : jT → Prop} (h : wp_X8_putNumber M a0 a1 Q) : CoV l yX8_putNumber (wj yX8_putNumber cX8_putNumber 3 none) rm_X8_putNumber D cy o sK sV M [.ref (rA o a0), .int (J a1)] Q := by
  refine j_ofW (cc := cX8_putNumber) (maxL := 3) (ret := none) (by decide) rfl (Nat.le_of_ble_eq_true rfl) ?_
  intro p e s m args below meth c hx hb hr hlocks hml hown hts hK hSX H locs hG ls hl Qf hQf
  have hown : s.vm.findClass RX8 = some m.cls := hown
  have hl : lv_has ls 3 [(0, .ref (rA o a0)), (1, .int (J a1))] := hl
  unfold wp_X8_putNumber at h
  refine lv_sipush (v := J 1000) hx hb dX8_putNumber_0 (by decide) ?_
  refine lv_istore_n (lv' := [(2, .int (J 1000)), (0, .ref (rA o a0)), (1, .int (J a1))]) hx hb dX8_putNumber_3 rfl hl (by decide) rfl (fun ls hl => ?_)
  obtain ⟨I3, ⟨n4s, iI3⟩, qI3⟩ := h
  have lI3 : ∀ (n4 : Nat) (x1 : Int) (M2 : jT), I3 n4 x1 M2 → ∀ (H : Heap) (locs : List Loc), GM D cy o M2 s.heap H locs → ∀ ls : Array Slot, lv_has ls 3 [(0, .ref (rA o a0)), (1, .int (J a1)), (2, .int (J x1))] → W p l e rm_X8_putNumber s m args below meth c H locs 0 0 Qf (F0 m 4 ls []) := by
    intro n4
    induction n4 using Nat.strongRecOn with
    | ind n4 rI3 =>
      intro x1 M2 iI3 H locs hG ls hl
      have h := qI3 n4 x1 M2 iI3
      refine lv_iload_n hx hb dX8_putNumber_4 rfl (lv_at hl 2 rfl) ?_
      refine lv_iconst (v := J 1) hx hb dX8_putNumber_5 (by decide) ?_
      obtain ⟨g6, h⟩ := h
      refine j_icmp_le (tgt := 36) hx hb dX8_putNumber_6 (by decide) g6 (by decide) (fun c5 => ?_) (fun c5 => ?_)
      · have h := h.1 c5
        refine lv_aload_n hx hb dX8_putNumber_36 rfl (lv_at hl 0 rfl) ?_
        refine lv_bipush (v := J 48) hx hb dX8_putNumber_37 (by decide) ?_
        refine lv_iload_n hx hb dX8_putNumber_39 rfl (lv_at hl 1 rfl) ?_
        refine lv_bipush (v := J 10) hx hb dX8_putNumber_40 (by decide) ?_
        obtain ⟨g7, h⟩ := h
        refine j_irem hx hb dX8_putNumber_42 g7 (by decide) ?_
        refine j_iadd hx hb dX8_putNumber_43 ?_
        obtain ⟨g8, h⟩ := h
        refine j_i2c hx hb dX8_putNumber_44 g8 ?_
        refine j_contv (va_runV (As := [.int (J (48 + (a1 % 10)))]) (rest := []) ⟨hx, hb, hml, hown, hts⟩ (A_X8_put l ka0 h) (cwV 1 hts (gj_V ml_RX8_29 i_X8_put s_X8_put n_RX8 k_X8_put) rfl rfl rfl (by decide +kernel) ⟨by exact Nat.le_of_ble_eq_true rfl, by exact Nat.le_of_ble_eq_true rfl⟩) (j_preV hK hSX hG (ci := 7) rfl ka0 (by decide)) rfl rfl hl.1 rfl (lv_room (Nat.le_of_ble_eq_true rfl)) dX8_putNumber_45 ⟨by exact Nat.le_of_ble_eq_true rfl, by exact Nat.le_of_ble_eq_true rfl⟩) hG (c2 := 0) (s2 := 0) ⟨by exact Nat.le_of_ble_eq_true rfl, by exact Nat.le_of_ble_eq_true rfl⟩ (fun M10 h H locs hG => ?_)
        rw [hQf]
        exact j_vret hx hb hr hlocks hG h (by decide) dX8_putNumber_48
      · have h := h.2 c5
        refine lv_iload_n hx hb dX8_putNumber_9 rfl (lv_at hl 1 rfl) ?_
        refine lv_iload_n hx hb dX8_putNumber_10 rfl (lv_at hl 2 rfl) ?_
        obtain ⟨K20, hK20, h⟩ := h
        have jK20 : ∀ (M19 : jT), K20 M19 → ∀ (H : Heap) (locs : List Loc), GM D cy o M19 s.heap H locs → ∀ ls : Array Slot, lv_has ls 3 [(0, .ref (rA o a0)), (1, .int (J a1)), (2, .int (J x1))] → W p l e rm_X8_putNumber s m args below meth c H locs 0 0 Qf (F0 m 28 ls []) := by
          intro M19 hcK20 H locs hG ls hl
          have h := hK20 M19 hcK20
          refine lv_iload_n hx hb dX8_putNumber_28 rfl (lv_at hl 2 rfl) ?_
          refine lv_bipush (v := J 10) hx hb dX8_putNumber_29 (by decide) ?_
          obtain ⟨g21, h⟩ := h
          refine j_idiv hx hb dX8_putNumber_31 g21 (by decide) ?_
          refine j_topi (fun x22 ex22 => ?_)
          have h := h x22 ex22
          refine lv_istore_n (lv' := [(2, .int (J x22)), (0, .ref (rA o a0)), (1, .int (J a1))]) hx hb dX8_putNumber_32 rfl hl (by decide) rfl (fun ls hl => ?_)
          refine lv_goto (tgt := 4) hx hb dX8_putNumber_33 (by decide) ?_
          obtain ⟨n23, ln23, iI3⟩ := h
          exact rI3 n23 ln23 x22 M19 iI3 H locs hG ls (lv_sub hl [1, 2, 0] rfl)
        obtain ⟨g25, h⟩ := h
        refine j_icmp_lt (tgt := 28) hx hb dX8_putNumber_11 (by decide) g25 g6 (fun c24 => ?_) (fun c24 => ?_)
        · have h := h.1 c24
          exact jK20 M2 h H locs hG ls (lv_sub hl [0, 1, 2] rfl)
        · have h := h.2 c24
          refine lv_aload_n hx hb dX8_putNumber_14 rfl (lv_at hl 0 rfl) ?_
          refine lv_bipush (v := J 48) hx hb dX8_putNumber_15 (by decide) ?_
          refine lv_iload_n hx hb dX8_putNumber_17 rfl (lv_at hl 1 rfl) ?_
          refine lv_iload_n hx hb dX8_putNumber_18 rfl (lv_at hl 2 rfl) ?_
          obtain ⟨g26, h⟩ := h
          obtain ⟨g27, h⟩ := h
          refine j_idiv hx hb dX8_putNumber_19 g27 g26 ?_
          refine lv_bipush (v := J 10) hx hb dX8_putNumber_20 (by decide) ?_
          obtain ⟨g28, h⟩ := h
          refine j_irem hx hb dX8_putNumber_22 g28 (by decide) ?_
          refine j_iadd hx hb dX8_putNumber_23 ?_
          obtain ⟨g29, h⟩ := h
          refine j_i2c hx hb dX8_putNumber_24 g29 ?_
          refine j_contv (va_runV (As := [.int (J (48 + ((a1 / x1) % 10)))]) (rest := []) ⟨hx, hb, hml, hown, hts⟩ (A_X8_put l ka0 h) (cwV 1 hts (gj_V ml_RX8_29 i_X8_put s_X8_put n_RX8 k_X8_put) rfl rfl rfl (by decide +kernel) ⟨by exact Nat.le_of_ble_eq_true rfl, by exact Nat.le_of_ble_eq_true rfl⟩) (j_preV hK hSX hG (ci := 7) rfl ka0 (by decide)) rfl rfl hl.1 rfl (lv_room (Nat.le_of_ble_eq_true rfl)) dX8_putNumber_25 ⟨by exact Nat.le_of_ble_eq_true rfl, by exact Nat.le_of_ble_eq_true rfl⟩) hG (c2 := 0) (s2 := 0) ⟨by exact Nat.le_of_ble_eq_true rfl, by exact Nat.le_of_ble_eq_true rfl⟩ (fun M31 h H locs hG => ?_)
          exact jK20 M31 h H locs hG ls (lv_sub hl [0, 1, 2] rfl)
  exact lI3 n4s 1000 M iI3 H locs hG ls (lv_sub hl [1, 2, 0] rfl)

abbrev rm_X8_putDate : Room := { frames := 2, cells := 0, slots := 0, locals := 43 }
set_option maxRecDepth 100000 in
set_option maxHeartbeats 4000000 in
theorem A_X8_putDate (l : Launch) {D : va_G} {cy : Nat → ClassId} {o : Nat} {sK sV : Nat → Nat} {M : jT} {a0 : Int} {a1 : Int} (ka0 : kd a0 = 8) {Q : jT → Prop} (h : wp_X8_putDate M a0 a1 Q) : CoV l yX8_putDate (wj yX8_putDate cX8_putDate 2 none) rm_X8_putDate D cy o sK sV M [.ref (rA o a0), .int (J a1)] Q := by
  refine j_ofW (cc := cX8_putDate) (maxL := 2) (ret := none) (by decide) rfl (Nat.le_of_ble_eq_true rfl) ?_
  intro p e s m args below meth c hx hb hr hlocks hml hown hts hK hSX H locs hG ls hl Qf hQf
  have hown : s.vm.findClass RX8 = some m.cls := hown
  have hl : lv_has ls 2 [(0, .ref (rA o a0)), (1, .int (J a1))] := hl
  unfold wp_X8_putDate at h
  refine lv_iload_n hx hb dX8_putDate_0 rfl (lv_at hl 1 rfl) ?_
  refine lv_bipush (v := J 31) hx hb dX8_putDate_1 (by decide) ?_
  obtain ⟨K28, hK28, h⟩ := h
  have jK28 : ∀ (M27 : jT), K28 M27 → ∀ (H : Heap) (locs : List Loc), GM D cy o M27 s.heap H locs → ∀ ls : Array Slot, lv_has ls 2 [] → W p l e rm_X8_putDate s m args below meth c H locs 0 0 Qf (F0 m 96 ls []) := by
    intro M27 hcK28 H locs hG ls hl
    have h := hK28 M27 hcK28
    rw [hQf]
    exact j_vret hx hb hr hlocks hG h (by decide) dX8_putDate_96
  obtain ⟨g30, h⟩ := h
  refine j_icmp_gt (tgt := 14) hx hb dX8_putDate_3 (by decide) g30 (by decide) (fun c29 => ?_) (fun c29 => ?_)
  · have h := h.1 c29
    refine lv_iload_n hx hb dX8_putDate_14 rfl (lv_at hl 1 rfl) ?_
    refine lv_sipush (v := J 500) hx hb dX8_putDate_15 (by decide) ?_
    refine j_icmp_ge (tgt := 46) hx hb dX8_putDate_18 (by decide) g30 (by decide) (fun c31 => ?_) (fun c31 => ?_)
    · have h := h.1 c31
      refine lv_iload_n hx hb dX8_putDate_46 rfl (lv_at hl 1 rfl) ?_
      refine lv_sipush (v := J 1000) hx hb dX8_putDate_47 (by decide) ?_
      refine j_icmp_ge (tgt := 70) hx hb dX8_putDate_50 (by decide) g30 (by decide) (fun c32 => ?_) (fun c32 => ?_)
      · have h := h.1 c32
        refine lv_aload_n hx hb dX8_putDate_70 rfl (lv_at hl 0 rfl) ?_
        refine lv_iload_n hx hb dX8_putDate_71 rfl (lv_at hl 1 rfl) ?_
        refine lv_bipush (v := J 10) hx hb dX8_putDate_72 (by decide) ?_
        obtain ⟨g33, h⟩ := h
        refine j_irem hx hb dX8_putDate_74 g33 (by decide) ?_
        refine j_contv (va_runV (As := [.int (J (a1 % 10))]) (rest := []) ⟨hx, hb, hml, hown, hts⟩ (A_X8_putNumber l ka0 h) (cwV 1 hts (gj_V ml_RX8_25 i_X8_putNumber s_X8_putNumber n_RX8 k_X8_putNumber) rfl rfl rfl (by decide +kernel) ⟨by exact Nat.le_of_ble_eq_true rfl, by exact Nat.le_of_ble_eq_true rfl⟩) (j_preV hK hSX hG (ci := 7) rfl ka0 (by decide)) rfl rfl hl.1 rfl (lv_room (Nat.le_of_ble_eq_true rfl)) dX8_putDate_75 ⟨by exact Nat.le_of_ble_eq_true rfl, by exact Nat.le_of_ble_eq_true rfl⟩) hG (c2 := 0) (s2 := 0) ⟨by exact Nat.le_of_ble_eq_true rfl, by exact Nat.le_of_ble_eq_true rfl⟩ (fun M35 h H locs hG => ?_)
        refine lv_aload_n hx hb dX8_putDate_78 rfl (lv_at hl 0 rfl) ?_
        refine lv_bipush (v := J 62) hx hb dX8_putDate_79 (by decide) ?_
        refine j_contv (va_runV (As := [.int (J 62)]) (rest := []) ⟨hx, hb, hml, hown, hts⟩ (A_X8_put l ka0 h) (cwV 1 hts (gj_V ml_RX8_29 i_X8_put s_X8_put n_RX8 k_X8_put) rfl rfl rfl (by decide +kernel) ⟨by exact Nat.le_of_ble_eq_true rfl, by exact Nat.le_of_ble_eq_true rfl⟩) (j_preV hK hSX hG (ci := 7) rfl ka0 (by decide)) rfl rfl hl.1 rfl (lv_room (Nat.le_of_ble_eq_true rfl)) dX8_putDate_81 ⟨by exact Nat.le_of_ble_eq_true rfl, by exact Nat.le_of_ble_eq_true rfl⟩) hG (c2 := 0) (s2 := 0) ⟨by exact Nat.le_of_ble_eq_true rfl, by exact Nat.le_of_ble_eq_true rfl⟩ (fun M37 h H locs hG => ?_)
        refine lv_aload_n hx hb dX8_putDate_84 rfl (lv_at hl 0 rfl) ?_
        refine lv_iload_n hx hb dX8_putDate_85 rfl (lv_at hl 1 rfl) ?_
        refine lv_sipush (v := J 1000) hx hb dX8_putDate_86 (by decide) ?_
        refine j_isub hx hb dX8_putDate_89 ?_
        refine lv_bipush (v := J 10) hx hb dX8_putDate_90 (by decide) ?_
        obtain ⟨g38, h⟩ := h
        refine j_idiv hx hb dX8_putDate_92 g38 (by decide) ?_
        refine j_contv (va_runV (As := [.int (J ((a1 - 1000) / 10))]) (rest := []) ⟨hx, hb, hml, hown, hts⟩ (A_X8_putNumber l ka0 h) (cwV 1 hts (gj_V ml_RX8_25 i_X8_putNumber s_X8_putNumber n_RX8 k_X8_putNumber) rfl rfl rfl (by decide +kernel) ⟨by exact Nat.le_of_ble_eq_true rfl, by exact Nat.le_of_ble_eq_true rfl⟩) (j_preV hK hSX hG (ci := 7) rfl ka0 (by decide)) rfl rfl hl.1 rfl (lv_room (Nat.le_of_ble_eq_true rfl)) dX8_putDate_93 ⟨by exact Nat.le_of_ble_eq_true rfl, by exact Nat.le_of_ble_eq_true rfl⟩) hG (c2 := 0) (s2 := 0) ⟨by exact Nat.le_of_ble_eq_true rfl, by exact Nat.le_of_ble_eq_true rfl⟩ (fun M40 h H locs hG => ?_)
        exact jK28 M40 h H locs hG ls (lv_sub hl [] rfl)
      · have h := h.2 c32
        refine lv_aload_n hx hb dX8_putDate_53 rfl (lv_at hl 0 rfl) ?_
        refine lv_bipush (v := J 108) hx hb dX8_putDate_54 (by decide) ?_
        refine j_contv (va_runV (As := [.int (J 108)]) (rest := []) ⟨hx, hb, hml, hown, hts⟩ (A_X8_put l ka0 h) (cwV 1 hts (gj_V ml_RX8_29 i_X8_put s_X8_put n_RX8 k_X8_put) rfl rfl rfl (by decide +kernel) ⟨by exact Nat.le_of_ble_eq_true rfl, by exact Nat.le_of_ble_eq_true rfl⟩) (j_preV hK hSX hG (ci := 7) rfl ka0 (by decide)) rfl rfl hl.1 rfl (lv_room (Nat.le_of_ble_eq_true rfl)) dX8_putDate_56 ⟨by exact Nat.le_of_ble_eq_true rfl, by exact Nat.le_of_ble_eq_true rfl⟩) hG (c2 := 0) (s2 := 0) ⟨by exact Nat.le_of_ble_eq_true rfl, by exact Nat.le_of_ble_eq_true rfl⟩ (fun M42 h H locs hG => ?_)
        refine lv_aload_n hx hb dX8_putDate_59 rfl (lv_at hl 0 rfl) ?_
        refine lv_iload_n hx hb dX8_putDate_60 rfl (lv_at hl 1 rfl) ?_
        refine lv_bipush (v := J 100) hx hb dX8_putDate_61 (by decide) ?_
        obtain ⟨g43, h⟩ := h
        refine j_irem hx hb dX8_putDate_63 g43 (by decide) ?_
        refine j_contv (va_runV (As := [.int (J (a1 % 100))]) (rest := []) ⟨hx, hb, hml, hown, hts⟩ (A_X8_putNumber l ka0 h) (cwV 1 hts (gj_V ml_RX8_25 i_X8_putNumber s_X8_putNumber n_RX8 k_X8_putNumber) rfl rfl rfl (by decide +kernel) ⟨by exact Nat.le_of_ble_eq_true rfl, by exact Nat.le_of_ble_eq_true rfl⟩) (j_preV hK hSX hG (ci := 7) rfl ka0 (by decide)) rfl rfl hl.1 rfl (lv_room (Nat.le_of_ble_eq_true rfl)) dX8_putDate_64 ⟨by exact Nat.le_of_ble_eq_true rfl, by exact Nat.le_of_ble_eq_true rfl⟩) hG (c2 := 0) (s2 := 0) ⟨by exact Nat.le_of_ble_eq_true rfl, by exact Nat.le_of_ble_eq_true rfl⟩ (fun M45 h H locs hG => ?_)
        refine lv_goto (tgt := 96) hx hb dX8_putDate_67 (by decide) ?_
        exact jK28 M45 h H locs hG ls (lv_sub hl [] rfl)
    · have h := h.2 c31
      refine lv_aload_n hx hb dX8_putDate_21 rfl (lv_at hl 0 rfl) ?_
      refine lv_iload_n hx hb dX8_putDate_22 rfl (lv_at hl 1 rfl) ?_
      refine lv_bipush (v := J 100) hx hb dX8_putDate_23 (by decide) ?_
      obtain ⟨g46, h⟩ := h
      refine j_idiv hx hb dX8_putDate_25 g46 (by decide) ?_
      refine j_contv (va_runV (As := [.int (J (a1 / 100))]) (rest := []) ⟨hx, hb, hml, hown, hts⟩ (A_X8_putNumber l ka0 h) (cwV 1 hts (gj_V ml_RX8_25 i_X8_putNumber s_X8_putNumber n_RX8 k_X8_putNumber) rfl rfl rfl (by decide +kernel) ⟨by exact Nat.le_of_ble_eq_true rfl, by exact Nat.le_of_ble_eq_true rfl⟩) (j_preV hK hSX hG (ci := 7) rfl ka0 (by decide)) rfl rfl hl.1 rfl (lv_room (Nat.le_of_ble_eq_true rfl)) dX8_putDate_26 ⟨by exact Nat.le_of_ble_eq_true rfl, by exact Nat.le_of_ble_eq_true rfl⟩) hG (c2 := 0) (s2 := 0) ⟨by exact Nat.le_of_ble_eq_true rfl, by exact Nat.le_of_ble_eq_true rfl⟩ (fun M48 h H locs hG => ?_)
      refine lv_aload_n hx hb dX8_putDate_29 rfl (lv_at hl 0 rfl) ?_
      refine lv_bipush (v := J 120) hx hb dX8_putDate_30 (by decide) ?_
      refine j_contv (va_runV (As := [.int (J 120)]) (rest := []) ⟨hx, hb, hml, hown, hts⟩ (A_X8_put l ka0 h) (cwV 1 hts (gj_V ml_RX8_29 i_X8_put s_X8_put n_RX8 k_X8_put) rfl rfl rfl (by decide +kernel) ⟨by exact Nat.le_of_ble_eq_true rfl, by exact Nat.le_of_ble_eq_true rfl⟩) (j_preV hK hSX hG (ci := 7) rfl ka0 (by decide)) rfl rfl hl.1 rfl (lv_room (Nat.le_of_ble_eq_true rfl)) dX8_putDate_32 ⟨by exact Nat.le_of_ble_eq_true rfl, by exact Nat.le_of_ble_eq_true rfl⟩) hG (c2 := 0) (s2 := 0) ⟨by exact Nat.le_of_ble_eq_true rfl, by exact Nat.le_of_ble_eq_true rfl⟩ (fun M50 h H locs hG => ?_)
      refine lv_aload_n hx hb dX8_putDate_35 rfl (lv_at hl 0 rfl) ?_
      refine lv_iload_n hx hb dX8_putDate_36 rfl (lv_at hl 1 rfl) ?_
      refine lv_bipush (v := J 100) hx hb dX8_putDate_37 (by decide) ?_
      refine j_irem hx hb dX8_putDate_39 g46 (by decide) ?_
      refine j_contv (va_runV (As := [.int (J (a1 % 100))]) (rest := []) ⟨hx, hb, hml, hown, hts⟩ (A_X8_putNumber l ka0 h) (cwV 1 hts (gj_V ml_RX8_25 i_X8_putNumber s_X8_putNumber n_RX8 k_X8_putNumber) rfl rfl rfl (by decide +kernel) ⟨by exact Nat.le_of_ble_eq_true rfl, by exact Nat.le_of_ble_eq_true rfl⟩) (j_preV hK hSX hG (ci := 7) rfl ka0 (by decide)) rfl rfl hl.1 rfl (lv_room (Nat.le_of_ble_eq_true rfl)) dX8_putDate_40 ⟨by exact Nat.le_of_ble_eq_true rfl, by exact Nat.le_of_ble_eq_true rfl⟩) hG (c2 := 0) (s2 := 0) ⟨by exact Nat.le_of_ble_eq_true rfl, by exact Nat.le_of_ble_eq_true rfl⟩ (fun M52 h H locs hG => ?_)
      refine lv_goto (tgt := 96) hx hb dX8_putDate_43 (by decide) ?_
      exact jK28 M52 h H locs hG ls (lv_sub hl [] rfl)
  · have h := h.2 c29
    refine lv_aload_n hx hb dX8_putDate_6 rfl (lv_at hl 0 rfl) ?_
    refine lv_iload_n hx hb dX8_putDate_7 rfl (lv_at hl 1 rfl) ?_
    refine j_contv (va_runV (As := [.int (J a1)]) (rest := []) ⟨hx, hb, hml, hown, hts⟩ (A_X8_putNumber l ka0 h) (cwV 1 hts (gj_V ml_RX8_25 i_X8_putNumber s_X8_putNumber n_RX8 k_X8_putNumber) rfl rfl rfl (by decide +kernel) ⟨by exact Nat.le_of_ble_eq_true rfl, by exact Nat.le_of_ble_eq_true rfl⟩) (j_preV hK hSX hG (ci := 7) rfl ka0 (by decide)) rfl rfl hl.1 rfl (lv_room (Nat.le_of_ble_eq_true rfl)) dX8_putDate_8 ⟨by exact Nat.le_of_ble_eq_true rfl, by exact Nat.le_of_ble_eq_true rfl⟩) hG (c2 := 0) (s2 := 0) ⟨by exact Nat.le_of_ble_eq_true rfl, by exact Nat.le_of_ble_eq_true rfl⟩ (fun M54 h H locs hG => ?_)
    refine lv_goto (tgt := 96) hx hb dX8_putDate_11 (by decide) ?_
    exact jK28 M54 h H locs hG ls (lv_sub hl [] rfl)

abbrev rm_X8_putClock : Room := { frames := 1, cells := 0, slots := 0, locals := 21 }
set_option maxRecDepth 100000 in
set_option maxHeartbeats 4000000 in
theorem A_X8_putClock (l : Launch) {D : va_G} {cy : Nat → ClassId} {o : Nat} {sK sV : Nat → Nat} {M : jT} {a0 : Int} {a1 : Int} (ka0 : kd a0 = 8) {Q : jT → Prop} (h : wp_X8_putClock M a0 a1 Q) : CoV l yX8_putClock (wj yX8_putClock cX8_putClock 2 none) rm_X8_putClock D cy o sK sV M [.ref (rA o a0), .int (J a1)] Q := by
  refine j_ofW (cc := cX8_putClock) (maxL := 2) (ret := none) (by decide) rfl (Nat.le_of_ble_eq_true rfl) ?_
  intro p e s m args below meth c hx hb hr hlocks hml hown hts hK hSX H locs hG ls hl Qf hQf
  have hown : s.vm.findClass RX8 = some m.cls := hown
  have hl : lv_has ls 2 [(0, .ref (rA o a0)), (1, .int (J a1))] := hl
  unfold wp_X8_putClock at h
  refine lv_iload_n hx hb dX8_putClock_0 rfl (lv_at hl 1 rfl) ?_
  obtain ⟨K10, hK10, h⟩ := h
  have jK10 : ∀ (M9 : jT), K10 M9 → ∀ (H : Heap) (locs : List Loc), GM D cy o M9 s.heap H locs → ∀ ls : Array Slot, lv_has ls 2 [] → W p l e rm_X8_putClock s m args below meth c H locs 0 0 Qf (F0 m 52 ls []) := by
    intro M9 hcK10 H locs hG ls hl
    have h := hK10 M9 hcK10
    rw [hQf]
    exact j_vret hx hb hr hlocks hG h (by decide) dX8_putClock_52
  obtain ⟨g11, h⟩ := h
  rcases em_eqI (a1) 0 with c12 | c12_0
  · refine j_lsw hx hb dX8_putClock_1 g11 (k := 0) (tgt := 28) c12 rfl (by decide) (by decide) ?_
    have h := h.1 c12
    refine lv_aload_n hx hb dX8_putClock_28 rfl (lv_at hl 0 rfl) ?_
    refine lv_bipush (v := J 119) hx hb dX8_putClock_29 (by decide) ?_
    refine j_contv (va_runV (As := [.int (J 119)]) (rest := []) ⟨hx, hb, hml, hown, hts⟩ (A_X8_put l ka0 h) (cwV 1 hts (gj_V ml_RX8_29 i_X8_put s_X8_put n_RX8 k_X8_put) rfl rfl rfl (by decide +kernel) ⟨by exact Nat.le_of_ble_eq_true rfl, by exact Nat.le_of_ble_eq_true rfl⟩) (j_preV hK hSX hG (ci := 7) rfl ka0 (by decide)) rfl rfl hl.1 rfl (lv_room (Nat.le_of_ble_eq_true rfl)) dX8_putClock_31 ⟨by exact Nat.le_of_ble_eq_true rfl, by exact Nat.le_of_ble_eq_true rfl⟩) hG (c2 := 0) (s2 := 0) ⟨by exact Nat.le_of_ble_eq_true rfl, by exact Nat.le_of_ble_eq_true rfl⟩ (fun M14 h H locs hG => ?_)
    refine lv_goto (tgt := 52) hx hb dX8_putClock_34 (by decide) ?_
    exact jK10 M14 h H locs hG ls (lv_sub hl [] rfl)
  · rcases em_eqI (a1) 1 with c12 | c12_1
    · refine j_lsw hx hb dX8_putClock_1 g11 (k := 1) (tgt := 37) c12 rfl (by decide) (by decide) ?_
      have h := h.2.1 c12
      refine lv_aload_n hx hb dX8_putClock_37 rfl (lv_at hl 0 rfl) ?_
      refine lv_bipush (v := J 98) hx hb dX8_putClock_38 (by decide) ?_
      refine j_contv (va_runV (As := [.int (J 98)]) (rest := []) ⟨hx, hb, hml, hown, hts⟩ (A_X8_put l ka0 h) (cwV 1 hts (gj_V ml_RX8_29 i_X8_put s_X8_put n_RX8 k_X8_put) rfl rfl rfl (by decide +kernel) ⟨by exact Nat.le_of_ble_eq_true rfl, by exact Nat.le_of_ble_eq_true rfl⟩) (j_preV hK hSX hG (ci := 7) rfl ka0 (by decide)) rfl rfl hl.1 rfl (lv_room (Nat.le_of_ble_eq_true rfl)) dX8_putClock_40 ⟨by exact Nat.le_of_ble_eq_true rfl, by exact Nat.le_of_ble_eq_true rfl⟩) hG (c2 := 0) (s2 := 0) ⟨by exact Nat.le_of_ble_eq_true rfl, by exact Nat.le_of_ble_eq_true rfl⟩ (fun M16 h H locs hG => ?_)
      refine lv_goto (tgt := 52) hx hb dX8_putClock_43 (by decide) ?_
      exact jK10 M16 h H locs hG ls (lv_sub hl [] rfl)
    · have c12 : a1 ≠ 0 ∧ a1 ≠ 1 := ⟨c12_0, c12_1⟩
      have h := h.2.2 c12
      refine j_lswd hx hb dX8_putClock_1 g11 (tgt := 46) (by simp only [Op.lookupswitch.offset_cons, Op.lookupswitch.offset]; repeat (rw [if_neg (by omega)])) (by decide) (by decide) ?_
      refine lv_aload_n hx hb dX8_putClock_46 rfl (lv_at hl 0 rfl) ?_
      refine lv_bipush (v := J 105) hx hb dX8_putClock_47 (by decide) ?_
      refine j_contv (va_runV (As := [.int (J 105)]) (rest := []) ⟨hx, hb, hml, hown, hts⟩ (A_X8_put l ka0 h) (cwV 1 hts (gj_V ml_RX8_29 i_X8_put s_X8_put n_RX8 k_X8_put) rfl rfl rfl (by decide +kernel) ⟨by exact Nat.le_of_ble_eq_true rfl, by exact Nat.le_of_ble_eq_true rfl⟩) (j_preV hK hSX hG (ci := 7) rfl ka0 (by decide)) rfl rfl hl.1 rfl (lv_room (Nat.le_of_ble_eq_true rfl)) dX8_putClock_49 ⟨by exact Nat.le_of_ble_eq_true rfl, by exact Nat.le_of_ble_eq_true rfl⟩) hG (c2 := 0) (s2 := 0) ⟨by exact Nat.le_of_ble_eq_true rfl, by exact Nat.le_of_ble_eq_true rfl⟩ (fun M18 h H locs hG => ?_)
      exact jK10 M18 h H locs hG ls (lv_sub hl [] rfl)

abbrev rm_X8_writeRule : Room := { frames := 3, cells := 0, slots := 0, locals := 64 }
set_option maxRecDepth 100000 in
set_option maxHeartbeats 4000000 in
theorem A_X8_writeRule (l : Launch) {D : va_G} {cy : Nat → ClassId} {o : Nat} {sK sV : Nat → Nat} {M : jT} {a0 : Int} {a1 : Int} {a2 : Int} (ka0 : kd a0 = 8) (ka1 : kd a1 = 9) {Q : jT → Prop} (h : wp_X8_writeRule M a0 a1 a2 Q) : CoV l yX8_writeRule (wj yX8_writeRule cX8_writeRule 3 none) rm_X8_writeRule D cy o sK sV M [.ref (rA o a0), .ref (rA o a1), .int (J a2)] Q := by
  refine j_ofW (cc := cX8_writeRule) (maxL := 3) (ret := none) (by decide) rfl (Nat.le_of_ble_eq_true rfl) ?_
  intro p e s m args below meth c hx hb hr hlocks hml hown hts hK hSX H locs hG ls hl Qf hQf
  have hown : s.vm.findClass RX8 = some m.cls := hown
  have hl : lv_has ls 3 [(0, .ref (rA o a0)), (1, .ref (rA o a1)), (2, .int (J a2))] := hl
  have w_fl_RX8_15 := hts _ (List.mem_cons_of_mem _ fl_RX8_15)
  unfold wp_X8_writeRule at h
  refine lv_aload_n hx hb dX8_writeRule_0 rfl (lv_at hl 0 rfl) ?_
  refine lv_iconst (v := J 0) hx hb dX8_writeRule_1 (by decide) ?_
  refine j_puti hx hb hts hown hK hG (k := a0) (fun w h => List.mem_cons_of_mem _ (u_X8 w h)) tyX8 tyX8_ok nmX8 (ci := 7) rfl ka0 0 (by decide) (jz := 0) rfl w_fl_RX8_15 (hd := rfl) (hn := rfl) (hfit := rfl) (hdg := dX8_writeRule_2) (fun M1 eM1 H locs hG => ?_)
  have h := h M1 eM1
  refine lv_aload_n hx hb dX8_writeRule_5 rfl (lv_at hl 0 rfl) ?_
  refine lv_sipush (v := J 2000) hx hb dX8_writeRule_6 (by decide) ?_
  refine lv_aload_n hx hb dX8_writeRule_9 rfl (lv_at hl 1 rfl) ?_
  refine lv_iload_n hx hb dX8_writeRule_10 rfl (lv_at hl 2 rfl) ?_
  refine lv_iconst (v := J 0) hx hb dX8_writeRule_11 (by decide) ?_
  obtain ⟨g2, h⟩ := h
  refine j_conti (va_runV (As := [.int (J a2), .int (J 0)]) (rest := [.int (J 2000), .ref (rA o a0)]) ⟨hx, hb, hml, hown, hts⟩ (A_X9_ruleNumber l ka1 g2) (cwV 2 hts (gj_V ml_RX8_19 i_X9_ruleNumber s_X9_ruleNumber n_RX9 k_X9_ruleNumber) rfl rfl rfl (by decide +kernel) ⟨by exact Nat.le_of_ble_eq_true rfl, by exact Nat.le_of_ble_eq_true rfl⟩) (j_preV hK hSX hG (ci := 8) rfl ka1 (by decide)) rfl rfl hl.1 rfl (lv_room (Nat.le_of_ble_eq_true rfl)) dX8_writeRule_12 ⟨by exact Nat.le_of_ble_eq_true rfl, by exact Nat.le_of_ble_eq_true rfl⟩) hG (c2 := 0) (s2 := 0) ⟨by exact Nat.le_of_ble_eq_true rfl, by exact Nat.le_of_ble_eq_true rfl⟩ (fun z3 M4 ez3 H locs hG => ?_)
  obtain ⟨ez3, eM4⟩ := ez3
  subst ez3
  rw [eM4] at hG
  refine j_iadd hx hb dX8_writeRule_15 ?_
  refine j_contv (va_runV (As := [.int (J (2000 + (pf_X9_ruleNumber M1 a1 a2 0)))]) (rest := []) ⟨hx, hb, hml, hown, hts⟩ (A_X8_putNumber l ka0 h) (cwV 1 hts (gj_V ml_RX8_25 i_X8_putNumber s_X8_putNumber n_RX8 k_X8_putNumber) rfl rfl rfl (by decide +kernel) ⟨by exact Nat.le_of_ble_eq_true rfl, by exact Nat.le_of_ble_eq_true rfl⟩) (j_preV hK hSX hG (ci := 7) rfl ka0 (by decide)) rfl rfl hl.1 rfl (lv_room (Nat.le_of_ble_eq_true rfl)) dX8_writeRule_16 ⟨by exact Nat.le_of_ble_eq_true rfl, by exact Nat.le_of_ble_eq_true rfl⟩) hG (c2 := 0) (s2 := 0) ⟨by exact Nat.le_of_ble_eq_true rfl, by exact Nat.le_of_ble_eq_true rfl⟩ (fun M6 h H locs hG => ?_)
  refine lv_aload_n hx hb dX8_writeRule_19 rfl (lv_at hl 0 rfl) ?_
  refine lv_bipush (v := J 44) hx hb dX8_writeRule_20 (by decide) ?_
  refine j_contv (va_runV (As := [.int (J 44)]) (rest := []) ⟨hx, hb, hml, hown, hts⟩ (A_X8_put l ka0 h) (cwV 1 hts (gj_V ml_RX8_29 i_X8_put s_X8_put n_RX8 k_X8_put) rfl rfl rfl (by decide +kernel) ⟨by exact Nat.le_of_ble_eq_true rfl, by exact Nat.le_of_ble_eq_true rfl⟩) (j_preV hK hSX hG (ci := 7) rfl ka0 (by decide)) rfl rfl hl.1 rfl (lv_room (Nat.le_of_ble_eq_true rfl)) dX8_writeRule_22 ⟨by exact Nat.le_of_ble_eq_true rfl, by exact Nat.le_of_ble_eq_true rfl⟩) hG (c2 := 0) (s2 := 0) ⟨by exact Nat.le_of_ble_eq_true rfl, by exact Nat.le_of_ble_eq_true rfl⟩ (fun M8 h H locs hG => ?_)
  refine lv_aload_n hx hb dX8_writeRule_25 rfl (lv_at hl 0 rfl) ?_
  refine lv_sipush (v := J 2000) hx hb dX8_writeRule_26 (by decide) ?_
  refine lv_aload_n hx hb dX8_writeRule_29 rfl (lv_at hl 1 rfl) ?_
  refine lv_iload_n hx hb dX8_writeRule_30 rfl (lv_at hl 2 rfl) ?_
  refine lv_iconst (v := J 1) hx hb dX8_writeRule_31 (by decide) ?_
  obtain ⟨g9, h⟩ := h
  refine j_conti (va_runV (As := [.int (J a2), .int (J 1)]) (rest := [.int (J 2000), .ref (rA o a0)]) ⟨hx, hb, hml, hown, hts⟩ (A_X9_ruleNumber l ka1 g9) (cwV 2 hts (gj_V ml_RX8_19 i_X9_ruleNumber s_X9_ruleNumber n_RX9 k_X9_ruleNumber) rfl rfl rfl (by decide +kernel) ⟨by exact Nat.le_of_ble_eq_true rfl, by exact Nat.le_of_ble_eq_true rfl⟩) (j_preV hK hSX hG (ci := 8) rfl ka1 (by decide)) rfl rfl hl.1 rfl (lv_room (Nat.le_of_ble_eq_true rfl)) dX8_writeRule_32 ⟨by exact Nat.le_of_ble_eq_true rfl, by exact Nat.le_of_ble_eq_true rfl⟩) hG (c2 := 0) (s2 := 0) ⟨by exact Nat.le_of_ble_eq_true rfl, by exact Nat.le_of_ble_eq_true rfl⟩ (fun z10 M11 ez10 H locs hG => ?_)
  obtain ⟨ez10, eM11⟩ := ez10
  subst ez10
  rw [eM11] at hG
  refine j_iadd hx hb dX8_writeRule_35 ?_
  refine j_contv (va_runV (As := [.int (J (2000 + (pf_X9_ruleNumber M8 a1 a2 1)))]) (rest := []) ⟨hx, hb, hml, hown, hts⟩ (A_X8_putNumber l ka0 h) (cwV 1 hts (gj_V ml_RX8_25 i_X8_putNumber s_X8_putNumber n_RX8 k_X8_putNumber) rfl rfl rfl (by decide +kernel) ⟨by exact Nat.le_of_ble_eq_true rfl, by exact Nat.le_of_ble_eq_true rfl⟩) (j_preV hK hSX hG (ci := 7) rfl ka0 (by decide)) rfl rfl hl.1 rfl (lv_room (Nat.le_of_ble_eq_true rfl)) dX8_writeRule_36 ⟨by exact Nat.le_of_ble_eq_true rfl, by exact Nat.le_of_ble_eq_true rfl⟩) hG (c2 := 0) (s2 := 0) ⟨by exact Nat.le_of_ble_eq_true rfl, by exact Nat.le_of_ble_eq_true rfl⟩ (fun M13 h H locs hG => ?_)
  refine lv_aload_n hx hb dX8_writeRule_39 rfl (lv_at hl 0 rfl) ?_
  refine lv_bipush (v := J 44) hx hb dX8_writeRule_40 (by decide) ?_
  refine j_contv (va_runV (As := [.int (J 44)]) (rest := []) ⟨hx, hb, hml, hown, hts⟩ (A_X8_put l ka0 h) (cwV 1 hts (gj_V ml_RX8_29 i_X8_put s_X8_put n_RX8 k_X8_put) rfl rfl rfl (by decide +kernel) ⟨by exact Nat.le_of_ble_eq_true rfl, by exact Nat.le_of_ble_eq_true rfl⟩) (j_preV hK hSX hG (ci := 7) rfl ka0 (by decide)) rfl rfl hl.1 rfl (lv_room (Nat.le_of_ble_eq_true rfl)) dX8_writeRule_42 ⟨by exact Nat.le_of_ble_eq_true rfl, by exact Nat.le_of_ble_eq_true rfl⟩) hG (c2 := 0) (s2 := 0) ⟨by exact Nat.le_of_ble_eq_true rfl, by exact Nat.le_of_ble_eq_true rfl⟩ (fun M15 h H locs hG => ?_)
  refine lv_aload_n hx hb dX8_writeRule_45 rfl (lv_at hl 0 rfl) ?_
  refine lv_aload_n hx hb dX8_writeRule_46 rfl (lv_at hl 1 rfl) ?_
  refine lv_iload_n hx hb dX8_writeRule_47 rfl (lv_at hl 2 rfl) ?_
  refine lv_iconst (v := J 2) hx hb dX8_writeRule_48 (by decide) ?_
  obtain ⟨g16, h⟩ := h
  refine j_conti (va_runV (As := [.int (J a2), .int (J 2)]) (rest := [.ref (rA o a0)]) ⟨hx, hb, hml, hown, hts⟩ (A_X9_ruleNumber l ka1 g16) (cwV 2 hts (gj_V ml_RX8_19 i_X9_ruleNumber s_X9_ruleNumber n_RX9 k_X9_ruleNumber) rfl rfl rfl (by decide +kernel) ⟨by exact Nat.le_of_ble_eq_true rfl, by exact Nat.le_of_ble_eq_true rfl⟩) (j_preV hK hSX hG (ci := 8) rfl ka1 (by decide)) rfl rfl hl.1 rfl (lv_room (Nat.le_of_ble_eq_true rfl)) dX8_writeRule_49 ⟨by exact Nat.le_of_ble_eq_true rfl, by exact Nat.le_of_ble_eq_true rfl⟩) hG (c2 := 0) (s2 := 0) ⟨by exact Nat.le_of_ble_eq_true rfl, by exact Nat.le_of_ble_eq_true rfl⟩ (fun z17 M18 ez17 H locs hG => ?_)
  obtain ⟨ez17, eM18⟩ := ez17
  subst ez17
  rw [eM18] at hG
  refine j_contv (va_runV (As := [.int (J (pf_X9_ruleNumber M15 a1 a2 2))]) (rest := []) ⟨hx, hb, hml, hown, hts⟩ (A_X8_putNumber l ka0 h) (cwV 1 hts (gj_V ml_RX8_25 i_X8_putNumber s_X8_putNumber n_RX8 k_X8_putNumber) rfl rfl rfl (by decide +kernel) ⟨by exact Nat.le_of_ble_eq_true rfl, by exact Nat.le_of_ble_eq_true rfl⟩) (j_preV hK hSX hG (ci := 7) rfl ka0 (by decide)) rfl rfl hl.1 rfl (lv_room (Nat.le_of_ble_eq_true rfl)) dX8_writeRule_52 ⟨by exact Nat.le_of_ble_eq_true rfl, by exact Nat.le_of_ble_eq_true rfl⟩) hG (c2 := 0) (s2 := 0) ⟨by exact Nat.le_of_ble_eq_true rfl, by exact Nat.le_of_ble_eq_true rfl⟩ (fun M20 h H locs hG => ?_)
  refine lv_aload_n hx hb dX8_writeRule_55 rfl (lv_at hl 0 rfl) ?_
  refine lv_bipush (v := J 44) hx hb dX8_writeRule_56 (by decide) ?_
  refine j_contv (va_runV (As := [.int (J 44)]) (rest := []) ⟨hx, hb, hml, hown, hts⟩ (A_X8_put l ka0 h) (cwV 1 hts (gj_V ml_RX8_29 i_X8_put s_X8_put n_RX8 k_X8_put) rfl rfl rfl (by decide +kernel) ⟨by exact Nat.le_of_ble_eq_true rfl, by exact Nat.le_of_ble_eq_true rfl⟩) (j_preV hK hSX hG (ci := 7) rfl ka0 (by decide)) rfl rfl hl.1 rfl (lv_room (Nat.le_of_ble_eq_true rfl)) dX8_writeRule_58 ⟨by exact Nat.le_of_ble_eq_true rfl, by exact Nat.le_of_ble_eq_true rfl⟩) hG (c2 := 0) (s2 := 0) ⟨by exact Nat.le_of_ble_eq_true rfl, by exact Nat.le_of_ble_eq_true rfl⟩ (fun M22 h H locs hG => ?_)
  refine lv_aload_n hx hb dX8_writeRule_61 rfl (lv_at hl 0 rfl) ?_
  refine lv_aload_n hx hb dX8_writeRule_62 rfl (lv_at hl 1 rfl) ?_
  refine lv_iload_n hx hb dX8_writeRule_63 rfl (lv_at hl 2 rfl) ?_
  refine lv_iconst (v := J 3) hx hb dX8_writeRule_64 (by decide) ?_
  obtain ⟨g23, h⟩ := h
  refine j_conti (va_runV (As := [.int (J a2), .int (J 3)]) (rest := [.ref (rA o a0)]) ⟨hx, hb, hml, hown, hts⟩ (A_X9_ruleNumber l ka1 g23) (cwV 2 hts (gj_V ml_RX8_19 i_X9_ruleNumber s_X9_ruleNumber n_RX9 k_X9_ruleNumber) rfl rfl rfl (by decide +kernel) ⟨by exact Nat.le_of_ble_eq_true rfl, by exact Nat.le_of_ble_eq_true rfl⟩) (j_preV hK hSX hG (ci := 8) rfl ka1 (by decide)) rfl rfl hl.1 rfl (lv_room (Nat.le_of_ble_eq_true rfl)) dX8_writeRule_65 ⟨by exact Nat.le_of_ble_eq_true rfl, by exact Nat.le_of_ble_eq_true rfl⟩) hG (c2 := 0) (s2 := 0) ⟨by exact Nat.le_of_ble_eq_true rfl, by exact Nat.le_of_ble_eq_true rfl⟩ (fun z24 M25 ez24 H locs hG => ?_)
  obtain ⟨ez24, eM25⟩ := ez24
  subst ez24
  rw [eM25] at hG
  refine j_contv (va_runV (As := [.int (J (pf_X9_ruleNumber M22 a1 a2 3))]) (rest := []) ⟨hx, hb, hml, hown, hts⟩ (A_X8_putDate l ka0 h) (cwV 1 hts (gj_V ml_RX8_33 i_X8_putDate s_X8_putDate n_RX8 k_X8_putDate) rfl rfl rfl (by decide +kernel) ⟨by exact Nat.le_of_ble_eq_true rfl, by exact Nat.le_of_ble_eq_true rfl⟩) (j_preV hK hSX hG (ci := 7) rfl ka0 (by decide)) rfl rfl hl.1 rfl (lv_room (Nat.le_of_ble_eq_true rfl)) dX8_writeRule_68 ⟨by exact Nat.le_of_ble_eq_true rfl, by exact Nat.le_of_ble_eq_true rfl⟩) hG (c2 := 0) (s2 := 0) ⟨by exact Nat.le_of_ble_eq_true rfl, by exact Nat.le_of_ble_eq_true rfl⟩ (fun M27 h H locs hG => ?_)
  refine lv_aload_n hx hb dX8_writeRule_71 rfl (lv_at hl 0 rfl) ?_
  refine lv_bipush (v := J 44) hx hb dX8_writeRule_72 (by decide) ?_
  refine j_contv (va_runV (As := [.int (J 44)]) (rest := []) ⟨hx, hb, hml, hown, hts⟩ (A_X8_put l ka0 h) (cwV 1 hts (gj_V ml_RX8_29 i_X8_put s_X8_put n_RX8 k_X8_put) rfl rfl rfl (by decide +kernel) ⟨by exact Nat.le_of_ble_eq_true rfl, by exact Nat.le_of_ble_eq_true rfl⟩) (j_preV hK hSX hG (ci := 7) rfl ka0 (by decide)) rfl rfl hl.1 rfl (lv_room (Nat.le_of_ble_eq_true rfl)) dX8_writeRule_74 ⟨by exact Nat.le_of_ble_eq_true rfl, by exact Nat.le_of_ble_eq_true rfl⟩) hG (c2 := 0) (s2 := 0) ⟨by exact Nat.le_of_ble_eq_true rfl, by exact Nat.le_of_ble_eq_true rfl⟩ (fun M29 h H locs hG => ?_)
  refine lv_aload_n hx hb dX8_writeRule_77 rfl (lv_at hl 0 rfl) ?_
  refine lv_aload_n hx hb dX8_writeRule_78 rfl (lv_at hl 1 rfl) ?_
  refine lv_iload_n hx hb dX8_writeRule_79 rfl (lv_at hl 2 rfl) ?_
  refine lv_iconst (v := J 4) hx hb dX8_writeRule_80 (by decide) ?_
  obtain ⟨g30, h⟩ := h
  refine j_conti (va_runV (As := [.int (J a2), .int (J 4)]) (rest := [.ref (rA o a0)]) ⟨hx, hb, hml, hown, hts⟩ (A_X9_ruleNumber l ka1 g30) (cwV 2 hts (gj_V ml_RX8_19 i_X9_ruleNumber s_X9_ruleNumber n_RX9 k_X9_ruleNumber) rfl rfl rfl (by decide +kernel) ⟨by exact Nat.le_of_ble_eq_true rfl, by exact Nat.le_of_ble_eq_true rfl⟩) (j_preV hK hSX hG (ci := 8) rfl ka1 (by decide)) rfl rfl hl.1 rfl (lv_room (Nat.le_of_ble_eq_true rfl)) dX8_writeRule_81 ⟨by exact Nat.le_of_ble_eq_true rfl, by exact Nat.le_of_ble_eq_true rfl⟩) hG (c2 := 0) (s2 := 0) ⟨by exact Nat.le_of_ble_eq_true rfl, by exact Nat.le_of_ble_eq_true rfl⟩ (fun z31 M32 ez31 H locs hG => ?_)
  obtain ⟨ez31, eM32⟩ := ez31
  subst ez31
  rw [eM32] at hG
  refine j_contv (va_runV (As := [.int (J (pf_X9_ruleNumber M29 a1 a2 4))]) (rest := []) ⟨hx, hb, hml, hown, hts⟩ (A_X8_putNumber l ka0 h) (cwV 1 hts (gj_V ml_RX8_25 i_X8_putNumber s_X8_putNumber n_RX8 k_X8_putNumber) rfl rfl rfl (by decide +kernel) ⟨by exact Nat.le_of_ble_eq_true rfl, by exact Nat.le_of_ble_eq_true rfl⟩) (j_preV hK hSX hG (ci := 7) rfl ka0 (by decide)) rfl rfl hl.1 rfl (lv_room (Nat.le_of_ble_eq_true rfl)) dX8_writeRule_84 ⟨by exact Nat.le_of_ble_eq_true rfl, by exact Nat.le_of_ble_eq_true rfl⟩) hG (c2 := 0) (s2 := 0) ⟨by exact Nat.le_of_ble_eq_true rfl, by exact Nat.le_of_ble_eq_true rfl⟩ (fun M34 h H locs hG => ?_)
  refine lv_aload_n hx hb dX8_writeRule_87 rfl (lv_at hl 0 rfl) ?_
  refine lv_bipush (v := J 44) hx hb dX8_writeRule_88 (by decide) ?_
  refine j_contv (va_runV (As := [.int (J 44)]) (rest := []) ⟨hx, hb, hml, hown, hts⟩ (A_X8_put l ka0 h) (cwV 1 hts (gj_V ml_RX8_29 i_X8_put s_X8_put n_RX8 k_X8_put) rfl rfl rfl (by decide +kernel) ⟨by exact Nat.le_of_ble_eq_true rfl, by exact Nat.le_of_ble_eq_true rfl⟩) (j_preV hK hSX hG (ci := 7) rfl ka0 (by decide)) rfl rfl hl.1 rfl (lv_room (Nat.le_of_ble_eq_true rfl)) dX8_writeRule_90 ⟨by exact Nat.le_of_ble_eq_true rfl, by exact Nat.le_of_ble_eq_true rfl⟩) hG (c2 := 0) (s2 := 0) ⟨by exact Nat.le_of_ble_eq_true rfl, by exact Nat.le_of_ble_eq_true rfl⟩ (fun M36 h H locs hG => ?_)
  refine lv_aload_n hx hb dX8_writeRule_93 rfl (lv_at hl 0 rfl) ?_
  refine lv_aload_n hx hb dX8_writeRule_94 rfl (lv_at hl 1 rfl) ?_
  refine lv_iload_n hx hb dX8_writeRule_95 rfl (lv_at hl 2 rfl) ?_
  refine lv_iconst (v := J 5) hx hb dX8_writeRule_96 (by decide) ?_
  obtain ⟨g37, h⟩ := h
  refine j_conti (va_runV (As := [.int (J a2), .int (J 5)]) (rest := [.ref (rA o a0)]) ⟨hx, hb, hml, hown, hts⟩ (A_X9_ruleNumber l ka1 g37) (cwV 2 hts (gj_V ml_RX8_19 i_X9_ruleNumber s_X9_ruleNumber n_RX9 k_X9_ruleNumber) rfl rfl rfl (by decide +kernel) ⟨by exact Nat.le_of_ble_eq_true rfl, by exact Nat.le_of_ble_eq_true rfl⟩) (j_preV hK hSX hG (ci := 8) rfl ka1 (by decide)) rfl rfl hl.1 rfl (lv_room (Nat.le_of_ble_eq_true rfl)) dX8_writeRule_97 ⟨by exact Nat.le_of_ble_eq_true rfl, by exact Nat.le_of_ble_eq_true rfl⟩) hG (c2 := 0) (s2 := 0) ⟨by exact Nat.le_of_ble_eq_true rfl, by exact Nat.le_of_ble_eq_true rfl⟩ (fun z38 M39 ez38 H locs hG => ?_)
  obtain ⟨ez38, eM39⟩ := ez38
  subst ez38
  rw [eM39] at hG
  refine j_contv (va_runV (As := [.int (J (pf_X9_ruleNumber M36 a1 a2 5))]) (rest := []) ⟨hx, hb, hml, hown, hts⟩ (A_X8_putClock l ka0 h) (cwV 1 hts (gj_V ml_RX8_36 i_X8_putClock s_X8_putClock n_RX8 k_X8_putClock) rfl rfl rfl (by decide +kernel) ⟨by exact Nat.le_of_ble_eq_true rfl, by exact Nat.le_of_ble_eq_true rfl⟩) (j_preV hK hSX hG (ci := 7) rfl ka0 (by decide)) rfl rfl hl.1 rfl (lv_room (Nat.le_of_ble_eq_true rfl)) dX8_writeRule_100 ⟨by exact Nat.le_of_ble_eq_true rfl, by exact Nat.le_of_ble_eq_true rfl⟩) hG (c2 := 0) (s2 := 0) ⟨by exact Nat.le_of_ble_eq_true rfl, by exact Nat.le_of_ble_eq_true rfl⟩ (fun M41 h H locs hG => ?_)
  refine lv_aload_n hx hb dX8_writeRule_103 rfl (lv_at hl 0 rfl) ?_
  refine lv_bipush (v := J 44) hx hb dX8_writeRule_104 (by decide) ?_
  refine j_contv (va_runV (As := [.int (J 44)]) (rest := []) ⟨hx, hb, hml, hown, hts⟩ (A_X8_put l ka0 h) (cwV 1 hts (gj_V ml_RX8_29 i_X8_put s_X8_put n_RX8 k_X8_put) rfl rfl rfl (by decide +kernel) ⟨by exact Nat.le_of_ble_eq_true rfl, by exact Nat.le_of_ble_eq_true rfl⟩) (j_preV hK hSX hG (ci := 7) rfl ka0 (by decide)) rfl rfl hl.1 rfl (lv_room (Nat.le_of_ble_eq_true rfl)) dX8_writeRule_106 ⟨by exact Nat.le_of_ble_eq_true rfl, by exact Nat.le_of_ble_eq_true rfl⟩) hG (c2 := 0) (s2 := 0) ⟨by exact Nat.le_of_ble_eq_true rfl, by exact Nat.le_of_ble_eq_true rfl⟩ (fun M43 h H locs hG => ?_)
  refine lv_aload_n hx hb dX8_writeRule_109 rfl (lv_at hl 0 rfl) ?_
  refine lv_aload_n hx hb dX8_writeRule_110 rfl (lv_at hl 1 rfl) ?_
  refine lv_iload_n hx hb dX8_writeRule_111 rfl (lv_at hl 2 rfl) ?_
  refine lv_bipush (v := J 6) hx hb dX8_writeRule_112 (by decide) ?_
  obtain ⟨g44, h⟩ := h
  refine j_conti (va_runV (As := [.int (J a2), .int (J 6)]) (rest := [.ref (rA o a0)]) ⟨hx, hb, hml, hown, hts⟩ (A_X9_ruleNumber l ka1 g44) (cwV 2 hts (gj_V ml_RX8_19 i_X9_ruleNumber s_X9_ruleNumber n_RX9 k_X9_ruleNumber) rfl rfl rfl (by decide +kernel) ⟨by exact Nat.le_of_ble_eq_true rfl, by exact Nat.le_of_ble_eq_true rfl⟩) (j_preV hK hSX hG (ci := 8) rfl ka1 (by decide)) rfl rfl hl.1 rfl (lv_room (Nat.le_of_ble_eq_true rfl)) dX8_writeRule_114 ⟨by exact Nat.le_of_ble_eq_true rfl, by exact Nat.le_of_ble_eq_true rfl⟩) hG (c2 := 0) (s2 := 0) ⟨by exact Nat.le_of_ble_eq_true rfl, by exact Nat.le_of_ble_eq_true rfl⟩ (fun z45 M46 ez45 H locs hG => ?_)
  obtain ⟨ez45, eM46⟩ := ez45
  subst ez45
  rw [eM46] at hG
  refine j_contv (va_runV (As := [.int (J (pf_X9_ruleNumber M43 a1 a2 6))]) (rest := []) ⟨hx, hb, hml, hown, hts⟩ (A_X8_putNumber l ka0 h) (cwV 1 hts (gj_V ml_RX8_25 i_X8_putNumber s_X8_putNumber n_RX8 k_X8_putNumber) rfl rfl rfl (by decide +kernel) ⟨by exact Nat.le_of_ble_eq_true rfl, by exact Nat.le_of_ble_eq_true rfl⟩) (j_preV hK hSX hG (ci := 7) rfl ka0 (by decide)) rfl rfl hl.1 rfl (lv_room (Nat.le_of_ble_eq_true rfl)) dX8_writeRule_117 ⟨by exact Nat.le_of_ble_eq_true rfl, by exact Nat.le_of_ble_eq_true rfl⟩) hG (c2 := 0) (s2 := 0) ⟨by exact Nat.le_of_ble_eq_true rfl, by exact Nat.le_of_ble_eq_true rfl⟩ (fun M48 h H locs hG => ?_)
  rw [hQf]
  exact j_vret hx hb hr hlocks hG h (by decide) dX8_writeRule_120

abbrev rom_X10_write : Room := { frames := 4, cells := 0, slots := 0, locals := 86 }
set_option maxRecDepth 100000 in
set_option maxHeartbeats 4000000 in
theorem Ao_X10_write (l : Launch) {D : va_G} {cy : Nat → ClassId} {o : Nat} {sK sV : Nat → Nat} {M : jT} {a0 : Int} {a1 : Int} {a2 : Int} (ka0 : kd a0 = 10) {Q : Int → jT → Prop} (h : wo_X10_write M a0 a1 a2 Q) : CoI l yX10_write (wj yX10_write cX10_write 3 (some .int)) rom_X10_write D cy o sK sV M [.ref (rA o a0), .int (J a1), .int (J a2)] Q := by
  refine j_ofW (cc := cX10_write) (maxL := 3) (ret := (some .int)) (by decide) rfl (Nat.le_of_ble_eq_true rfl) ?_
  intro p e s m args below meth c hx hb hr hlocks hml hown hts hK hSX H locs hG ls hl Qf hQf
  have hown : s.vm.findClass RX10 = some m.cls := hown
  have hl : lv_has ls 3 [(0, .ref (rA o a0)), (1, .int (J a1)), (2, .int (J a2))] := hl
  have w_fl_RX10_54 := hts _ (List.mem_cons_of_mem _ fl_RX10_54)
  have w_fl_RX10_12 := hts _ (List.mem_cons_of_mem _ fl_RX10_12)
  have w_fl_RX10_140 := hts _ (List.mem_cons_of_mem _ fl_RX10_140)
  have w_fl_RX10_425 := hts _ (List.mem_cons_of_mem _ fl_RX10_425)
  unfold wo_X10_write at h
  refine lv_aload_n hx hb dX10_write_0 rfl (lv_at hl 0 rfl) ?_
  refine lv_iload_n hx hb dX10_write_1 rfl (lv_at hl 1 rfl) ?_
  refine lv_iload_n hx hb dX10_write_2 rfl (lv_at hl 2 rfl) ?_
  obtain ⟨g1, h⟩ := h
  refine j_conti (va_runV (As := [.int (J a1), .int (J a2)]) (rest := []) ⟨hx, hb, hml, hown, hts⟩ (A_X10_ruleIndexFault l ka0 g1) (cwV 2 hts (gj_V ml_RX10_131 i_X10_ruleIndexFault s_X10_ruleIndexFault n_RX10 k_X10_ruleIndexFault) rfl rfl rfl (by decide +kernel) ⟨by exact Nat.le_of_ble_eq_true rfl, by exact Nat.le_of_ble_eq_true rfl⟩) (j_preV hK hSX hG (ci := 9) rfl ka0 (by decide)) rfl rfl hl.1 rfl (lv_room (Nat.le_of_ble_eq_true rfl)) dX10_write_3 ⟨by exact Nat.le_of_ble_eq_true rfl, by exact Nat.le_of_ble_eq_true rfl⟩) hG (c2 := 0) (s2 := 0) ⟨by exact Nat.le_of_ble_eq_true rfl, by exact Nat.le_of_ble_eq_true rfl⟩ (fun z2 M3 ez2 H locs hG => ?_)
  obtain ⟨ez2, eM3⟩ := ez2
  subst ez2
  rw [eM3] at hG
  refine j_contv (va_runS (As := [.int (J (pf_X10_ruleIndexFault M a0 a1 a2))]) (rest := []) ⟨hx, hb, hml, hown, hts⟩ (Ao_X10_refuse l h) (va_cwS 1 hts (gj_S ml_RX10_107 i_X10_refuse n_RX10 k_X10_refuse) rfl rfl rfl (by decide +kernel) ⟨by exact Nat.le_of_ble_eq_true rfl, by exact Nat.le_of_ble_eq_true rfl⟩) (j_preS hK hSX hG) rfl rfl hl.1 rfl (lv_room (Nat.le_of_ble_eq_true rfl)) dX10_write_6 ⟨by exact Nat.le_of_ble_eq_true rfl, by exact Nat.le_of_ble_eq_true rfl⟩) hG (c2 := 0) (s2 := 0) ⟨by exact Nat.le_of_ble_eq_true rfl, by exact Nat.le_of_ble_eq_true rfl⟩ (fun M5 h H locs hG => ?_)
  obtain ⟨h, eM5⟩ := h
  rw [eM5] at hG
  refine lv_aload_n hx hb dX10_write_9 rfl (lv_at hl 0 rfl) ?_
  refine j_getr hx hb hts hown hK hG (k := a0) (fun w h => List.mem_cons_of_mem _ (u_X10 w h)) (ci := 9) rfl ka0 6 (k2 := a0 + 604) (by decide) (by show a0 + (604 : Int) = a0 + 604; omega) w_fl_RX10_54 dX10_write_10 ?_
  refine lv_aload_n hx hb dX10_write_13 rfl (lv_at hl 0 rfl) ?_
  refine j_getr hx hb hts hown hK hG (k := a0) (fun w h => List.mem_cons_of_mem _ (u_X10 w h)) (ci := 9) rfl ka0 0 (k2 := a0 + 1) (by decide) (by show a0 + (1 : Int) = a0 + 1; omega) w_fl_RX10_12 dX10_write_14 ?_
  refine j_getr hx hb hts hown hK hG (k := a0 + 1) (fun w h => List.mem_cons_of_mem _ (u_X0 w h)) (ci := 0) rfl (kf_10_0 ka0) 2 (k2 := a0 + 2) (by decide) (by show (a0 + 1) + (1 : Int) = a0 + 2; omega) w_fl_RX10_140 dX10_write_17 ?_
  refine lv_iload_n hx hb dX10_write_20 rfl (lv_at hl 1 rfl) ?_
  obtain ⟨g6, h⟩ := h
  refine j_aald hx hb hK hG (t := 20) (t0 := 3) (k2 := a0 + 4 * a1 + 4) (show kd (a0 + 2) = 20 from (show (a0 + 1) + 1 = a0 + 2 from by omega) ▸ (kf_1_2 (kf_10_0 ka0))) (by decide) rfl g6 (by simp only [ra_20]; omega) dX10_write_21 ?_
  have k7 : kd (a0 + 4 * a1 + 4) = 9 := by have q9 := (ka_20 (show kd (a0 + 2) = 20 from (show (a0 + 1) + 1 = a0 + 2 from by omega) ▸ (kf_1_2 (kf_10_0 ka0))) g6); rwa [show (a0 + 2) + 2 + 4 * a1 = a0 + 4 * a1 + 4 from by omega] at q9
  refine lv_iload_n hx hb dX10_write_22 rfl (lv_at hl 2 rfl) ?_
  refine j_contv (va_runV (As := [.ref (rA o (a0 + 4 * a1 + 4)), .int (J a2)]) (rest := []) ⟨hx, hb, hml, hown, hts⟩ (A_X8_writeRule l (kf_10_6 ka0) k7 h) (cwV 2 hts (gj_V ml_RX10_421 i_X8_writeRule s_X8_writeRule n_RX8 k_X8_writeRule) rfl rfl rfl (by decide +kernel) ⟨by exact Nat.le_of_ble_eq_true rfl, by exact Nat.le_of_ble_eq_true rfl⟩) (j_preV hK hSX hG (ci := 7) rfl (kf_10_6 ka0) (by decide)) rfl rfl hl.1 rfl (lv_room (Nat.le_of_ble_eq_true rfl)) dX10_write_23 ⟨by exact Nat.le_of_ble_eq_true rfl, by exact Nat.le_of_ble_eq_true rfl⟩) hG (c2 := 0) (s2 := 0) ⟨by exact Nat.le_of_ble_eq_true rfl, by exact Nat.le_of_ble_eq_true rfl⟩ (fun M9 h H locs hG => ?_)
  refine lv_aload_n hx hb dX10_write_26 rfl (lv_at hl 0 rfl) ?_
  refine j_getr hx hb hts hown hK hG (k := a0) (fun w h => List.mem_cons_of_mem _ (u_X10 w h)) (ci := 9) rfl ka0 6 (k2 := a0 + 604) (by decide) (by show a0 + (604 : Int) = a0 + 604; omega) w_fl_RX10_54 dX10_write_27 ?_
  refine j_geti hx hb hts hown hK hG (k := a0 + 604) (fun w h => List.mem_cons_of_mem _ (u_X8 w h)) (ci := 7) rfl (kf_10_6 ka0) 0 (by decide) (jz := 0) rfl w_fl_RX10_425 dX10_write_30 ?_
  rw [hQf]
  exact j_ireti hx hb hr hlocks hG h (by decide) dX10_write_33
abbrev rm_X10_write : Room := { frames := 8, cells := 1, slots := 6, locals := 130 }
set_option maxRecDepth 100000 in
set_option maxHeartbeats 4000000 in
theorem A_X10_write (l : Launch) (hst : l.stackTraces = false) {D : va_G} {cy : Nat → ClassId} {o : Nat} {sK sV : Nat → Nat} {M : jT} {a0 : Int} {a1 : Int} {a2 : Int} (ka0 : kd a0 = 10) {Q : Int → jT → Prop} {X : Nat → jT → Prop} (h : wp_X10_write M a0 a1 a2 Q X) : CxI l yX10_write (wj yX10_write cX10_write 3 (some .int)) rm_X10_write D cy o sK sV M [.ref (rA o a0), .int (J a1), .int (J a2)] Q X := by
  refine j_ofWx (cc := cX10_write) (maxL := 3) (ret := (some .int)) (by decide) rfl (Nat.le_of_ble_eq_true rfl) ?_
  intro p e s m args below meth c hx hb hr hlocks hout hml hown hts hK hSX H locs hsz hG ls hl Qf hQf
  have hown : s.vm.findClass RX10 = some m.cls := hown
  have hl : lv_has ls 3 [(0, .ref (rA o a0)), (1, .int (J a1)), (2, .int (J a2))] := hl
  have w_fl_RX10_54 := hts _ (List.mem_cons_of_mem _ fl_RX10_54)
  have w_fl_RX10_12 := hts _ (List.mem_cons_of_mem _ fl_RX10_12)
  have w_fl_RX10_140 := hts _ (List.mem_cons_of_mem _ fl_RX10_140)
  have w_fl_RX10_425 := hts _ (List.mem_cons_of_mem _ fl_RX10_425)
  unfold wp_X10_write at h
  refine lv_aload_n hx hb dX10_write_0 rfl (lv_at hl 0 rfl) ?_
  refine lv_iload_n hx hb dX10_write_1 rfl (lv_at hl 1 rfl) ?_
  refine lv_iload_n hx hb dX10_write_2 rfl (lv_at hl 2 rfl) ?_
  obtain ⟨g1, h⟩ := h
  refine j_conti (va_runV (As := [.int (J a1), .int (J a2)]) (rest := []) ⟨hx, hb, hml, hown, hts⟩ (A_X10_ruleIndexFault l ka0 g1) (cwV 2 hts (gj_V ml_RX10_131 i_X10_ruleIndexFault s_X10_ruleIndexFault n_RX10 k_X10_ruleIndexFault) rfl rfl rfl (by decide +kernel) ⟨by exact Nat.le_of_ble_eq_true rfl, by exact Nat.le_of_ble_eq_true rfl⟩) (j_preV hK hSX hG (ci := 9) rfl ka0 (by decide)) rfl rfl hl.1 rfl (lv_room (Nat.le_of_ble_eq_true rfl)) dX10_write_3 ⟨by exact Nat.le_of_ble_eq_true rfl, by exact Nat.le_of_ble_eq_true rfl⟩) hG (c2 := 0) (s2 := 0) ⟨by exact Nat.le_of_ble_eq_true rfl, by exact Nat.le_of_ble_eq_true rfl⟩ (fun z2 M3 ez2 H locs hG => ?_)
  obtain ⟨ez2, eM3⟩ := ez2
  subst ez2
  rw [eM3] at hG
  rcases h with h | h
  · refine j_contv (va_runS (As := [.int (J (pf_X10_ruleIndexFault M a0 a1 a2))]) (rest := []) ⟨hx, hb, hml, hown, hts⟩ (Ao_X10_refuse l h) (va_cwS 1 hts (gj_S ml_RX10_107 i_X10_refuse n_RX10 k_X10_refuse) rfl rfl rfl (by decide +kernel) ⟨by exact Nat.le_of_ble_eq_true rfl, by exact Nat.le_of_ble_eq_true rfl⟩) (j_preS hK hSX hG) rfl rfl hl.1 rfl (lv_room (Nat.le_of_ble_eq_true rfl)) dX10_write_6 ⟨by exact Nat.le_of_ble_eq_true rfl, by exact Nat.le_of_ble_eq_true rfl⟩) hG (c2 := 0) (s2 := 0) ⟨by exact Nat.le_of_ble_eq_true rfl, by exact Nat.le_of_ble_eq_true rfl⟩ (fun M5 h H locs hG => ?_)
    obtain ⟨h, eM5⟩ := h
    rw [eM5] at hG
    refine lv_aload_n hx hb dX10_write_9 rfl (lv_at hl 0 rfl) ?_
    refine j_getr hx hb hts hown hK hG (k := a0) (fun w h => List.mem_cons_of_mem _ (u_X10 w h)) (ci := 9) rfl ka0 6 (k2 := a0 + 604) (by decide) (by show a0 + (604 : Int) = a0 + 604; omega) w_fl_RX10_54 dX10_write_10 ?_
    refine lv_aload_n hx hb dX10_write_13 rfl (lv_at hl 0 rfl) ?_
    refine j_getr hx hb hts hown hK hG (k := a0) (fun w h => List.mem_cons_of_mem _ (u_X10 w h)) (ci := 9) rfl ka0 0 (k2 := a0 + 1) (by decide) (by show a0 + (1 : Int) = a0 + 1; omega) w_fl_RX10_12 dX10_write_14 ?_
    refine j_getr hx hb hts hown hK hG (k := a0 + 1) (fun w h => List.mem_cons_of_mem _ (u_X0 w h)) (ci := 0) rfl (kf_10_0 ka0) 2 (k2 := a0 + 2) (by decide) (by show (a0 + 1) + (1 : Int) = a0 + 2; omega) w_fl_RX10_140 dX10_write_17 ?_
    refine lv_iload_n hx hb dX10_write_20 rfl (lv_at hl 1 rfl) ?_
    obtain ⟨g6, h⟩ := h
    refine j_aald hx hb hK hG (t := 20) (t0 := 3) (k2 := a0 + 4 * a1 + 4) (show kd (a0 + 2) = 20 from (show (a0 + 1) + 1 = a0 + 2 from by omega) ▸ (kf_1_2 (kf_10_0 ka0))) (by decide) rfl g6 (by simp only [ra_20]; omega) dX10_write_21 ?_
    have k7 : kd (a0 + 4 * a1 + 4) = 9 := by have q9 := (ka_20 (show kd (a0 + 2) = 20 from (show (a0 + 1) + 1 = a0 + 2 from by omega) ▸ (kf_1_2 (kf_10_0 ka0))) g6); rwa [show (a0 + 2) + 2 + 4 * a1 = a0 + 4 * a1 + 4 from by omega] at q9
    refine lv_iload_n hx hb dX10_write_22 rfl (lv_at hl 2 rfl) ?_
    refine j_contv (va_runV (As := [.ref (rA o (a0 + 4 * a1 + 4)), .int (J a2)]) (rest := []) ⟨hx, hb, hml, hown, hts⟩ (A_X8_writeRule l (kf_10_6 ka0) k7 h) (cwV 2 hts (gj_V ml_RX10_421 i_X8_writeRule s_X8_writeRule n_RX8 k_X8_writeRule) rfl rfl rfl (by decide +kernel) ⟨by exact Nat.le_of_ble_eq_true rfl, by exact Nat.le_of_ble_eq_true rfl⟩) (j_preV hK hSX hG (ci := 7) rfl (kf_10_6 ka0) (by decide)) rfl rfl hl.1 rfl (lv_room (Nat.le_of_ble_eq_true rfl)) dX10_write_23 ⟨by exact Nat.le_of_ble_eq_true rfl, by exact Nat.le_of_ble_eq_true rfl⟩) hG (c2 := 0) (s2 := 0) ⟨by exact Nat.le_of_ble_eq_true rfl, by exact Nat.le_of_ble_eq_true rfl⟩ (fun M9 h H locs hG => ?_)
    refine lv_aload_n hx hb dX10_write_26 rfl (lv_at hl 0 rfl) ?_
    refine j_getr hx hb hts hown hK hG (k := a0) (fun w h => List.mem_cons_of_mem _ (u_X10 w h)) (ci := 9) rfl ka0 6 (k2 := a0 + 604) (by decide) (by show a0 + (604 : Int) = a0 + 604; omega) w_fl_RX10_54 dX10_write_27 ?_
    refine j_geti hx hb hts hown hK hG (k := a0 + 604) (fun w h => List.mem_cons_of_mem _ (u_X8 w h)) (ci := 7) rfl (kf_10_6 ka0) 0 (by decide) (jz := 0) rfl w_fl_RX10_425 dX10_write_30 ?_
    rw [hQf]
    exact vx_ret (j_ireti hx hb hr hlocks hG h (by decide) dX10_write_33)
  · refine j_contxv (vx_runS (As := [.int (J (pf_X10_ruleIndexFault M a0 a1 a2))]) (rest := []) ⟨hx, hb, hml, hown, hts⟩ (A_X10_refuse l hst h) (va_cwS 1 hts (gj_S ml_RX10_107 i_X10_refuse n_RX10 k_X10_refuse) rfl rfl rfl (by decide +kernel) ⟨by exact Nat.le_of_ble_eq_true rfl, by exact Nat.le_of_ble_eq_true rfl⟩) (j_preS hK hSX hG) rfl rfl hl.1 rfl (lv_room (Nat.le_of_ble_eq_true rfl)) dX10_write_6 ⟨by exact Nat.le_of_ble_eq_true rfl, by exact Nat.le_of_ble_eq_true rfl⟩) hG (c2 := 1) (s2 := 6) ⟨by exact Nat.le_of_ble_eq_true rfl, by exact Nat.le_of_ble_eq_true rfl⟩ (fun x M h ce q H locs hG h1 h2 h3 => ?_) (fun M h H locs hG => h.elim)
    rw [hQf]
    exact j_xout hlocks hout hG h h1 h2 h3 (by decide)

abbrev rom_X10_character : Room := { frames := 1, cells := 0, slots := 0, locals := 20 }
set_option maxRecDepth 100000 in
set_option maxHeartbeats 4000000 in
theorem Ao_X10_character (l : Launch) {D : va_G} {cy : Nat → ClassId} {o : Nat} {sK sV : Nat → Nat} {M : jT} {a0 : Int} {a1 : Int} (ka0 : kd a0 = 10) {Q : Int → Prop} (h : wo_X10_character M a0 a1 Q) : CoI l yX10_character (wj yX10_character cX10_character 2 (some .char)) rom_X10_character D cy o sK sV M [.ref (rA o a0), .int (J a1)] (fun z M9 => Q z ∧ M9 = M) := by
  refine j_ofW (cc := cX10_character) (maxL := 2) (ret := (some .char)) (by decide) rfl (Nat.le_of_ble_eq_true rfl) ?_
  intro p e s m args below meth c hx hb hr hlocks hml hown hts hK hSX H locs hG ls hl Qf hQf
  have hown : s.vm.findClass RX10 = some m.cls := hown
  have hl : lv_has ls 2 [(0, .ref (rA o a0)), (1, .int (J a1))] := hl
  have w_fl_RX10_54 := hts _ (List.mem_cons_of_mem _ fl_RX10_54)
  have w_fl_RX10_425 := hts _ (List.mem_cons_of_mem _ fl_RX10_425)
  have w_fl_RX10_426 := hts _ (List.mem_cons_of_mem _ fl_RX10_426)
  unfold wo_X10_character at h
  refine lv_iload_n hx hb dX10_character_0 rfl (lv_at hl 1 rfl) ?_
  obtain ⟨K11, hK11, h⟩ := h
  have jK11 : ∀ (x10 : Int), K11 x10 → ∀ (H : Heap) (locs : List Loc), GM D cy o M s.heap H locs → ∀ ls : Array Slot, lv_has ls 2 [(0, .ref (rA o a0)), (1, .int (J a1))] → W p l e rom_X10_character s m args below meth c H locs 0 0 Qf (F0 m 20 ls [.int (J x10)]) := by
    intro x10 hcK11 H locs hG ls hl
    have h := hK11 x10 hcK11
    refine j_contv (va_runS (As := [.int (J x10)]) (rest := []) ⟨hx, hb, hml, hown, hts⟩ (Ao_X10_needIndex l h) (va_cwS 1 hts (gj_S ml_RX10_88 i_X10_needIndex n_RX10 k_X10_needIndex) rfl rfl rfl (by decide +kernel) ⟨by exact Nat.le_of_ble_eq_true rfl, by exact Nat.le_of_ble_eq_true rfl⟩) (j_preS hK hSX hG) rfl rfl hl.1 rfl (lv_room (Nat.le_of_ble_eq_true rfl)) dX10_character_20 ⟨by exact Nat.le_of_ble_eq_true rfl, by exact Nat.le_of_ble_eq_true rfl⟩) hG (c2 := 0) (s2 := 0) ⟨by exact Nat.le_of_ble_eq_true rfl, by exact Nat.le_of_ble_eq_true rfl⟩ (fun M13 h H locs hG => ?_)
    obtain ⟨h, eM13⟩ := h
    rw [eM13] at hG
    refine lv_aload_n hx hb dX10_character_23 rfl (lv_at hl 0 rfl) ?_
    refine j_getr hx hb hts hown hK hG (k := a0) (fun w h => List.mem_cons_of_mem _ (u_X10 w h)) (ci := 9) rfl ka0 6 (k2 := a0 + 604) (by decide) (by show a0 + (604 : Int) = a0 + 604; omega) w_fl_RX10_54 dX10_character_24 ?_
    refine j_getr hx hb hts hown hK hG (k := a0 + 604) (fun w h => List.mem_cons_of_mem _ (u_X8 w h)) (ci := 7) rfl (kf_10_6 ka0) 1 (k2 := a0 + 605) (by decide) (by show (a0 + 604) + (1 : Int) = a0 + 605; omega) w_fl_RX10_426 dX10_character_27 ?_
    refine lv_iload_n hx hb dX10_character_30 rfl (lv_at hl 1 rfl) ?_
    obtain ⟨g14, h⟩ := h
    refine j_cald hx hb hK hG (n := 60) (show kd (a0 + 605) = 200060 from (show (a0 + 604) + 1 = a0 + 605 from by omega) ▸ (kf_8_1 (kf_10_6 ka0))) (by decide) g14 dX10_character_31 ?_
    obtain ⟨g15, h⟩ := h
    rw [hQf]
    exact j_iretn hx hb hr hlocks (nar_c g15) hG ⟨h, rfl⟩ (by decide) dX10_character_32
  obtain ⟨K20, hK20, h⟩ := h
  have jK20 : K20 → ∀ (H : Heap) (locs : List Loc), GM D cy o M s.heap H locs → ∀ ls : Array Slot, lv_has ls 2 [(0, .ref (rA o a0)), (1, .int (J a1))] → W p l e rom_X10_character s m args below meth c H locs 0 0 Qf (F0 m 19 ls []) := by
    intro hcK20 H locs hG ls hl
    have h := hK20 hcK20
    refine lv_iconst (v := J 0) hx hb dX10_character_19 (by decide) ?_
    exact jK11 0 h H locs hG ls (lv_sub hl [0, 1] rfl)
  obtain ⟨g22, h⟩ := h
  refine j_if_lt (tgt := 19) hx hb dX10_character_1 (by decide) g22 (fun c21 => ?_) (fun c21 => ?_)
  · have h := h.1 c21
    exact jK20 h H locs hG ls (lv_sub hl [0, 1] rfl)
  · have h := h.2 c21
    refine lv_iload_n hx hb dX10_character_4 rfl (lv_at hl 1 rfl) ?_
    refine lv_aload_n hx hb dX10_character_5 rfl (lv_at hl 0 rfl) ?_
    refine j_getr hx hb hts hown hK hG (k := a0) (fun w h => List.mem_cons_of_mem _ (u_X10 w h)) (ci := 9) rfl ka0 6 (k2 := a0 + 604) (by decide) (by show a0 + (604 : Int) = a0 + 604; omega) w_fl_RX10_54 dX10_character_6 ?_
    refine j_geti hx hb hts hown hK hG (k := a0 + 604) (fun w h => List.mem_cons_of_mem _ (u_X8 w h)) (ci := 7) rfl (kf_10_6 ka0) 0 (by decide) (jz := 0) rfl w_fl_RX10_425 dX10_character_9 ?_
    obtain ⟨g24, h⟩ := h
    refine j_icmp_ge (tgt := 19) hx hb dX10_character_12 (by decide) g22 g24 (fun c23 => ?_) (fun c23 => ?_)
    · have h := h.1 c23
      exact jK20 h H locs hG ls (lv_sub hl [0, 1] rfl)
    · have h := h.2 c23
      refine lv_iconst (v := J 1) hx hb dX10_character_15 (by decide) ?_
      refine lv_goto (tgt := 20) hx hb dX10_character_16 (by decide) ?_
      exact jK11 1 h H locs hG ls (lv_sub hl [0, 1] rfl)
abbrev rm_X10_character : Room := { frames := 7, cells := 1, slots := 6, locals := 110 }
set_option maxRecDepth 100000 in
set_option maxHeartbeats 4000000 in
theorem A_X10_character (l : Launch) (hst : l.stackTraces = false) {D : va_G} {cy : Nat → ClassId} {o : Nat} {sK sV : Nat → Nat} {M : jT} {a0 : Int} {a1 : Int} (ka0 : kd a0 = 10) {Q : Int → jT → Prop} {X : Nat → jT → Prop} (h : wp_X10_character M a0 a1 Q X) : CxI l yX10_character (wj yX10_character cX10_character 2 (some .char)) rm_X10_character D cy o sK sV M [.ref (rA o a0), .int (J a1)] Q X := by
  refine j_ofWx (cc := cX10_character) (maxL := 2) (ret := (some .char)) (by decide) rfl (Nat.le_of_ble_eq_true rfl) ?_
  intro p e s m args below meth c hx hb hr hlocks hout hml hown hts hK hSX H locs hsz hG ls hl Qf hQf
  have hown : s.vm.findClass RX10 = some m.cls := hown
  have hl : lv_has ls 2 [(0, .ref (rA o a0)), (1, .int (J a1))] := hl
  have w_fl_RX10_54 := hts _ (List.mem_cons_of_mem _ fl_RX10_54)
  have w_fl_RX10_425 := hts _ (List.mem_cons_of_mem _ fl_RX10_425)
  have w_fl_RX10_426 := hts _ (List.mem_cons_of_mem _ fl_RX10_426)
  unfold wp_X10_character at h
  refine lv_iload_n hx hb dX10_character_0 rfl (lv_at hl 1 rfl) ?_
  obtain ⟨K11, hK11, h⟩ := h
  have jK11 : ∀ (x10 : Int), K11 x10 → ∀ (H : Heap) (locs : List Loc), GM D cy o M s.heap H locs → ∀ ls : Array Slot, lv_has ls 2 [(0, .ref (rA o a0)), (1, .int (J a1))] → W p l e rm_X10_character s m args below meth c H locs 0 0 Qf (F0 m 20 ls [.int (J x10)]) := by
    intro x10 hcK11 H locs hG ls hl
    have h := hK11 x10 hcK11
    rcases h with h | h
    · refine j_contv (va_runS (As := [.int (J x10)]) (rest := []) ⟨hx, hb, hml, hown, hts⟩ (Ao_X10_needIndex l h) (va_cwS 1 hts (gj_S ml_RX10_88 i_X10_needIndex n_RX10 k_X10_needIndex) rfl rfl rfl (by decide +kernel) ⟨by exact Nat.le_of_ble_eq_true rfl, by exact Nat.le_of_ble_eq_true rfl⟩) (j_preS hK hSX hG) rfl rfl hl.1 rfl (lv_room (Nat.le_of_ble_eq_true rfl)) dX10_character_20 ⟨by exact Nat.le_of_ble_eq_true rfl, by exact Nat.le_of_ble_eq_true rfl⟩) hG (c2 := 0) (s2 := 0) ⟨by exact Nat.le_of_ble_eq_true rfl, by exact Nat.le_of_ble_eq_true rfl⟩ (fun M13 h H locs hG => ?_)
      obtain ⟨h, eM13⟩ := h
      rw [eM13] at hG
      refine lv_aload_n hx hb dX10_character_23 rfl (lv_at hl 0 rfl) ?_
      refine j_getr hx hb hts hown hK hG (k := a0) (fun w h => List.mem_cons_of_mem _ (u_X10 w h)) (ci := 9) rfl ka0 6 (k2 := a0 + 604) (by decide) (by show a0 + (604 : Int) = a0 + 604; omega) w_fl_RX10_54 dX10_character_24 ?_
      refine j_getr hx hb hts hown hK hG (k := a0 + 604) (fun w h => List.mem_cons_of_mem _ (u_X8 w h)) (ci := 7) rfl (kf_10_6 ka0) 1 (k2 := a0 + 605) (by decide) (by show (a0 + 604) + (1 : Int) = a0 + 605; omega) w_fl_RX10_426 dX10_character_27 ?_
      refine lv_iload_n hx hb dX10_character_30 rfl (lv_at hl 1 rfl) ?_
      obtain ⟨g14, h⟩ := h
      refine j_cald hx hb hK hG (n := 60) (show kd (a0 + 605) = 200060 from (show (a0 + 604) + 1 = a0 + 605 from by omega) ▸ (kf_8_1 (kf_10_6 ka0))) (by decide) g14 dX10_character_31 ?_
      obtain ⟨g15, h⟩ := h
      rw [hQf]
      exact vx_ret (j_iretn hx hb hr hlocks (nar_c g15) hG h (by decide) dX10_character_32)
    · refine j_contxv (vx_runS (As := [.int (J x10)]) (rest := []) ⟨hx, hb, hml, hown, hts⟩ (A_X10_needIndex l hst h) (va_cwS 1 hts (gj_S ml_RX10_88 i_X10_needIndex n_RX10 k_X10_needIndex) rfl rfl rfl (by decide +kernel) ⟨by exact Nat.le_of_ble_eq_true rfl, by exact Nat.le_of_ble_eq_true rfl⟩) (j_preS hK hSX hG) rfl rfl hl.1 rfl (lv_room (Nat.le_of_ble_eq_true rfl)) dX10_character_20 ⟨by exact Nat.le_of_ble_eq_true rfl, by exact Nat.le_of_ble_eq_true rfl⟩) hG (c2 := 1) (s2 := 6) ⟨by exact Nat.le_of_ble_eq_true rfl, by exact Nat.le_of_ble_eq_true rfl⟩ (fun x M h ce q H locs hG h1 h2 h3 => ?_) (fun M h H locs hG => h.elim)
      rw [hQf]
      exact j_xout hlocks hout hG h h1 h2 h3 (by decide)
  obtain ⟨K20, hK20, h⟩ := h
  have jK20 : K20 → ∀ (H : Heap) (locs : List Loc), GM D cy o M s.heap H locs → ∀ ls : Array Slot, lv_has ls 2 [(0, .ref (rA o a0)), (1, .int (J a1))] → W p l e rm_X10_character s m args below meth c H locs 0 0 Qf (F0 m 19 ls []) := by
    intro hcK20 H locs hG ls hl
    have h := hK20 hcK20
    refine lv_iconst (v := J 0) hx hb dX10_character_19 (by decide) ?_
    exact jK11 0 h H locs hG ls (lv_sub hl [0, 1] rfl)
  obtain ⟨g22, h⟩ := h
  refine j_if_lt (tgt := 19) hx hb dX10_character_1 (by decide) g22 (fun c21 => ?_) (fun c21 => ?_)
  · have h := h.1 c21
    exact jK20 h H locs hG ls (lv_sub hl [0, 1] rfl)
  · have h := h.2 c21
    refine lv_iload_n hx hb dX10_character_4 rfl (lv_at hl 1 rfl) ?_
    refine lv_aload_n hx hb dX10_character_5 rfl (lv_at hl 0 rfl) ?_
    refine j_getr hx hb hts hown hK hG (k := a0) (fun w h => List.mem_cons_of_mem _ (u_X10 w h)) (ci := 9) rfl ka0 6 (k2 := a0 + 604) (by decide) (by show a0 + (604 : Int) = a0 + 604; omega) w_fl_RX10_54 dX10_character_6 ?_
    refine j_geti hx hb hts hown hK hG (k := a0 + 604) (fun w h => List.mem_cons_of_mem _ (u_X8 w h)) (ci := 7) rfl (kf_10_6 ka0) 0 (by decide) (jz := 0) rfl w_fl_RX10_425 dX10_character_9 ?_
    obtain ⟨g24, h⟩ := h
    refine j_icmp_ge (tgt := 19) hx hb dX10_character_12 (by decide) g22 g24 (fun c23 => ?_) (fun c23 => ?_)
    · have h := h.1 c23
      exact jK20 h H locs hG ls (lv_sub hl [0, 1] rfl)
    · have h := h.2 c23
      refine lv_iconst (v := J 1) hx hb dX10_character_15 (by decide) ?_
      refine lv_goto (tgt := 20) hx hb dX10_character_16 (by decide) ?_
      exact jK11 1 h H locs hG ls (lv_sub hl [0, 1] rfl)

abbrev rm_X3_pop : Room := { frames := 3, cells := 0, slots := 0, locals := 103 }
set_option maxRecDepth 100000 in
set_option maxHeartbeats 4000000 in
theorem A_X3_pop (l : Launch) {D : va_G} {cy : Nat → ClassId} {o : Nat} {sK sV : Nat → Nat} {M : jT} {a0 : Int} {a1 : Int} (ka0 : kd a0 = 3) (ka1 : kd a1 = 1) {Q : jT → Prop} (h : wp_X3_pop M a0 a1 Q) : CoV l yX3_pop (wj yX3_pop cX3_pop 2 none) rm_X3_pop D cy o sK sV M [.ref (rA o a0), .ref (rA o a1)] Q := by
  refine j_ofW (cc := cX3_pop) (maxL := 2) (ret := none) (by decide) rfl (Nat.le_of_ble_eq_true rfl) ?_
  intro p e s m args below meth c hx hb hr hlocks hml hown hts hK hSX H locs hG ls hl Qf hQf
  have hown : s.vm.findClass RX3 = some m.cls := hown
  have hl : lv_has ls 2 [(0, .ref (rA o a0)), (1, .ref (rA o a1))] := hl
  have w_fl_RX3_22 := hts _ (List.mem_cons_of_mem _ fl_RX3_22)
  have w_fl_RX3_18 := hts _ (List.mem_cons_of_mem _ fl_RX3_18)
  have w_fl_RX3_30 := hts _ (List.mem_cons_of_mem _ fl_RX3_30)
  unfold wp_X3_pop at h
  refine lv_aload_n hx hb dX3_pop_0 rfl (lv_at hl 0 rfl) ?_
  refine lv_aload_n hx hb dX3_pop_1 rfl (lv_at hl 0 rfl) ?_
  refine j_geti hx hb hts hown hK hG (k := a0) (fun w h => List.mem_cons_of_mem _ (u_X3 w h)) (ci := 2) rfl ka0 3 (by decide) (jz := 3) rfl w_fl_RX3_22 dX3_pop_2 ?_
  refine lv_bipush (v := J 8) hx hb dX3_pop_5 (by decide) ?_
  refine j_iadd hx hb dX3_pop_7 ?_
  refine lv_bipush (v := J 9) hx hb dX3_pop_8 (by decide) ?_
  obtain ⟨g1, h⟩ := h
  refine j_irem hx hb dX3_pop_10 g1 (by decide) ?_
  refine j_puti hx hb hts hown hK hG (k := a0) (fun w h => List.mem_cons_of_mem _ (u_X3 w h)) tyX3 tyX3_ok nmX3 (ci := 2) rfl ka0 3 (by decide) (jz := 3) rfl w_fl_RX3_22 (hd := rfl) (hn := rfl) (hfit := rfl) (hdg := dX3_pop_11) (fun M2 eM2 H locs hG => ?_)
  have h := h M2 eM2
  refine lv_aload_n hx hb dX3_pop_14 rfl (lv_at hl 1 rfl) ?_
  refine lv_aload_n hx hb dX3_pop_15 rfl (lv_at hl 0 rfl) ?_
  refine j_getr hx hb hts hown hK hG (k := a0) (fun w h => List.mem_cons_of_mem _ (u_X3 w h)) (ci := 2) rfl ka0 4 (k2 := a0 + 48) (by decide) (by show a0 + (48 : Int) = a0 + 48; omega) w_fl_RX3_18 dX3_pop_16 ?_
  refine lv_aload_n hx hb dX3_pop_19 rfl (lv_at hl 0 rfl) ?_
  refine j_geti hx hb hts hown hK hG (k := a0) (fun w h => List.mem_cons_of_mem _ (u_X3 w h)) (ci := 2) rfl ka0 3 (by decide) (jz := 3) rfl w_fl_RX3_22 dX3_pop_20 ?_
  obtain ⟨g3, h⟩ := h
  refine j_aald hx hb hK hG (t := 22) (t0 := 5) (k2 := a0 + 47 * (M2 a0 3) + 49) (kf_3_4 ka0) (by decide) rfl g3 (by simp only [ra_22]; omega) dX3_pop_23 ?_
  have k4 : kd (a0 + 47 * (M2 a0 3) + 49) = 1 := by have q9 := (ka_22 (kf_3_4 ka0) g3); rwa [show (a0 + 48) + 1 + 47 * (M2 a0 3) = a0 + 47 * (M2 a0 3) + 49 from by omega] at q9
  refine j_contv (va_runV (As := [.ref (rA o (a0 + 47 * (M2 a0 3) + 49))]) (rest := []) ⟨hx, hb, hml, hown, hts⟩ (A_X0_copyFrom l ka1 k4 h) (cwV 1 hts (gj_V ml_RX3_26 i_X0_copyFrom s_X0_copyFrom n_RX0 k_X0_copyFrom) rfl rfl rfl (by decide +kernel) ⟨by exact Nat.le_of_ble_eq_true rfl, by exact Nat.le_of_ble_eq_true rfl⟩) (j_preV hK hSX hG (ci := 0) rfl ka1 (by decide)) rfl rfl hl.1 rfl (lv_room (Nat.le_of_ble_eq_true rfl)) dX3_pop_24 ⟨by exact Nat.le_of_ble_eq_true rfl, by exact Nat.le_of_ble_eq_true rfl⟩) hG (c2 := 0) (s2 := 0) ⟨by exact Nat.le_of_ble_eq_true rfl, by exact Nat.le_of_ble_eq_true rfl⟩ (fun M6 h H locs hG => ?_)
  refine lv_aload_n hx hb dX3_pop_27 rfl (lv_at hl 0 rfl) ?_
  refine lv_dup hx hb dX3_pop_28 rfl ?_
  refine j_geti hx hb hts hown hK hG (k := a0) (fun w h => List.mem_cons_of_mem _ (u_X3 w h)) (ci := 2) rfl ka0 0 (by decide) (jz := 0) rfl w_fl_RX3_30 dX3_pop_29 ?_
  refine lv_iconst (v := J 1) hx hb dX3_pop_32 (by decide) ?_
  refine j_isub hx hb dX3_pop_33 ?_
  refine j_puti hx hb hts hown hK hG (k := a0) (fun w h => List.mem_cons_of_mem _ (u_X3 w h)) tyX3 tyX3_ok nmX3 (ci := 2) rfl ka0 0 (by decide) (jz := 0) rfl w_fl_RX3_30 (hd := rfl) (hn := rfl) (hfit := rfl) (hdg := dX3_pop_34) (fun M7 eM7 H locs hG => ?_)
  have h := h M7 eM7
  rw [hQf]
  exact j_vret hx hb hr hlocks hG h (by decide) dX3_pop_37

abbrev rom_X10_undo : Room := { frames := 4, cells := 0, slots := 0, locals := 124 }
set_option maxRecDepth 100000 in
set_option maxHeartbeats 4000000 in
theorem Ao_X10_undo (l : Launch) {D : va_G} {cy : Nat → ClassId} {o : Nat} {sK sV : Nat → Nat} {M : jT} {a0 : Int} (ka0 : kd a0 = 10) {Q : Int → jT → Prop} (h : wo_X10_undo M a0 Q) : CoI l yX10_undo (wj yX10_undo cX10_undo 1 (some .int)) rom_X10_undo D cy o sK sV M [.ref (rA o a0)] Q := by
  refine j_ofW (cc := cX10_undo) (maxL := 1) (ret := (some .int)) (by decide) rfl (Nat.le_of_ble_eq_true rfl) ?_
  intro p e s m args below meth c hx hb hr hlocks hml hown hts hK hSX H locs hG ls hl Qf hQf
  have hown : s.vm.findClass RX10 = some m.cls := hown
  have hl : lv_has ls 1 [(0, .ref (rA o a0))] := hl
  have w_fl_RX10_19 := hts _ (List.mem_cons_of_mem _ fl_RX10_19)
  have w_fl_RX10_430 := hts _ (List.mem_cons_of_mem _ fl_RX10_430)
  have w_fl_RX10_12 := hts _ (List.mem_cons_of_mem _ fl_RX10_12)
  unfold wo_X10_undo at h
  refine lv_aload_n hx hb dX10_undo_0 rfl (lv_at hl 0 rfl) ?_
  refine j_getr hx hb hts hown hK hG (k := a0) (fun w h => List.mem_cons_of_mem _ (u_X10 w h)) (ci := 9) rfl ka0 1 (k2 := a0 + 48) (by decide) (by show a0 + (48 : Int) = a0 + 48; omega) w_fl_RX10_19 dX10_undo_1 ?_
  refine j_geti hx hb hts hown hK hG (k := a0 + 48) (fun w h => List.mem_cons_of_mem _ (u_X3 w h)) (ci := 2) rfl (kf_10_1 ka0) 0 (by decide) (jz := 0) rfl w_fl_RX10_430 dX10_undo_4 ?_
  obtain ⟨hg, h⟩ := h
  have jK4 : ∀ x3 : Int, (M (a0 + 48) 0 ≤ 0 → x3 = 3) → (0 < M (a0 + 48) 0 → x3 = 0) → ∀ (H : Heap) (locs : List Loc), GM D cy o M s.heap H locs → ∀ ls : Array Slot, lv_has ls 1 [(0, .ref (rA o a0))] → W p l e rom_X10_undo s m args below meth c H locs 0 0 Qf (F0 m 15 ls [.int (J x3)]) := by
    intro x3 qx3_0 qx3_1 H locs hG ls hl
    have h := h x3 qx3_0 qx3_1
    refine j_contv (va_runS (As := [.int (J x3)]) (rest := []) ⟨hx, hb, hml, hown, hts⟩ (Ao_X10_refuse l h) (va_cwS 1 hts (gj_S ml_RX10_107 i_X10_refuse n_RX10 k_X10_refuse) rfl rfl rfl (by decide +kernel) ⟨by exact Nat.le_of_ble_eq_true rfl, by exact Nat.le_of_ble_eq_true rfl⟩) (j_preS hK hSX hG) rfl rfl hl.1 rfl (lv_room (Nat.le_of_ble_eq_true rfl)) dX10_undo_15 ⟨by exact Nat.le_of_ble_eq_true rfl, by exact Nat.le_of_ble_eq_true rfl⟩) hG (c2 := 0) (s2 := 0) ⟨by exact Nat.le_of_ble_eq_true rfl, by exact Nat.le_of_ble_eq_true rfl⟩ (fun M8 h H locs hG => ?_)
    obtain ⟨h, eM8⟩ := h
    rw [eM8] at hG
    refine lv_aload_n hx hb dX10_undo_18 rfl (lv_at hl 0 rfl) ?_
    refine j_getr hx hb hts hown hK hG (k := a0) (fun w h => List.mem_cons_of_mem _ (u_X10 w h)) (ci := 9) rfl ka0 1 (k2 := a0 + 48) (by decide) (by show a0 + (48 : Int) = a0 + 48; omega) w_fl_RX10_19 dX10_undo_19 ?_
    refine lv_aload_n hx hb dX10_undo_22 rfl (lv_at hl 0 rfl) ?_
    refine j_getr hx hb hts hown hK hG (k := a0) (fun w h => List.mem_cons_of_mem _ (u_X10 w h)) (ci := 9) rfl ka0 0 (k2 := a0 + 1) (by decide) (by show a0 + (1 : Int) = a0 + 1; omega) w_fl_RX10_12 dX10_undo_23 ?_
    refine j_contv (va_runV (As := [.ref (rA o (a0 + 1))]) (rest := []) ⟨hx, hb, hml, hown, hts⟩ (A_X3_pop l (kf_10_1 ka0) (kf_10_0 ka0) h) (cwV 1 hts (gj_V ml_RX10_431 i_X3_pop s_X3_pop n_RX3 k_X3_pop) rfl rfl rfl (by decide +kernel) ⟨by exact Nat.le_of_ble_eq_true rfl, by exact Nat.le_of_ble_eq_true rfl⟩) (j_preV hK hSX hG (ci := 2) rfl (kf_10_1 ka0) (by decide)) rfl rfl hl.1 rfl (lv_room (Nat.le_of_ble_eq_true rfl)) dX10_undo_26 ⟨by exact Nat.le_of_ble_eq_true rfl, by exact Nat.le_of_ble_eq_true rfl⟩) hG (c2 := 0) (s2 := 0) ⟨by exact Nat.le_of_ble_eq_true rfl, by exact Nat.le_of_ble_eq_true rfl⟩ (fun M10 h H locs hG => ?_)
    refine lv_aload_n hx hb dX10_undo_29 rfl (lv_at hl 0 rfl) ?_
    refine j_contv (va_runV (As := []) (rest := []) ⟨hx, hb, hml, hown, hts⟩ (A_X10_spoilAll l ka0 h) (cwV 0 hts (gj_V ml_RX10_408 i_X10_spoilAll s_X10_spoilAll n_RX10 k_X10_spoilAll) rfl rfl rfl (by decide +kernel) ⟨by exact Nat.le_of_ble_eq_true rfl, by exact Nat.le_of_ble_eq_true rfl⟩) (j_preV hK hSX hG (ci := 9) rfl ka0 (by decide)) rfl rfl hl.1 rfl (lv_room (Nat.le_of_ble_eq_true rfl)) dX10_undo_30 ⟨by exact Nat.le_of_ble_eq_true rfl, by exact Nat.le_of_ble_eq_true rfl⟩) hG (c2 := 0) (s2 := 0) ⟨by exact Nat.le_of_ble_eq_true rfl, by exact Nat.le_of_ble_eq_true rfl⟩ (fun M12 h H locs hG => ?_)
    refine lv_aload_n hx hb dX10_undo_33 rfl (lv_at hl 0 rfl) ?_
    refine j_getr hx hb hts hown hK hG (k := a0) (fun w h => List.mem_cons_of_mem _ (u_X10 w h)) (ci := 9) rfl ka0 1 (k2 := a0 + 48) (by decide) (by show a0 + (48 : Int) = a0 + 48; omega) w_fl_RX10_19 dX10_undo_34 ?_
    refine j_geti hx hb hts hown hK hG (k := a0 + 48) (fun w h => List.mem_cons_of_mem _ (u_X3 w h)) (ci := 2) rfl (kf_10_1 ka0) 0 (by decide) (jz := 0) rfl w_fl_RX10_430 dX10_undo_37 ?_
    rw [hQf]
    exact j_ireti hx hb hr hlocks hG h (by decide) dX10_undo_40
  have h := hg
  obtain ⟨g6, h⟩ := h
  refine j_if_le (tgt := 14) hx hb dX10_undo_7 (by decide) g6 (fun c5 => ?_) (fun c5 => ?_)
  · have h := h.1 c5
    refine lv_iconst (v := J 3) hx hb dX10_undo_14 (by decide) ?_
    exact jK4 3 (fun _ => rfl) (fun q => absurd q (by omega)) H locs hG ls (lv_sub hl [0] rfl)
  · have h := h.2 c5
    refine lv_iconst (v := J 0) hx hb dX10_undo_10 (by decide) ?_
    refine lv_goto (tgt := 15) hx hb dX10_undo_11 (by decide) ?_
    exact jK4 0 (fun q => absurd q (by omega)) (fun _ => rfl) H locs hG ls (lv_sub hl [0] rfl)
abbrev rm_X10_undo : Room := { frames := 8, cells := 1, slots := 6, locals := 130 }
set_option maxRecDepth 100000 in
set_option maxHeartbeats 4000000 in
theorem A_X10_undo (l : Launch) (hst : l.stackTraces = false) {D : va_G} {cy : Nat → ClassId} {o : Nat} {sK sV : Nat → Nat} {M : jT} {a0 : Int} (ka0 : kd a0 = 10) {Q : Int → jT → Prop} {X : Nat → jT → Prop} (h : wp_X10_undo M a0 Q X) : CxI l yX10_undo (wj yX10_undo cX10_undo 1 (some .int)) rm_X10_undo D cy o sK sV M [.ref (rA o a0)] Q X := by
  refine j_ofWx (cc := cX10_undo) (maxL := 1) (ret := (some .int)) (by decide) rfl (Nat.le_of_ble_eq_true rfl) ?_
  intro p e s m args below meth c hx hb hr hlocks hout hml hown hts hK hSX H locs hsz hG ls hl Qf hQf
  have hown : s.vm.findClass RX10 = some m.cls := hown
  have hl : lv_has ls 1 [(0, .ref (rA o a0))] := hl
  have w_fl_RX10_19 := hts _ (List.mem_cons_of_mem _ fl_RX10_19)
  have w_fl_RX10_430 := hts _ (List.mem_cons_of_mem _ fl_RX10_430)
  have w_fl_RX10_12 := hts _ (List.mem_cons_of_mem _ fl_RX10_12)
  unfold wp_X10_undo at h
  refine lv_aload_n hx hb dX10_undo_0 rfl (lv_at hl 0 rfl) ?_
  refine j_getr hx hb hts hown hK hG (k := a0) (fun w h => List.mem_cons_of_mem _ (u_X10 w h)) (ci := 9) rfl ka0 1 (k2 := a0 + 48) (by decide) (by show a0 + (48 : Int) = a0 + 48; omega) w_fl_RX10_19 dX10_undo_1 ?_
  refine j_geti hx hb hts hown hK hG (k := a0 + 48) (fun w h => List.mem_cons_of_mem _ (u_X3 w h)) (ci := 2) rfl (kf_10_1 ka0) 0 (by decide) (jz := 0) rfl w_fl_RX10_430 dX10_undo_4 ?_
  obtain ⟨hg, h⟩ := h
  have jK4 : ∀ x3 : Int, (M (a0 + 48) 0 ≤ 0 → x3 = 3) → (0 < M (a0 + 48) 0 → x3 = 0) → ∀ (H : Heap) (locs : List Loc), GM D cy o M s.heap H locs → ∀ ls : Array Slot, lv_has ls 1 [(0, .ref (rA o a0))] → W p l e rm_X10_undo s m args below meth c H locs 0 0 Qf (F0 m 15 ls [.int (J x3)]) := by
    intro x3 qx3_0 qx3_1 H locs hG ls hl
    have h := h x3 qx3_0 qx3_1
    rcases h with h | h
    · refine j_contv (va_runS (As := [.int (J x3)]) (rest := []) ⟨hx, hb, hml, hown, hts⟩ (Ao_X10_refuse l h) (va_cwS 1 hts (gj_S ml_RX10_107 i_X10_refuse n_RX10 k_X10_refuse) rfl rfl rfl (by decide +kernel) ⟨by exact Nat.le_of_ble_eq_true rfl, by exact Nat.le_of_ble_eq_true rfl⟩) (j_preS hK hSX hG) rfl rfl hl.1 rfl (lv_room (Nat.le_of_ble_eq_true rfl)) dX10_undo_15 ⟨by exact Nat.le_of_ble_eq_true rfl, by exact Nat.le_of_ble_eq_true rfl⟩) hG (c2 := 0) (s2 := 0) ⟨by exact Nat.le_of_ble_eq_true rfl, by exact Nat.le_of_ble_eq_true rfl⟩ (fun M8 h H locs hG => ?_)
      obtain ⟨h, eM8⟩ := h
      rw [eM8] at hG
      refine lv_aload_n hx hb dX10_undo_18 rfl (lv_at hl 0 rfl) ?_
      refine j_getr hx hb hts hown hK hG (k := a0) (fun w h => List.mem_cons_of_mem _ (u_X10 w h)) (ci := 9) rfl ka0 1 (k2 := a0 + 48) (by decide) (by show a0 + (48 : Int) = a0 + 48; omega) w_fl_RX10_19 dX10_undo_19 ?_
      refine lv_aload_n hx hb dX10_undo_22 rfl (lv_at hl 0 rfl) ?_
      refine j_getr hx hb hts hown hK hG (k := a0) (fun w h => List.mem_cons_of_mem _ (u_X10 w h)) (ci := 9) rfl ka0 0 (k2 := a0 + 1) (by decide) (by show a0 + (1 : Int) = a0 + 1; omega) w_fl_RX10_12 dX10_undo_23 ?_
      refine j_contv (va_runV (As := [.ref (rA o (a0 + 1))]) (rest := []) ⟨hx, hb, hml, hown, hts⟩ (A_X3_pop l (kf_10_1 ka0) (kf_10_0 ka0) h) (cwV 1 hts (gj_V ml_RX10_431 i_X3_pop s_X3_pop n_RX3 k_X3_pop) rfl rfl rfl (by decide +kernel) ⟨by exact Nat.le_of_ble_eq_true rfl, by exact Nat.le_of_ble_eq_true rfl⟩) (j_preV hK hSX hG (ci := 2) rfl (kf_10_1 ka0) (by decide)) rfl rfl hl.1 rfl (lv_room (Nat.le_of_ble_eq_true rfl)) dX10_undo_26 ⟨by exact Nat.le_of_ble_eq_true rfl, by exact Nat.le_of_ble_eq_true rfl⟩) hG (c2 := 0) (s2 := 0) ⟨by exact Nat.le_of_ble_eq_true rfl, by exact Nat.le_of_ble_eq_true rfl⟩ (fun M10 h H locs hG => ?_)
      refine lv_aload_n hx hb dX10_undo_29 rfl (lv_at hl 0 rfl) ?_
      refine j_contv (va_runV (As := []) (rest := []) ⟨hx, hb, hml, hown, hts⟩ (A_X10_spoilAll l ka0 h) (cwV 0 hts (gj_V ml_RX10_408 i_X10_spoilAll s_X10_spoilAll n_RX10 k_X10_spoilAll) rfl rfl rfl (by decide +kernel) ⟨by exact Nat.le_of_ble_eq_true rfl, by exact Nat.le_of_ble_eq_true rfl⟩) (j_preV hK hSX hG (ci := 9) rfl ka0 (by decide)) rfl rfl hl.1 rfl (lv_room (Nat.le_of_ble_eq_true rfl)) dX10_undo_30 ⟨by exact Nat.le_of_ble_eq_true rfl, by exact Nat.le_of_ble_eq_true rfl⟩) hG (c2 := 0) (s2 := 0) ⟨by exact Nat.le_of_ble_eq_true rfl, by exact Nat.le_of_ble_eq_true rfl⟩ (fun M12 h H locs hG => ?_)
      refine lv_aload_n hx hb dX10_undo_33 rfl (lv_at hl 0 rfl) ?_
      refine j_getr hx hb hts hown hK hG (k := a0) (fun w h => List.mem_cons_of_mem _ (u_X10 w h)) (ci := 9) rfl ka0 1 (k2 := a0 + 48) (by decide) (by show a0 + (48 : Int) = a0 + 48; omega) w_fl_RX10_19 dX10_undo_34 ?_
      refine j_geti hx hb hts hown hK hG (k := a0 + 48) (fun w h => List.mem_cons_of_mem _ (u_X3 w h)) (ci := 2) rfl (kf_10_1 ka0) 0 (by decide) (jz := 0) rfl w_fl_RX10_430 dX10_undo_37 ?_
      rw [hQf]
      exact vx_ret (j_ireti hx hb hr hlocks hG h (by decide) dX10_undo_40)
    · refine j_contxv (vx_runS (As := [.int (J x3)]) (rest := []) ⟨hx, hb, hml, hown, hts⟩ (A_X10_refuse l hst h) (va_cwS 1 hts (gj_S ml_RX10_107 i_X10_refuse n_RX10 k_X10_refuse) rfl rfl rfl (by decide +kernel) ⟨by exact Nat.le_of_ble_eq_true rfl, by exact Nat.le_of_ble_eq_true rfl⟩) (j_preS hK hSX hG) rfl rfl hl.1 rfl (lv_room (Nat.le_of_ble_eq_true rfl)) dX10_undo_15 ⟨by exact Nat.le_of_ble_eq_true rfl, by exact Nat.le_of_ble_eq_true rfl⟩) hG (c2 := 1) (s2 := 6) ⟨by exact Nat.le_of_ble_eq_true rfl, by exact Nat.le_of_ble_eq_true rfl⟩ (fun x M h ce q H locs hG h1 h2 h3 => ?_) (fun M h H locs hG => h.elim)
      rw [hQf]
      exact j_xout hlocks hout hG h h1 h2 h3 (by decide)
  have h := hg
  obtain ⟨g6, h⟩ := h
  refine j_if_le (tgt := 14) hx hb dX10_undo_7 (by decide) g6 (fun c5 => ?_) (fun c5 => ?_)
  · have h := h.1 c5
    refine lv_iconst (v := J 3) hx hb dX10_undo_14 (by decide) ?_
    exact jK4 3 (fun _ => rfl) (fun q => absurd q (by omega)) H locs hG ls (lv_sub hl [0] rfl)
  · have h := h.2 c5
    refine lv_iconst (v := J 0) hx hb dX10_undo_10 (by decide) ?_
    refine lv_goto (tgt := 15) hx hb dX10_undo_11 (by decide) ?_
    exact jK4 0 (fun q => absurd q (by omega)) (fun _ => rfl) H locs hG ls (lv_sub hl [0] rfl)

abbrev rm_X10_save : Room := { frames := 3, cells := 0, slots := 0, locals := 103 }
set_option maxRecDepth 100000 in
set_option maxHeartbeats 4000000 in
theorem A_X10_save (l : Launch) {D : va_G} {cy : Nat → ClassId} {o : Nat} {sK sV : Nat → Nat} {M : jT} {a0 : Int} (ka0 : kd a0 = 10) {Q : Int → jT → Prop} (h : wp_X10_save M a0 Q) : CoI l yX10_save (wj yX10_save cX10_save 1 (some .int)) rm_X10_save D cy o sK sV M [.ref (rA o a0)] Q := by
  refine j_ofW (cc := cX10_save) (maxL := 1) (ret := (some .int)) (by decide) rfl (Nat.le_of_ble_eq_true rfl) ?_
  intro p e s m args below meth c hx hb hr hlocks hml hown hts hK hSX H locs hG ls hl Qf hQf
  have hown : s.vm.findClass RX10 = some m.cls := hown
  have hl : lv_has ls 1 [(0, .ref (rA o a0))] := hl
  have w_fl_RX10_19 := hts _ (List.mem_cons_of_mem _ fl_RX10_19)
  have w_fl_RX10_434 := hts _ (List.mem_cons_of_mem _ fl_RX10_434)
  have w_fl_RX10_12 := hts _ (List.mem_cons_of_mem _ fl_RX10_12)
  have w_fl_RX10_440 := hts _ (List.mem_cons_of_mem _ fl_RX10_440)
  have w_fl_RX10_443 := hts _ (List.mem_cons_of_mem _ fl_RX10_443)
  unfold wp_X10_save at h
  refine lv_aload_n hx hb dX10_save_0 rfl (lv_at hl 0 rfl) ?_
  refine j_getr hx hb hts hown hK hG (k := a0) (fun w h => List.mem_cons_of_mem _ (u_X10 w h)) (ci := 9) rfl ka0 1 (k2 := a0 + 48) (by decide) (by show a0 + (48 : Int) = a0 + 48; omega) w_fl_RX10_19 dX10_save_1 ?_
  refine j_getr hx hb hts hown hK hG (k := a0 + 48) (fun w h => List.mem_cons_of_mem _ (u_X3 w h)) (ci := 2) rfl (kf_10_1 ka0) 2 (k2 := a0 + 49) (by decide) (by show (a0 + 48) + (1 : Int) = a0 + 49; omega) w_fl_RX10_434 dX10_save_4 ?_
  refine lv_aload_n hx hb dX10_save_7 rfl (lv_at hl 0 rfl) ?_
  refine j_getr hx hb hts hown hK hG (k := a0) (fun w h => List.mem_cons_of_mem _ (u_X10 w h)) (ci := 9) rfl ka0 0 (k2 := a0 + 1) (by decide) (by show a0 + (1 : Int) = a0 + 1; omega) w_fl_RX10_12 dX10_save_8 ?_
  refine j_contv (va_runV (As := [.ref (rA o (a0 + 1))]) (rest := []) ⟨hx, hb, hml, hown, hts⟩ (A_X0_copyFrom l (show kd (a0 + 49) = 1 from (show (a0 + 48) + 1 = a0 + 49 from by omega) ▸ (kf_3_2 (kf_10_1 ka0))) (kf_10_0 ka0) h) (cwV 1 hts (gj_V ml_RX10_437 i_X0_copyFrom s_X0_copyFrom n_RX0 k_X0_copyFrom) rfl rfl rfl (by decide +kernel) ⟨by exact Nat.le_of_ble_eq_true rfl, by exact Nat.le_of_ble_eq_true rfl⟩) (j_preV hK hSX hG (ci := 0) rfl (show kd (a0 + 49) = 1 from (show (a0 + 48) + 1 = a0 + 49 from by omega) ▸ (kf_3_2 (kf_10_1 ka0))) (by decide)) rfl rfl hl.1 rfl (lv_room (Nat.le_of_ble_eq_true rfl)) dX10_save_11 ⟨by exact Nat.le_of_ble_eq_true rfl, by exact Nat.le_of_ble_eq_true rfl⟩) hG (c2 := 0) (s2 := 0) ⟨by exact Nat.le_of_ble_eq_true rfl, by exact Nat.le_of_ble_eq_true rfl⟩ (fun M2 h H locs hG => ?_)
  refine lv_aload_n hx hb dX10_save_14 rfl (lv_at hl 0 rfl) ?_
  refine j_getr hx hb hts hown hK hG (k := a0) (fun w h => List.mem_cons_of_mem _ (u_X10 w h)) (ci := 9) rfl ka0 1 (k2 := a0 + 48) (by decide) (by show a0 + (48 : Int) = a0 + 48; omega) w_fl_RX10_19 dX10_save_15 ?_
  refine lv_iconst (v := J 1) hx hb dX10_save_18 (by decide) ?_
  refine j_puti hx hb hts hown hK hG (k := a0 + 48) (fun w h => List.mem_cons_of_mem _ (u_X3 w h)) tyX3 tyX3_ok nmX3 (ci := 2) rfl (kf_10_1 ka0) 1 (by decide) (jz := 1) rfl w_fl_RX10_440 (hd := rfl) (hn := nar_b (by decide)) (hfit := fit_b (by decide)) (hdg := dX10_save_19) (fun M3 eM3 H locs hG => ?_)
  have h := h M3 eM3
  refine lv_aload_n hx hb dX10_save_22 rfl (lv_at hl 0 rfl) ?_
  refine j_getr hx hb hts hown hK hG (k := a0) (fun w h => List.mem_cons_of_mem _ (u_X10 w h)) (ci := 9) rfl ka0 0 (k2 := a0 + 1) (by decide) (by show a0 + (1 : Int) = a0 + 1; omega) w_fl_RX10_12 dX10_save_23 ?_
  refine j_geti hx hb hts hown hK hG (k := a0 + 1) (fun w h => List.mem_cons_of_mem _ (u_X0 w h)) (ci := 0) rfl (kf_10_0 ka0) 0 (by decide) (jz := 0) rfl w_fl_RX10_443 dX10_save_26 ?_
  rw [hQf]
  exact j_ireti hx hb hr hlocks hG h (by decide) dX10_save_29

abbrev rom_X10_restore : Room := { frames := 3, cells := 0, slots := 0, locals := 103 }
set_option maxRecDepth 100000 in
set_option maxHeartbeats 4000000 in
theorem Ao_X10_restore (l : Launch) {D : va_G} {cy : Nat → ClassId} {o : Nat} {sK sV : Nat → Nat} {M : jT} {a0 : Int} (ka0 : kd a0 = 10) {Q : Int → jT → Prop} (h : wo_X10_restore M a0 Q) : CoI l yX10_restore (wj yX10_restore cX10_restore 1 (some .int)) rom_X10_restore D cy o sK sV M [.ref (rA o a0)] Q := by
  refine j_ofW (cc := cX10_restore) (maxL := 1) (ret := (some .int)) (by decide) rfl (Nat.le_of_ble_eq_true rfl) ?_
  intro p e s m args below meth c hx hb hr hlocks hml hown hts hK hSX H locs hG ls hl Qf hQf
  have hown : s.vm.findClass RX10 = some m.cls := hown
  have hl : lv_has ls 1 [(0, .ref (rA o a0))] := hl
  have w_fl_RX10_19 := hts _ (List.mem_cons_of_mem _ fl_RX10_19)
  have w_fl_RX10_440 := hts _ (List.mem_cons_of_mem _ fl_RX10_440)
  have w_fl_RX10_12 := hts _ (List.mem_cons_of_mem _ fl_RX10_12)
  have w_fl_RX10_434 := hts _ (List.mem_cons_of_mem _ fl_RX10_434)
  have w_fl_RX10_430 := hts _ (List.mem_cons_of_mem _ fl_RX10_430)
  have w_fl_RX10_443 := hts _ (List.mem_cons_of_mem _ fl_RX10_443)
  unfold wo_X10_restore at h
  refine lv_aload_n hx hb dX10_restore_0 rfl (lv_at hl 0 rfl) ?_
  refine j_getr hx hb hts hown hK hG (k := a0) (fun w h => List.mem_cons_of_mem _ (u_X10 w h)) (ci := 9) rfl ka0 1 (k2 := a0 + 48) (by decide) (by show a0 + (48 : Int) = a0 + 48; omega) w_fl_RX10_19 dX10_restore_1 ?_
  refine j_geti hx hb hts hown hK hG (k := a0 + 48) (fun w h => List.mem_cons_of_mem _ (u_X3 w h)) (ci := 2) rfl (kf_10_1 ka0) 1 (by decide) (jz := 1) rfl w_fl_RX10_440 dX10_restore_4 ?_
  obtain ⟨hg, h⟩ := h
  have jK4 : ∀ x3 : Int, (M (a0 + 48) 1 = 0 → x3 = 3) → (M (a0 + 48) 1 ≠ 0 → x3 = 0) → ∀ (H : Heap) (locs : List Loc), GM D cy o M s.heap H locs → ∀ ls : Array Slot, lv_has ls 1 [(0, .ref (rA o a0))] → W p l e rom_X10_restore s m args below meth c H locs 0 0 Qf (F0 m 15 ls [.int (J x3)]) := by
    intro x3 qx3_0 qx3_1 H locs hG ls hl
    have h := h x3 qx3_0 qx3_1
    refine j_contv (va_runS (As := [.int (J x3)]) (rest := []) ⟨hx, hb, hml, hown, hts⟩ (Ao_X10_refuse l h) (va_cwS 1 hts (gj_S ml_RX10_107 i_X10_refuse n_RX10 k_X10_refuse) rfl rfl rfl (by decide +kernel) ⟨by exact Nat.le_of_ble_eq_true rfl, by exact Nat.le_of_ble_eq_true rfl⟩) (j_preS hK hSX hG) rfl rfl hl.1 rfl (lv_room (Nat.le_of_ble_eq_true rfl)) dX10_restore_15 ⟨by exact Nat.le_of_ble_eq_true rfl, by exact Nat.le_of_ble_eq_true rfl⟩) hG (c2 := 0) (s2 := 0) ⟨by exact Nat.le_of_ble_eq_true rfl, by exact Nat.le_of_ble_eq_true rfl⟩ (fun M8 h H locs hG => ?_)
    obtain ⟨h, eM8⟩ := h
    rw [eM8] at hG
    refine lv_aload_n hx hb dX10_restore_18 rfl (lv_at hl 0 rfl) ?_
    refine j_getr hx hb hts hown hK hG (k := a0) (fun w h => List.mem_cons_of_mem _ (u_X10 w h)) (ci := 9) rfl ka0 0 (k2 := a0 + 1) (by decide) (by show a0 + (1 : Int) = a0 + 1; omega) w_fl_RX10_12 dX10_restore_19 ?_
    refine lv_aload_n hx hb dX10_restore_22 rfl (lv_at hl 0 rfl) ?_
    refine j_getr hx hb hts hown hK hG (k := a0) (fun w h => List.mem_cons_of_mem _ (u_X10 w h)) (ci := 9) rfl ka0 1 (k2 := a0 + 48) (by decide) (by show a0 + (48 : Int) = a0 + 48; omega) w_fl_RX10_19 dX10_restore_23 ?_
    refine j_getr hx hb hts hown hK hG (k := a0 + 48) (fun w h => List.mem_cons_of_mem _ (u_X3 w h)) (ci := 2) rfl (kf_10_1 ka0) 2 (k2 := a0 + 49) (by decide) (by show (a0 + 48) + (1 : Int) = a0 + 49; omega) w_fl_RX10_434 dX10_restore_26 ?_
    refine j_contv (va_runV (As := [.ref (rA o (a0 + 49))]) (rest := []) ⟨hx, hb, hml, hown, hts⟩ (A_X0_copyFrom l (kf_10_0 ka0) (show kd (a0 + 49) = 1 from (show (a0 + 48) + 1 = a0 + 49 from by omega) ▸ (kf_3_2 (kf_10_1 ka0))) h) (cwV 1 hts (gj_V ml_RX10_437 i_X0_copyFrom s_X0_copyFrom n_RX0 k_X0_copyFrom) rfl rfl rfl (by decide +kernel) ⟨by exact Nat.le_of_ble_eq_true rfl, by exact Nat.le_of_ble_eq_true rfl⟩) (j_preV hK hSX hG (ci := 0) rfl (kf_10_0 ka0) (by decide)) rfl rfl hl.1 rfl (lv_room (Nat.le_of_ble_eq_true rfl)) dX10_restore_29 ⟨by exact Nat.le_of_ble_eq_true rfl, by exact Nat.le_of_ble_eq_true rfl⟩) hG (c2 := 0) (s2 := 0) ⟨by exact Nat.le_of_ble_eq_true rfl, by exact Nat.le_of_ble_eq_true rfl⟩ (fun M10 h H locs hG => ?_)
    refine lv_aload_n hx hb dX10_restore_32 rfl (lv_at hl 0 rfl) ?_
    refine j_getr hx hb hts hown hK hG (k := a0) (fun w h => List.mem_cons_of_mem _ (u_X10 w h)) (ci := 9) rfl ka0 1 (k2 := a0 + 48) (by decide) (by show a0 + (48 : Int) = a0 + 48; omega) w_fl_RX10_19 dX10_restore_33 ?_
    refine lv_iconst (v := J 0) hx hb dX10_restore_36 (by decide) ?_
    refine j_puti hx hb hts hown hK hG (k := a0 + 48) (fun w h => List.mem_cons_of_mem _ (u_X3 w h)) tyX3 tyX3_ok nmX3 (ci := 2) rfl (kf_10_1 ka0) 0 (by decide) (jz := 0) rfl w_fl_RX10_430 (hd := rfl) (hn := rfl) (hfit := rfl) (hdg := dX10_restore_37) (fun M11 eM11 H locs hG => ?_)
    have h := h M11 eM11
    refine lv_aload_n hx hb dX10_restore_40 rfl (lv_at hl 0 rfl) ?_
    refine j_contv (va_runV (As := []) (rest := []) ⟨hx, hb, hml, hown, hts⟩ (A_X10_spoilAll l ka0 h) (cwV 0 hts (gj_V ml_RX10_408 i_X10_spoilAll s_X10_spoilAll n_RX10 k_X10_spoilAll) rfl rfl rfl (by decide +kernel) ⟨by exact Nat.le_of_ble_eq_true rfl, by exact Nat.le_of_ble_eq_true rfl⟩) (j_preV hK hSX hG (ci := 9) rfl ka0 (by decide)) rfl rfl hl.1 rfl (lv_room (Nat.le_of_ble_eq_true rfl)) dX10_restore_41 ⟨by exact Nat.le_of_ble_eq_true rfl, by exact Nat.le_of_ble_eq_true rfl⟩) hG (c2 := 0) (s2 := 0) ⟨by exact Nat.le_of_ble_eq_true rfl, by exact Nat.le_of_ble_eq_true rfl⟩ (fun M13 h H locs hG => ?_)
    refine lv_aload_n hx hb dX10_restore_44 rfl (lv_at hl 0 rfl) ?_
    refine j_getr hx hb hts hown hK hG (k := a0) (fun w h => List.mem_cons_of_mem _ (u_X10 w h)) (ci := 9) rfl ka0 0 (k2 := a0 + 1) (by decide) (by show a0 + (1 : Int) = a0 + 1; omega) w_fl_RX10_12 dX10_restore_45 ?_
    refine j_geti hx hb hts hown hK hG (k := a0 + 1) (fun w h => List.mem_cons_of_mem _ (u_X0 w h)) (ci := 0) rfl (kf_10_0 ka0) 0 (by decide) (jz := 0) rfl w_fl_RX10_443 dX10_restore_48 ?_
    rw [hQf]
    exact j_ireti hx hb hr hlocks hG h (by decide) dX10_restore_51
  have h := hg
  obtain ⟨g6, h⟩ := h
  refine j_if_eq (tgt := 14) hx hb dX10_restore_7 (by decide) g6 (fun c5 => ?_) (fun c5 => ?_)
  · have h := h.1 c5
    refine lv_iconst (v := J 3) hx hb dX10_restore_14 (by decide) ?_
    exact jK4 3 (fun _ => rfl) (fun q => absurd q (by omega)) H locs hG ls (lv_sub hl [0] rfl)
  · have h := h.2 c5
    refine lv_iconst (v := J 0) hx hb dX10_restore_10 (by decide) ?_
    refine lv_goto (tgt := 15) hx hb dX10_restore_11 (by decide) ?_
    exact jK4 0 (fun q => absurd q (by omega)) (fun _ => rfl) H locs hG ls (lv_sub hl [0] rfl)
abbrev rm_X10_restore : Room := { frames := 8, cells := 1, slots := 6, locals := 130 }
set_option maxRecDepth 100000 in
set_option maxHeartbeats 4000000 in
theorem A_X10_restore (l : Launch) (hst : l.stackTraces = false) {D : va_G} {cy : Nat → ClassId} {o : Nat} {sK sV : Nat → Nat} {M : jT} {a0 : Int} (ka0 : kd a0 = 10) {Q : Int → jT → Prop} {X : Nat → jT → Prop} (h : wp_X10_restore M a0 Q X) : CxI l yX10_restore (wj yX10_restore cX10_restore 1 (some .int)) rm_X10_restore D cy o sK sV M [.ref (rA o a0)] Q X := by
  refine j_ofWx (cc := cX10_restore) (maxL := 1) (ret := (some .int)) (by decide) rfl (Nat.le_of_ble_eq_true rfl) ?_
  intro p e s m args below meth c hx hb hr hlocks hout hml hown hts hK hSX H locs hsz hG ls hl Qf hQf
  have hown : s.vm.findClass RX10 = some m.cls := hown
  have hl : lv_has ls 1 [(0, .ref (rA o a0))] := hl
  have w_fl_RX10_19 := hts _ (List.mem_cons_of_mem _ fl_RX10_19)
  have w_fl_RX10_440 := hts _ (List.mem_cons_of_mem _ fl_RX10_440)
  have w_fl_RX10_12 := hts _ (List.mem_cons_of_mem _ fl_RX10_12)
  have w_fl_RX10_434 := hts _ (List.mem_cons_of_mem _ fl_RX10_434)
  have w_fl_RX10_430 := hts _ (List.mem_cons_of_mem _ fl_RX10_430)
  have w_fl_RX10_443 := hts _ (List.mem_cons_of_mem _ fl_RX10_443)
  unfold wp_X10_restore at h
  refine lv_aload_n hx hb dX10_restore_0 rfl (lv_at hl 0 rfl) ?_
  refine j_getr hx hb hts hown hK hG (k := a0) (fun w h => List.mem_cons_of_mem _ (u_X10 w h)) (ci := 9) rfl ka0 1 (k2 := a0 + 48) (by decide) (by show a0 + (48 : Int) = a0 + 48; omega) w_fl_RX10_19 dX10_restore_1 ?_
  refine j_geti hx hb hts hown hK hG (k := a0 + 48) (fun w h => List.mem_cons_of_mem _ (u_X3 w h)) (ci := 2) rfl (kf_10_1 ka0) 1 (by decide) (jz := 1) rfl w_fl_RX10_440 dX10_restore_4 ?_
  obtain ⟨hg, h⟩ := h
  have jK4 : ∀ x3 : Int, (M (a0 + 48) 1 = 0 → x3 = 3) → (M (a0 + 48) 1 ≠ 0 → x3 = 0) → ∀ (H : Heap) (locs : List Loc), GM D cy o M s.heap H locs → ∀ ls : Array Slot, lv_has ls 1 [(0, .ref (rA o a0))] → W p l e rm_X10_restore s m args below meth c H locs 0 0 Qf (F0 m 15 ls [.int (J x3)]) := by
    intro x3 qx3_0 qx3_1 H locs hG ls hl
    have h := h x3 qx3_0 qx3_1
    rcases h with h | h
    · refine j_contv (va_runS (As := [.int (J x3)]) (rest := []) ⟨hx, hb, hml, hown, hts⟩ (Ao_X10_refuse l h) (va_cwS 1 hts (gj_S ml_RX10_107 i_X10_refuse n_RX10 k_X10_refuse) rfl rfl rfl (by decide +kernel) ⟨by exact Nat.le_of_ble_eq_true rfl, by exact Nat.le_of_ble_eq_true rfl⟩) (j_preS hK hSX hG) rfl rfl hl.1 rfl (lv_room (Nat.le_of_ble_eq_true rfl)) dX10_restore_15 ⟨by exact Nat.le_of_ble_eq_true rfl, by exact Nat.le_of_ble_eq_true rfl⟩) hG (c2 := 0) (s2 := 0) ⟨by exact Nat.le_of_ble_eq_true rfl, by exact Nat.le_of_ble_eq_true rfl⟩ (fun M8 h H locs hG => ?_)
      obtain ⟨h, eM8⟩ := h
      rw [eM8] at hG
      refine lv_aload_n hx hb dX10_restore_18 rfl (lv_at hl 0 rfl) ?_
      refine j_getr hx hb hts hown hK hG (k := a0) (fun w h => List.mem_cons_of_mem _ (u_X10 w h)) (ci := 9) rfl ka0 0 (k2 := a0 + 1) (by decide) (by show a0 + (1 : Int) = a0 + 1; omega) w_fl_RX10_12 dX10_restore_19 ?_
      refine lv_aload_n hx hb dX10_restore_22 rfl (lv_at hl 0 rfl) ?_
      refine j_getr hx hb hts hown hK hG (k := a0) (fun w h => List.mem_cons_of_mem _ (u_X10 w h)) (ci := 9) rfl ka0 1 (k2 := a0 + 48) (by decide) (by show a0 + (48 : Int) = a0 + 48; omega) w_fl_RX10_19 dX10_restore_23 ?_
      refine j_getr hx hb hts hown hK hG (k := a0 + 48) (fun w h => List.mem_cons_of_mem _ (u_X3 w h)) (ci := 2) rfl (kf_10_1 ka0) 2 (k2 := a0 + 49) (by decide) (by show (a0 + 48) + (1 : Int) = a0 + 49; omega) w_fl_RX10_434 dX10_restore_26 ?_
      refine j_contv (va_runV (As := [.ref (rA o (a0 + 49))]) (rest := []) ⟨hx, hb, hml, hown, hts⟩ (A_X0_copyFrom l (kf_10_0 ka0) (show kd (a0 + 49) = 1 from (show (a0 + 48) + 1 = a0 + 49 from by omega) ▸ (kf_3_2 (kf_10_1 ka0))) h) (cwV 1 hts (gj_V ml_RX10_437 i_X0_copyFrom s_X0_copyFrom n_RX0 k_X0_copyFrom) rfl rfl rfl (by decide +kernel) ⟨by exact Nat.le_of_ble_eq_true rfl, by exact Nat.le_of_ble_eq_true rfl⟩) (j_preV hK hSX hG (ci := 0) rfl (kf_10_0 ka0) (by decide)) rfl rfl hl.1 rfl (lv_room (Nat.le_of_ble_eq_true rfl)) dX10_restore_29 ⟨by exact Nat.le_of_ble_eq_true rfl, by exact Nat.le_of_ble_eq_true rfl⟩) hG (c2 := 0) (s2 := 0) ⟨by exact Nat.le_of_ble_eq_true rfl, by exact Nat.le_of_ble_eq_true rfl⟩ (fun M10 h H locs hG => ?_)
      refine lv_aload_n hx hb dX10_restore_32 rfl (lv_at hl 0 rfl) ?_
      refine j_getr hx hb hts hown hK hG (k := a0) (fun w h => List.mem_cons_of_mem _ (u_X10 w h)) (ci := 9) rfl ka0 1 (k2 := a0 + 48) (by decide) (by show a0 + (48 : Int) = a0 + 48; omega) w_fl_RX10_19 dX10_restore_33 ?_
      refine lv_iconst (v := J 0) hx hb dX10_restore_36 (by decide) ?_
      refine j_puti hx hb hts hown hK hG (k := a0 + 48) (fun w h => List.mem_cons_of_mem _ (u_X3 w h)) tyX3 tyX3_ok nmX3 (ci := 2) rfl (kf_10_1 ka0) 0 (by decide) (jz := 0) rfl w_fl_RX10_430 (hd := rfl) (hn := rfl) (hfit := rfl) (hdg := dX10_restore_37) (fun M11 eM11 H locs hG => ?_)
      have h := h M11 eM11
      refine lv_aload_n hx hb dX10_restore_40 rfl (lv_at hl 0 rfl) ?_
      refine j_contv (va_runV (As := []) (rest := []) ⟨hx, hb, hml, hown, hts⟩ (A_X10_spoilAll l ka0 h) (cwV 0 hts (gj_V ml_RX10_408 i_X10_spoilAll s_X10_spoilAll n_RX10 k_X10_spoilAll) rfl rfl rfl (by decide +kernel) ⟨by exact Nat.le_of_ble_eq_true rfl, by exact Nat.le_of_ble_eq_true rfl⟩) (j_preV hK hSX hG (ci := 9) rfl ka0 (by decide)) rfl rfl hl.1 rfl (lv_room (Nat.le_of_ble_eq_true rfl)) dX10_restore_41 ⟨by exact Nat.le_of_ble_eq_true rfl, by exact Nat.le_of_ble_eq_true rfl⟩) hG (c2 := 0) (s2 := 0) ⟨by exact Nat.le_of_ble_eq_true rfl, by exact Nat.le_of_ble_eq_true rfl⟩ (fun M13 h H locs hG => ?_)
      refine lv_aload_n hx hb dX10_restore_44 rfl (lv_at hl 0 rfl) ?_
      refine j_getr hx hb hts hown hK hG (k := a0) (fun w h => List.mem_cons_of_mem _ (u_X10 w h)) (ci := 9) rfl ka0 0 (k2 := a0 + 1) (by decide) (by show a0 + (1 : Int) = a0 + 1; omega) w_fl_RX10_12 dX10_restore_45 ?_
      refine j_geti hx hb hts hown hK hG (k := a0 + 1) (fun w h => List.mem_cons_of_mem _ (u_X0 w h)) (ci := 0) rfl (kf_10_0 ka0) 0 (by decide) (jz := 0) rfl w_fl_RX10_443 dX10_restore_48 ?_
      rw [hQf]
      exact vx_ret (j_ireti hx hb hr hlocks hG h (by decide) dX10_restore_51)
    · refine j_contxv (vx_runS (As := [.int (J x3)]) (rest := []) ⟨hx, hb, hml, hown, hts⟩ (A_X10_refuse l hst h) (va_cwS 1 hts (gj_S ml_RX10_107 i_X10_refuse n_RX10 k_X10_refuse) rfl rfl rfl (by decide +kernel) ⟨by exact Nat.le_of_ble_eq_true rfl, by exact Nat.le_of_ble_eq_true rfl⟩) (j_preS hK hSX hG) rfl rfl hl.1 rfl (lv_room (Nat.le_of_ble_eq_true rfl)) dX10_restore_15 ⟨by exact Nat.le_of_ble_eq_true rfl, by exact Nat.le_of_ble_eq_true rfl⟩) hG (c2 := 1) (s2 := 6) ⟨by exact Nat.le_of_ble_eq_true rfl, by exact Nat.le_of_ble_eq_true rfl⟩ (fun x M h ce q H locs hG h1 h2 h3 => ?_) (fun M h H locs hG => h.elim)
      rw [hQf]
      exact j_xout hlocks hout hG h h1 h2 h3 (by decide)
  have h := hg
  obtain ⟨g6, h⟩ := h
  refine j_if_eq (tgt := 14) hx hb dX10_restore_7 (by decide) g6 (fun c5 => ?_) (fun c5 => ?_)
  · have h := h.1 c5
    refine lv_iconst (v := J 3) hx hb dX10_restore_14 (by decide) ?_
    exact jK4 3 (fun _ => rfl) (fun q => absurd q (by omega)) H locs hG ls (lv_sub hl [0] rfl)
  · have h := h.2 c5
    refine lv_iconst (v := J 0) hx hb dX10_restore_10 (by decide) ?_
    refine lv_goto (tgt := 15) hx hb dX10_restore_11 (by decide) ?_
    exact jK4 0 (fun q => absurd q (by omega)) (fun _ => rfl) H locs hG ls (lv_sub hl [0] rfl)

abbrev rm_X10_countOccurrences : Room := { frames := 4, cells := 0, slots := 0, locals := 98 }
set_option maxRecDepth 100000 in
set_option maxHeartbeats 4000000 in
theorem A_X10_countOccurrences (l : Launch) {D : va_G} {cy : Nat → ClassId} {o : Nat} {sK sV : Nat → Nat} {M : jT} {a0 : Int} (ka0 : kd a0 = 10) {Q : Int → jT → Prop} (h : wp_X10_countOccurrences M a0 Q) : CoI l yX10_countOccurrences (wj yX10_countOccurrences cX10_countOccurrences 3 (some .int)) rm_X10_countOccurrences D cy o sK sV M [.ref (rA o a0)] Q := by
  refine j_ofW (cc := cX10_countOccurrences) (maxL := 3) (ret := (some .int)) (by decide) rfl (Nat.le_of_ble_eq_true rfl) ?_
  intro p e s m args below meth c hx hb hr hlocks hml hown hts hK hSX H locs hG ls hl Qf hQf
  have hown : s.vm.findClass RX10 = some m.cls := hown
  have hl : lv_has ls 3 [(0, .ref (rA o a0))] := hl
  have w_fl_RX10_12 := hts _ (List.mem_cons_of_mem _ fl_RX10_12)
  have w_fl_RX10_266 := hts _ (List.mem_cons_of_mem _ fl_RX10_266)
  have w_fl_RX10_295 := hts _ (List.mem_cons_of_mem _ fl_RX10_295)
  unfold wp_X10_countOccurrences at h
  refine lv_iconst (v := J 0) hx hb dX10_countOccurrences_0 (by decide) ?_
  refine lv_istore_n (lv' := [(1, .int (J 0)), (0, .ref (rA o a0))]) hx hb dX10_countOccurrences_1 rfl hl (by decide) rfl (fun ls hl => ?_)
  refine lv_iconst (v := J 0) hx hb dX10_countOccurrences_2 (by decide) ?_
  refine lv_istore_n (lv' := [(2, .int (J 0)), (1, .int (J 0)), (0, .ref (rA o a0))]) hx hb dX10_countOccurrences_3 rfl hl (by decide) rfl (fun ls hl => ?_)
  obtain ⟨I4, ⟨n5s, iI4⟩, qI4⟩ := h
  have lI4 : ∀ (n5 : Nat) (x1 : Int) (x2 : Int) (M3 : jT), I4 n5 x1 x2 M3 → ∀ (H : Heap) (locs : List Loc), GM D cy o M3 s.heap H locs → ∀ ls : Array Slot, lv_has ls 3 [(0, .ref (rA o a0)), (1, .int (J x1)), (2, .int (J x2))] → W p l e rm_X10_countOccurrences s m args below meth c H locs 0 0 Qf (F0 m 4 ls []) := by
    intro n5
    induction n5 using Nat.strongRecOn with
    | ind n5 rI4 =>
      intro x1 x2 M3 iI4 H locs hG ls hl
      have h := qI4 n5 x1 x2 M3 iI4
      refine lv_iload_n hx hb dX10_countOccurrences_4 rfl (lv_at hl 2 rfl) ?_
      refine lv_aload_n hx hb dX10_countOccurrences_5 rfl (lv_at hl 0 rfl) ?_
      refine j_getr hx hb hts hown hK hG (k := a0) (fun w h => List.mem_cons_of_mem _ (u_X10 w h)) (ci := 9) rfl ka0 0 (k2 := a0 + 1) (by decide) (by show a0 + (1 : Int) = a0 + 1; omega) w_fl_RX10_12 dX10_countOccurrences_6 ?_
      refine j_geti hx hb hts hown hK hG (k := a0 + 1) (fun w h => List.mem_cons_of_mem _ (u_X0 w h)) (ci := 0) rfl (kf_10_0 ka0) 1 (by decide) (jz := 1) rfl w_fl_RX10_266 dX10_countOccurrences_9 ?_
      obtain ⟨g7, h⟩ := h
      obtain ⟨g8, h⟩ := h
      refine j_icmp_ge (tgt := 32) hx hb dX10_countOccurrences_12 (by decide) g7 g8 (fun c6 => ?_) (fun c6 => ?_)
      · have h := h.1 c6
        refine lv_iload_n hx hb dX10_countOccurrences_32 rfl (lv_at hl 1 rfl) ?_
        rw [hQf]
        exact j_ireti hx hb hr hlocks hG h (by decide) dX10_countOccurrences_33
      · have h := h.2 c6
        refine lv_iload_n hx hb dX10_countOccurrences_15 rfl (lv_at hl 1 rfl) ?_
        refine lv_aload_n hx hb dX10_countOccurrences_16 rfl (lv_at hl 0 rfl) ?_
        refine lv_iload_n hx hb dX10_countOccurrences_17 rfl (lv_at hl 2 rfl) ?_
        refine j_contr (va_runV (As := [.int (J x2)]) (rest := [.int (J x1)]) ⟨hx, hb, hml, hown, hts⟩ (A_X10_laidOut l ka0 h) (cwV 1 hts (gj_V ml_RX10_291 i_X10_laidOut s_X10_laidOut n_RX10 k_X10_laidOut) rfl rfl rfl (by decide +kernel) ⟨by exact Nat.le_of_ble_eq_true rfl, by exact Nat.le_of_ble_eq_true rfl⟩) (j_preV hK hSX hG (ci := 9) rfl ka0 (by decide)) rfl rfl hl.1 rfl (lv_room (Nat.le_of_ble_eq_true rfl)) dX10_countOccurrences_18 ⟨by exact Nat.le_of_ble_eq_true rfl, by exact Nat.le_of_ble_eq_true rfl⟩) hG (c2 := 0) (s2 := 0) ⟨by exact Nat.le_of_ble_eq_true rfl, by exact Nat.le_of_ble_eq_true rfl⟩ (fun k9 M10 h hk9 H locs hG => ?_)
        refine j_geti hx hb hts hown hK hG (k := k9) (fun w h => List.mem_cons_of_mem _ (u_X5 w h)) (ci := 4) rfl hk9 2 (by decide) (jz := 2) rfl w_fl_RX10_295 dX10_countOccurrences_21 ?_
        refine j_iadd hx hb dX10_countOccurrences_24 ?_
        refine j_topi (fun x11 ex11 => ?_)
        have h := h x11 ex11
        refine lv_istore_n (lv' := [(1, .int (J x11)), (0, .ref (rA o a0)), (2, .int (J x2))]) hx hb dX10_countOccurrences_25 rfl hl (by decide) rfl (fun ls hl => ?_)
        refine j_iinc hx hb dX10_countOccurrences_26 hl (k := 2) rfl (by decide) (fun x12 ex12 ls hl => ?_)
        have h := h x12 ex12
        have hl : lv_has ls 3 [(2, .int (J x12)), (1, .int (J x11)), (0, .ref (rA o a0))] := hl
        refine lv_goto (tgt := 4) hx hb dX10_countOccurrences_29 (by decide) ?_
        obtain ⟨n13, ln13, iI4⟩ := h
        exact rI4 n13 ln13 x11 x12 M10 iI4 H locs hG ls (lv_sub hl [2, 1, 0] rfl)
  exact lI4 n5s 0 0 M iI4 H locs hG ls (lv_sub hl [2, 1, 0] rfl)

abbrev rm_X10_countTaking : Room := { frames := 5, cells := 0, slots := 0, locals := 121 }
set_option maxRecDepth 100000 in
set_option maxHeartbeats 4000000 in
theorem A_X10_countTaking (l : Launch) {D : va_G} {cy : Nat → ClassId} {o : Nat} {sK sV : Nat → Nat} {M : jT} {a0 : Int} (ka0 : kd a0 = 10) {Q : Int → jT → Prop} (h : wp_X10_countTaking M a0 Q) : CoI l yX10_countTaking (wj yX10_countTaking cX10_countTaking 3 (some .int)) rm_X10_countTaking D cy o sK sV M [.ref (rA o a0)] Q := by
  refine j_ofW (cc := cX10_countTaking) (maxL := 3) (ret := (some .int)) (by decide) rfl (Nat.le_of_ble_eq_true rfl) ?_
  intro p e s m args below meth c hx hb hr hlocks hml hown hts hK hSX H locs hG ls hl Qf hQf
  have hown : s.vm.findClass RX10 = some m.cls := hown
  have hl : lv_has ls 3 [(0, .ref (rA o a0))] := hl
  have w_fl_RX10_12 := hts _ (List.mem_cons_of_mem _ fl_RX10_12)
  have w_fl_RX10_266 := hts _ (List.mem_cons_of_mem _ fl_RX10_266)
  have w_fl_RX10_269 := hts _ (List.mem_cons_of_mem _ fl_RX10_269)
  unfold wp_X10_countTaking at h
  refine lv_iconst (v := J 0) hx hb dX10_countTaking_0 (by decide) ?_
  refine lv_istore_n (lv' := [(1, .int (J 0)), (0, .ref (rA o a0))]) hx hb dX10_countTaking_1 rfl hl (by decide) rfl (fun ls hl => ?_)
  refine lv_iconst (v := J 0) hx hb dX10_countTaking_2 (by decide) ?_
  refine lv_istore_n (lv' := [(2, .int (J 0)), (1, .int (J 0)), (0, .ref (rA o a0))]) hx hb dX10_countTaking_3 rfl hl (by decide) rfl (fun ls hl => ?_)
  obtain ⟨I4, ⟨n5s, iI4⟩, qI4⟩ := h
  have lI4 : ∀ (n5 : Nat) (x1 : Int) (x2 : Int) (M3 : jT), I4 n5 x1 x2 M3 → ∀ (H : Heap) (locs : List Loc), GM D cy o M3 s.heap H locs → ∀ ls : Array Slot, lv_has ls 3 [(0, .ref (rA o a0)), (1, .int (J x1)), (2, .int (J x2))] → W p l e rm_X10_countTaking s m args below meth c H locs 0 0 Qf (F0 m 4 ls []) := by
    intro n5
    induction n5 using Nat.strongRecOn with
    | ind n5 rI4 =>
      intro x1 x2 M3 iI4 H locs hG ls hl
      have h := qI4 n5 x1 x2 M3 iI4
      refine lv_iload_n hx hb dX10_countTaking_4 rfl (lv_at hl 2 rfl) ?_
      refine lv_aload_n hx hb dX10_countTaking_5 rfl (lv_at hl 0 rfl) ?_
      refine j_getr hx hb hts hown hK hG (k := a0) (fun w h => List.mem_cons_of_mem _ (u_X10 w h)) (ci := 9) rfl ka0 0 (k2 := a0 + 1) (by decide) (by show a0 + (1 : Int) = a0 + 1; omega) w_fl_RX10_12 dX10_countTaking_6 ?_
      refine j_geti hx hb hts hown hK hG (k := a0 + 1) (fun w h => List.mem_cons_of_mem _ (u_X0 w h)) (ci := 0) rfl (kf_10_0 ka0) 1 (by decide) (jz := 1) rfl w_fl_RX10_266 dX10_countTaking_9 ?_
      obtain ⟨g7, h⟩ := h
      obtain ⟨g8, h⟩ := h
      refine j_icmp_ge (tgt := 41) hx hb dX10_countTaking_12 (by decide) g7 g8 (fun c6 => ?_) (fun c6 => ?_)
      · have h := h.1 c6
        refine lv_iload_n hx hb dX10_countTaking_41 rfl (lv_at hl 1 rfl) ?_
        rw [hQf]
        exact j_ireti hx hb hr hlocks hG h (by decide) dX10_countTaking_42
      · have h := h.2 c6
        refine lv_iload_n hx hb dX10_countTaking_15 rfl (lv_at hl 1 rfl) ?_
        refine lv_aload_n hx hb dX10_countTaking_16 rfl (lv_at hl 0 rfl) ?_
        refine lv_iload_n hx hb dX10_countTaking_17 rfl (lv_at hl 2 rfl) ?_
        refine j_contr (va_runV (As := [.int (J x2)]) (rest := [.int (J x1)]) ⟨hx, hb, hml, hown, hts⟩ (A_X10_timed l ka0 h) (cwV 1 hts (gj_V ml_RX10_335 i_X10_timed s_X10_timed n_RX10 k_X10_timed) rfl rfl rfl (by decide +kernel) ⟨by exact Nat.le_of_ble_eq_true rfl, by exact Nat.le_of_ble_eq_true rfl⟩) (j_preV hK hSX hG (ci := 9) rfl ka0 (by decide)) rfl rfl hl.1 rfl (lv_room (Nat.le_of_ble_eq_true rfl)) dX10_countTaking_18 ⟨by exact Nat.le_of_ble_eq_true rfl, by exact Nat.le_of_ble_eq_true rfl⟩) hG (c2 := 0) (s2 := 0) ⟨by exact Nat.le_of_ble_eq_true rfl, by exact Nat.le_of_ble_eq_true rfl⟩ (fun k9 M10 h hk9 H locs hG => ?_)
        refine lv_aload_n hx hb dX10_countTaking_21 rfl (lv_at hl 0 rfl) ?_
        refine j_getr hx hb hts hown hK hG (k := a0) (fun w h => List.mem_cons_of_mem _ (u_X10 w h)) (ci := 9) rfl ka0 0 (k2 := a0 + 1) (by decide) (by show a0 + (1 : Int) = a0 + 1; omega) w_fl_RX10_12 dX10_countTaking_22 ?_
        refine j_getr hx hb hts hown hK hG (k := a0 + 1) (fun w h => List.mem_cons_of_mem _ (u_X0 w h)) (ci := 0) rfl (kf_10_0 ka0) 3 (k2 := a0 + 3) (by decide) (by show (a0 + 1) + (2 : Int) = a0 + 3; omega) w_fl_RX10_269 dX10_countTaking_25 ?_
        refine lv_iload_n hx hb dX10_countTaking_28 rfl (lv_at hl 2 rfl) ?_
        obtain ⟨g11, h⟩ := h
        refine j_aald hx hb hK hG (t := 21) (t0 := 4) (k2 := a0 + 2 * x2 + 28) (show kd (a0 + 3) = 21 from (show (a0 + 1) + 2 = a0 + 3 from by omega) ▸ (kf_1_3 (kf_10_0 ka0))) (by decide) rfl g11 (by simp only [ra_21]; omega) dX10_countTaking_29 ?_
        have k12 : kd (a0 + 2 * x2 + 28) = 4 := by have q9 := (ka_21 (show kd (a0 + 3) = 21 from (show (a0 + 1) + 2 = a0 + 3 from by omega) ▸ (kf_1_3 (kf_10_0 ka0))) g11); rwa [show (a0 + 3) + 25 + 2 * x2 = a0 + 2 * x2 + 28 from by omega] at q9
        refine j_conti (va_runV (As := [.ref (rA o (a0 + 2 * x2 + 28))]) (rest := [.int (J x1)]) ⟨hx, hb, hml, hown, hts⟩ (A_X5_countTaking l hk9 k12 h) (cwV 1 hts (gj_V ml_RX10_337 i_X5_countTaking s_X5_countTaking n_RX5 k_X5_countTaking) rfl rfl rfl (by decide +kernel) ⟨by exact Nat.le_of_ble_eq_true rfl, by exact Nat.le_of_ble_eq_true rfl⟩) (j_preV hK hSX hG (ci := 4) rfl hk9 (by decide)) rfl rfl hl.1 rfl (lv_room (Nat.le_of_ble_eq_true rfl)) dX10_countTaking_30 ⟨by exact Nat.le_of_ble_eq_true rfl, by exact Nat.le_of_ble_eq_true rfl⟩) hG (c2 := 0) (s2 := 0) ⟨by exact Nat.le_of_ble_eq_true rfl, by exact Nat.le_of_ble_eq_true rfl⟩ (fun z13 M14 h H locs hG => ?_)
        obtain ⟨h, eM14⟩ := h
        rw [eM14] at hG
        refine j_iadd hx hb dX10_countTaking_33 ?_
        refine j_topi (fun x15 ex15 => ?_)
        have h := h x15 ex15
        refine lv_istore_n (lv' := [(1, .int (J x15)), (0, .ref (rA o a0)), (2, .int (J x2))]) hx hb dX10_countTaking_34 rfl hl (by decide) rfl (fun ls hl => ?_)
        refine j_iinc hx hb dX10_countTaking_35 hl (k := 2) rfl (by decide) (fun x16 ex16 ls hl => ?_)
        have h := h x16 ex16
        have hl : lv_has ls 3 [(2, .int (J x16)), (1, .int (J x15)), (0, .ref (rA o a0))] := hl
        refine lv_goto (tgt := 4) hx hb dX10_countTaking_38 (by decide) ?_
        obtain ⟨n17, ln17, iI4⟩ := h
        exact rI4 n17 ln17 x15 x16 M10 iI4 H locs hG ls (lv_sub hl [2, 1, 0] rfl)
  exact lI4 n5s 0 0 M iI4 H locs hG ls (lv_sub hl [2, 1, 0] rfl)

abbrev rom_X10_count : Room := { frames := 6, cells := 0, slots := 0, locals := 143 }
set_option maxRecDepth 100000 in
set_option maxHeartbeats 4000000 in
theorem Ao_X10_count (l : Launch) {D : va_G} {cy : Nat → ClassId} {o : Nat} {sK sV : Nat → Nat} {M : jT} {a0 : Int} {a1 : Int} (ka0 : kd a0 = 10) {Q : Int → jT → Prop} (h : wo_X10_count M a0 a1 Q) : CoI l yX10_count (wj yX10_count cX10_count 2 (some .int)) rom_X10_count D cy o sK sV M [.ref (rA o a0), .int (J a1)] Q := by
  refine j_ofW (cc := cX10_count) (maxL := 2) (ret := (some .int)) (by decide) rfl (Nat.le_of_ble_eq_true rfl) ?_
  intro p e s m args below meth c hx hb hr hlocks hml hown hts hK hSX H locs hG ls hl Qf hQf
  have hown : s.vm.findClass RX10 = some m.cls := hown
  have hl : lv_has ls 2 [(0, .ref (rA o a0)), (1, .int (J a1))] := hl
  have w_fl_RX10_12 := hts _ (List.mem_cons_of_mem _ fl_RX10_12)
  have w_fl_RX10_443 := hts _ (List.mem_cons_of_mem _ fl_RX10_443)
  have w_fl_RX10_266 := hts _ (List.mem_cons_of_mem _ fl_RX10_266)
  have w_fl_RX10_19 := hts _ (List.mem_cons_of_mem _ fl_RX10_19)
  have w_fl_RX10_430 := hts _ (List.mem_cons_of_mem _ fl_RX10_430)
  have w_fl_RX10_47 := hts _ (List.mem_cons_of_mem _ fl_RX10_47)
  have w_fl_RX10_378 := hts _ (List.mem_cons_of_mem _ fl_RX10_378)
  unfold wo_X10_count at h
  refine lv_iload_n hx hb dX10_count_0 rfl (lv_at hl 1 rfl) ?_
  obtain ⟨K9, hK9, h⟩ := h
  have jK9 : ∀ (x8 : Int), K9 x8 → ∀ (H : Heap) (locs : List Loc), GM D cy o M s.heap H locs → ∀ ls : Array Slot, lv_has ls 2 [(0, .ref (rA o a0)), (1, .int (J a1))] → W p l e rom_X10_count s m args below meth c H locs 0 0 Qf (F0 m 14 ls [.int (J x8)]) := by
    intro x8 hcK9 H locs hG ls hl
    have h := hK9 x8 hcK9
    refine j_contv (va_runS (As := [.int (J x8)]) (rest := []) ⟨hx, hb, hml, hown, hts⟩ (Ao_X10_needArgument l h) (va_cwS 1 hts (gj_S ml_RX10_72 i_X10_needArgument n_RX10 k_X10_needArgument) rfl rfl rfl (by decide +kernel) ⟨by exact Nat.le_of_ble_eq_true rfl, by exact Nat.le_of_ble_eq_true rfl⟩) (j_preS hK hSX hG) rfl rfl hl.1 rfl (lv_room (Nat.le_of_ble_eq_true rfl)) dX10_count_14 ⟨by exact Nat.le_of_ble_eq_true rfl, by exact Nat.le_of_ble_eq_true rfl⟩) hG (c2 := 0) (s2 := 0) ⟨by exact Nat.le_of_ble_eq_true rfl, by exact Nat.le_of_ble_eq_true rfl⟩ (fun M11 h H locs hG => ?_)
    obtain ⟨h, eM11⟩ := h
    rw [eM11] at hG
    refine lv_iload_n hx hb dX10_count_17 rfl (lv_at hl 1 rfl) ?_
    obtain ⟨g12, h⟩ := h
    rcases em_eqI (a1) 0 with c13 | c13_0
    · refine j_tsw hx hb dX10_count_18 g12 (k := 0) (tgt := 52) c13 ⟨by decide, by decide, rfl⟩ (by decide) ?_
      have h := h.1 c13
      refine lv_aload_n hx hb dX10_count_52 rfl (lv_at hl 0 rfl) ?_
      refine j_getr hx hb hts hown hK hG (k := a0) (fun w h => List.mem_cons_of_mem _ (u_X10 w h)) (ci := 9) rfl ka0 0 (k2 := a0 + 1) (by decide) (by show a0 + (1 : Int) = a0 + 1; omega) w_fl_RX10_12 dX10_count_53 ?_
      refine j_geti hx hb hts hown hK hG (k := a0 + 1) (fun w h => List.mem_cons_of_mem _ (u_X0 w h)) (ci := 0) rfl (kf_10_0 ka0) 0 (by decide) (jz := 0) rfl w_fl_RX10_443 dX10_count_56 ?_
      rw [hQf]
      exact j_ireti hx hb hr hlocks hG h (by decide) dX10_count_59
    · rcases em_eqI (a1) 1 with c13 | c13_1
      · refine j_tsw hx hb dX10_count_18 g12 (k := 1) (tgt := 60) c13 ⟨by decide, by decide, rfl⟩ (by decide) ?_
        have h := h.2.1 c13
        refine lv_aload_n hx hb dX10_count_60 rfl (lv_at hl 0 rfl) ?_
        refine j_getr hx hb hts hown hK hG (k := a0) (fun w h => List.mem_cons_of_mem _ (u_X10 w h)) (ci := 9) rfl ka0 0 (k2 := a0 + 1) (by decide) (by show a0 + (1 : Int) = a0 + 1; omega) w_fl_RX10_12 dX10_count_61 ?_
        refine j_geti hx hb hts hown hK hG (k := a0 + 1) (fun w h => List.mem_cons_of_mem _ (u_X0 w h)) (ci := 0) rfl (kf_10_0 ka0) 1 (by decide) (jz := 1) rfl w_fl_RX10_266 dX10_count_64 ?_
        rw [hQf]
        exact j_ireti hx hb hr hlocks hG h (by decide) dX10_count_67
      · rcases em_eqI (a1) 2 with c13 | c13_2
        · refine j_tsw hx hb dX10_count_18 g12 (k := 2) (tgt := 68) c13 ⟨by decide, by decide, rfl⟩ (by decide) ?_
          have h := h.2.2.1 c13
          refine lv_aload_n hx hb dX10_count_68 rfl (lv_at hl 0 rfl) ?_
          refine j_conti (va_runV (As := []) (rest := []) ⟨hx, hb, hml, hown, hts⟩ (A_X10_countOccurrences l ka0 h) (cwV 0 hts (gj_V ml_RX10_446 i_X10_countOccurrences s_X10_countOccurrences n_RX10 k_X10_countOccurrences) rfl rfl rfl (by decide +kernel) ⟨by exact Nat.le_of_ble_eq_true rfl, by exact Nat.le_of_ble_eq_true rfl⟩) (j_preV hK hSX hG (ci := 9) rfl ka0 (by decide)) rfl rfl hl.1 rfl (lv_room (Nat.le_of_ble_eq_true rfl)) dX10_count_69 ⟨by exact Nat.le_of_ble_eq_true rfl, by exact Nat.le_of_ble_eq_true rfl⟩) hG (c2 := 0) (s2 := 0) ⟨by exact Nat.le_of_ble_eq_true rfl, by exact Nat.le_of_ble_eq_true rfl⟩ (fun z14 M15 h H locs hG => ?_)
          rw [hQf]
          exact j_ireti hx hb hr hlocks hG h (by decide) dX10_count_72
        · rcases em_eqI (a1) 3 with c13 | c13_3
          · refine j_tsw hx hb dX10_count_18 g12 (k := 3) (tgt := 73) c13 ⟨by decide, by decide, rfl⟩ (by decide) ?_
            have h := h.2.2.2.1 c13
            refine lv_aload_n hx hb dX10_count_73 rfl (lv_at hl 0 rfl) ?_
            refine j_conti (va_runV (As := []) (rest := []) ⟨hx, hb, hml, hown, hts⟩ (A_X10_countTaking l ka0 h) (cwV 0 hts (gj_V ml_RX10_450 i_X10_countTaking s_X10_countTaking n_RX10 k_X10_countTaking) rfl rfl rfl (by decide +kernel) ⟨by exact Nat.le_of_ble_eq_true rfl, by exact Nat.le_of_ble_eq_true rfl⟩) (j_preV hK hSX hG (ci := 9) rfl ka0 (by decide)) rfl rfl hl.1 rfl (lv_room (Nat.le_of_ble_eq_true rfl)) dX10_count_74 ⟨by exact Nat.le_of_ble_eq_true rfl, by exact Nat.le_of_ble_eq_true rfl⟩) hG (c2 := 0) (s2 := 0) ⟨by exact Nat.le_of_ble_eq_true rfl, by exact Nat.le_of_ble_eq_true rfl⟩ (fun z16 M17 h H locs hG => ?_)
            rw [hQf]
            exact j_ireti hx hb hr hlocks hG h (by decide) dX10_count_77
          · rcases em_eqI (a1) 4 with c13 | c13_4
            · refine j_tsw hx hb dX10_count_18 g12 (k := 4) (tgt := 78) c13 ⟨by decide, by decide, rfl⟩ (by decide) ?_
              have h := h.2.2.2.2.1 c13
              refine lv_aload_n hx hb dX10_count_78 rfl (lv_at hl 0 rfl) ?_
              refine j_getr hx hb hts hown hK hG (k := a0) (fun w h => List.mem_cons_of_mem _ (u_X10 w h)) (ci := 9) rfl ka0 1 (k2 := a0 + 48) (by decide) (by show a0 + (48 : Int) = a0 + 48; omega) w_fl_RX10_19 dX10_count_79 ?_
              refine j_geti hx hb hts hown hK hG (k := a0 + 48) (fun w h => List.mem_cons_of_mem _ (u_X3 w h)) (ci := 2) rfl (kf_10_1 ka0) 0 (by decide) (jz := 0) rfl w_fl_RX10_430 dX10_count_82 ?_
              rw [hQf]
              exact j_ireti hx hb hr hlocks hG h (by decide) dX10_count_85
            · have c13 : a1 ≠ 0 ∧ a1 ≠ 1 ∧ a1 ≠ 2 ∧ a1 ≠ 3 ∧ a1 ≠ 4 := ⟨c13_0, c13_1, c13_2, c13_3, c13_4⟩
              have h := h.2.2.2.2.2 c13
              refine j_tswd hx hb dX10_count_18 g12 (tgt := 86) (by omega) (by decide) ?_
              refine lv_aload_n hx hb dX10_count_86 rfl (lv_at hl 0 rfl) ?_
              refine j_getr hx hb hts hown hK hG (k := a0) (fun w h => List.mem_cons_of_mem _ (u_X10 w h)) (ci := 9) rfl ka0 5 (k2 := a0 + 601) (by decide) (by show a0 + (601 : Int) = a0 + 601; omega) w_fl_RX10_47 dX10_count_87 ?_
              refine j_geti hx hb hts hown hK hG (k := a0 + 601) (fun w h => List.mem_cons_of_mem _ (u_X6 w h)) (ci := 5) rfl (kf_10_5 ka0) 0 (by decide) (jz := 0) rfl w_fl_RX10_378 dX10_count_90 ?_
              rw [hQf]
              exact j_ireti hx hb hr hlocks hG h (by decide) dX10_count_93
  obtain ⟨K21, hK21, h⟩ := h
  have jK21 : K21 → ∀ (H : Heap) (locs : List Loc), GM D cy o M s.heap H locs → ∀ ls : Array Slot, lv_has ls 2 [(0, .ref (rA o a0)), (1, .int (J a1))] → W p l e rom_X10_count s m args below meth c H locs 0 0 Qf (F0 m 13 ls []) := by
    intro hcK21 H locs hG ls hl
    have h := hK21 hcK21
    refine lv_iconst (v := J 0) hx hb dX10_count_13 (by decide) ?_
    exact jK9 0 h H locs hG ls (lv_sub hl [0, 1] rfl)
  obtain ⟨g23, h⟩ := h
  refine j_if_lt (tgt := 13) hx hb dX10_count_1 (by decide) g23 (fun c22 => ?_) (fun c22 => ?_)
  · have h := h.1 c22
    exact jK21 h H locs hG ls (lv_sub hl [0, 1] rfl)
  · have h := h.2 c22
    refine lv_iload_n hx hb dX10_count_4 rfl (lv_at hl 1 rfl) ?_
    refine lv_iconst (v := J 5) hx hb dX10_count_5 (by decide) ?_
    refine j_icmp_gt (tgt := 13) hx hb dX10_count_6 (by decide) g23 (by decide) (fun c24 => ?_) (fun c24 => ?_)
    · have h := h.1 c24
      exact jK21 h H locs hG ls (lv_sub hl [0, 1] rfl)
    · have h := h.2 c24
      refine lv_iconst (v := J 1) hx hb dX10_count_9 (by decide) ?_
      refine lv_goto (tgt := 14) hx hb dX10_count_10 (by decide) ?_
      exact jK9 1 h H locs hG ls (lv_sub hl [0, 1] rfl)
abbrev rm_X10_count : Room := { frames := 7, cells := 1, slots := 6, locals := 143 }
set_option maxRecDepth 100000 in
set_option maxHeartbeats 4000000 in
theorem A_X10_count (l : Launch) (hst : l.stackTraces = false) {D : va_G} {cy : Nat → ClassId} {o : Nat} {sK sV : Nat → Nat} {M : jT} {a0 : Int} {a1 : Int} (ka0 : kd a0 = 10) {Q : Int → jT → Prop} {X : Nat → jT → Prop} (h : wp_X10_count M a0 a1 Q X) : CxI l yX10_count (wj yX10_count cX10_count 2 (some .int)) rm_X10_count D cy o sK sV M [.ref (rA o a0), .int (J a1)] Q X := by
  refine j_ofWx (cc := cX10_count) (maxL := 2) (ret := (some .int)) (by decide) rfl (Nat.le_of_ble_eq_true rfl) ?_
  intro p e s m args below meth c hx hb hr hlocks hout hml hown hts hK hSX H locs hsz hG ls hl Qf hQf
  have hown : s.vm.findClass RX10 = some m.cls := hown
  have hl : lv_has ls 2 [(0, .ref (rA o a0)), (1, .int (J a1))] := hl
  have w_fl_RX10_12 := hts _ (List.mem_cons_of_mem _ fl_RX10_12)
  have w_fl_RX10_443 := hts _ (List.mem_cons_of_mem _ fl_RX10_443)
  have w_fl_RX10_266 := hts _ (List.mem_cons_of_mem _ fl_RX10_266)
  have w_fl_RX10_19 := hts _ (List.mem_cons_of_mem _ fl_RX10_19)
  have w_fl_RX10_430 := hts _ (List.mem_cons_of_mem _ fl_RX10_430)
  have w_fl_RX10_47 := hts _ (List.mem_cons_of_mem _ fl_RX10_47)
  have w_fl_RX10_378 := hts _ (List.mem_cons_of_mem _ fl_RX10_378)
  unfold wp_X10_count at h
  refine lv_iload_n hx hb dX10_count_0 rfl (lv_at hl 1 rfl) ?_
  obtain ⟨K9, hK9, h⟩ := h
  have jK9 : ∀ (x8 : Int), K9 x8 → ∀ (H : Heap) (locs : List Loc), GM D cy o M s.heap H locs → ∀ ls : Array Slot, lv_has ls 2 [(0, .ref (rA o a0)), (1, .int (J a1))] → W p l e rm_X10_count s m args below meth c H locs 0 0 Qf (F0 m 14 ls [.int (J x8)]) := by
    intro x8 hcK9 H locs hG ls hl
    have h := hK9 x8 hcK9
    rcases h with h | h
    · refine j_contv (va_runS (As := [.int (J x8)]) (rest := []) ⟨hx, hb, hml, hown, hts⟩ (Ao_X10_needArgument l h) (va_cwS 1 hts (gj_S ml_RX10_72 i_X10_needArgument n_RX10 k_X10_needArgument) rfl rfl rfl (by decide +kernel) ⟨by exact Nat.le_of_ble_eq_true rfl, by exact Nat.le_of_ble_eq_true rfl⟩) (j_preS hK hSX hG) rfl rfl hl.1 rfl (lv_room (Nat.le_of_ble_eq_true rfl)) dX10_count_14 ⟨by exact Nat.le_of_ble_eq_true rfl, by exact Nat.le_of_ble_eq_true rfl⟩) hG (c2 := 0) (s2 := 0) ⟨by exact Nat.le_of_ble_eq_true rfl, by exact Nat.le_of_ble_eq_true rfl⟩ (fun M11 h H locs hG => ?_)
      obtain ⟨h, eM11⟩ := h
      rw [eM11] at hG
      refine lv_iload_n hx hb dX10_count_17 rfl (lv_at hl 1 rfl) ?_
      obtain ⟨g12, h⟩ := h
      rcases em_eqI (a1) 0 with c13 | c13_0
      · refine j_tsw hx hb dX10_count_18 g12 (k := 0) (tgt := 52) c13 ⟨by decide, by decide, rfl⟩ (by decide) ?_
        have h := h.1 c13
        refine lv_aload_n hx hb dX10_count_52 rfl (lv_at hl 0 rfl) ?_
        refine j_getr hx hb hts hown hK hG (k := a0) (fun w h => List.mem_cons_of_mem _ (u_X10 w h)) (ci := 9) rfl ka0 0 (k2 := a0 + 1) (by decide) (by show a0 + (1 : Int) = a0 + 1; omega) w_fl_RX10_12 dX10_count_53 ?_
        refine j_geti hx hb hts hown hK hG (k := a0 + 1) (fun w h => List.mem_cons_of_mem _ (u_X0 w h)) (ci := 0) rfl (kf_10_0 ka0) 0 (by decide) (jz := 0) rfl w_fl_RX10_443 dX10_count_56 ?_
        rw [hQf]
        exact vx_ret (j_ireti hx hb hr hlocks hG h (by decide) dX10_count_59)
      · rcases em_eqI (a1) 1 with c13 | c13_1
        · refine j_tsw hx hb dX10_count_18 g12 (k := 1) (tgt := 60) c13 ⟨by decide, by decide, rfl⟩ (by decide) ?_
          have h := h.2.1 c13
          refine lv_aload_n hx hb dX10_count_60 rfl (lv_at hl 0 rfl) ?_
          refine j_getr hx hb hts hown hK hG (k := a0) (fun w h => List.mem_cons_of_mem _ (u_X10 w h)) (ci := 9) rfl ka0 0 (k2 := a0 + 1) (by decide) (by show a0 + (1 : Int) = a0 + 1; omega) w_fl_RX10_12 dX10_count_61 ?_
          refine j_geti hx hb hts hown hK hG (k := a0 + 1) (fun w h => List.mem_cons_of_mem _ (u_X0 w h)) (ci := 0) rfl (kf_10_0 ka0) 1 (by decide) (jz := 1) rfl w_fl_RX10_266 dX10_count_64 ?_
          rw [hQf]
          exact vx_ret (j_ireti hx hb hr hlocks hG h (by decide) dX10_count_67)
        · rcases em_eqI (a1) 2 with c13 | c13_2
          · refine j_tsw hx hb dX10_count_18 g12 (k := 2) (tgt := 68) c13 ⟨by decide, by decide, rfl⟩ (by decide) ?_
            have h := h.2.2.1 c13
            refine lv_aload_n hx hb dX10_count_68 rfl (lv_at hl 0 rfl) ?_
            refine j_conti (va_runV (As := []) (rest := []) ⟨hx, hb, hml, hown, hts⟩ (A_X10_countOccurrences l ka0 h) (cwV 0 hts (gj_V ml_RX10_446 i_X10_countOccurrences s_X10_countOccurrences n_RX10 k_X10_countOccurrences) rfl rfl rfl (by decide +kernel) ⟨by exact Nat.le_of_ble_eq_true rfl, by exact Nat.le_of_ble_eq_true rfl⟩) (j_preV hK hSX hG (ci := 9) rfl ka0 (by decide)) rfl rfl hl.1 rfl (lv_room (Nat.le_of_ble_eq_true rfl)) dX10_count_69 ⟨by exact Nat.le_of_ble_eq_true rfl, by exact Nat.le_of_ble_eq_true rfl⟩) hG (c2 := 0) (s2 := 0) ⟨by exact Nat.le_of_ble_eq_true rfl, by exact Nat.le_of_ble_eq_true rfl⟩ (fun z14 M15 h H locs hG => ?_)
            rw [hQf]
            exact vx_ret (j_ireti hx hb hr hlocks hG h (by decide) dX10_count_72)
          · rcases em_eqI (a1) 3 with c13 | c13_3
            · refine j_tsw hx hb dX10_count_18 g12 (k := 3) (tgt := 73) c13 ⟨by decide, by decide, rfl⟩ (by decide) ?_
              have h := h.2.2.2.1 c13
              refine lv_aload_n hx hb dX10_count_73 rfl (lv_at hl 0 rfl) ?_
              refine j_conti (va_runV (As := []) (rest := []) ⟨hx, hb, hml, hown, hts⟩ (A_X10_countTaking l ka0 h) (cwV 0 hts (gj_V ml_RX10_450 i_X10_countTaking s_X10_countTaking n_RX10 k_X10_countTaking) rfl rfl rfl (by decide +kernel) ⟨by exact Nat.le_of_ble_eq_true rfl, by exact Nat.le_of_ble_eq_true rfl⟩) (j_preV hK hSX hG (ci := 9) rfl ka0 (by decide)) rfl rfl hl.1 rfl (lv_room (Nat.le_of_ble_eq_true rfl)) dX10_count_74 ⟨by exact Nat.le_of_ble_eq_true rfl, by exact Nat.le_of_ble_eq_true rfl⟩) hG (c2 := 0) (s2 := 0) ⟨by exact Nat.le_of_ble_eq_true rfl, by exact Nat.le_of_ble_eq_true rfl⟩ (fun z16 M17 h H locs hG => ?_)
              rw [hQf]
              exact vx_ret (j_ireti hx hb hr hlocks hG h (by decide) dX10_count_77)
            · rcases em_eqI (a1) 4 with c13 | c13_4
              · refine j_tsw hx hb dX10_count_18 g12 (k := 4) (tgt := 78) c13 ⟨by decide, by decide, rfl⟩ (by decide) ?_
                have h := h.2.2.2.2.1 c13
                refine lv_aload_n hx hb dX10_count_78 rfl (lv_at hl 0 rfl) ?_
                refine j_getr hx hb hts hown hK hG (k := a0) (fun w h => List.mem_cons_of_mem _ (u_X10 w h)) (ci := 9) rfl ka0 1 (k2 := a0 + 48) (by decide) (by show a0 + (48 : Int) = a0 + 48; omega) w_fl_RX10_19 dX10_count_79 ?_
                refine j_geti hx hb hts hown hK hG (k := a0 + 48) (fun w h => List.mem_cons_of_mem _ (u_X3 w h)) (ci := 2) rfl (kf_10_1 ka0) 0 (by decide) (jz := 0) rfl w_fl_RX10_430 dX10_count_82 ?_
                rw [hQf]
                exact vx_ret (j_ireti hx hb hr hlocks hG h (by decide) dX10_count_85)
              · have c13 : a1 ≠ 0 ∧ a1 ≠ 1 ∧ a1 ≠ 2 ∧ a1 ≠ 3 ∧ a1 ≠ 4 := ⟨c13_0, c13_1, c13_2, c13_3, c13_4⟩
                have h := h.2.2.2.2.2 c13
                refine j_tswd hx hb dX10_count_18 g12 (tgt := 86) (by omega) (by decide) ?_
                refine lv_aload_n hx hb dX10_count_86 rfl (lv_at hl 0 rfl) ?_
                refine j_getr hx hb hts hown hK hG (k := a0) (fun w h => List.mem_cons_of_mem _ (u_X10 w h)) (ci := 9) rfl ka0 5 (k2 := a0 + 601) (by decide) (by show a0 + (601 : Int) = a0 + 601; omega) w_fl_RX10_47 dX10_count_87 ?_
                refine j_geti hx hb hts hown hK hG (k := a0 + 601) (fun w h => List.mem_cons_of_mem _ (u_X6 w h)) (ci := 5) rfl (kf_10_5 ka0) 0 (by decide) (jz := 0) rfl w_fl_RX10_378 dX10_count_90 ?_
                rw [hQf]
                exact vx_ret (j_ireti hx hb hr hlocks hG h (by decide) dX10_count_93)
    · refine j_contxv (vx_runS (As := [.int (J x8)]) (rest := []) ⟨hx, hb, hml, hown, hts⟩ (A_X10_needArgument l hst h) (va_cwS 1 hts (gj_S ml_RX10_72 i_X10_needArgument n_RX10 k_X10_needArgument) rfl rfl rfl (by decide +kernel) ⟨by exact Nat.le_of_ble_eq_true rfl, by exact Nat.le_of_ble_eq_true rfl⟩) (j_preS hK hSX hG) rfl rfl hl.1 rfl (lv_room (Nat.le_of_ble_eq_true rfl)) dX10_count_14 ⟨by exact Nat.le_of_ble_eq_true rfl, by exact Nat.le_of_ble_eq_true rfl⟩) hG (c2 := 1) (s2 := 6) ⟨by exact Nat.le_of_ble_eq_true rfl, by exact Nat.le_of_ble_eq_true rfl⟩ (fun x M h ce q H locs hG h1 h2 h3 => ?_) (fun M h H locs hG => h.elim)
      rw [hQf]
      exact j_xout hlocks hout hG h h1 h2 h3 (by decide)
  obtain ⟨K21, hK21, h⟩ := h
  have jK21 : K21 → ∀ (H : Heap) (locs : List Loc), GM D cy o M s.heap H locs → ∀ ls : Array Slot, lv_has ls 2 [(0, .ref (rA o a0)), (1, .int (J a1))] → W p l e rm_X10_count s m args below meth c H locs 0 0 Qf (F0 m 13 ls []) := by
    intro hcK21 H locs hG ls hl
    have h := hK21 hcK21
    refine lv_iconst (v := J 0) hx hb dX10_count_13 (by decide) ?_
    exact jK9 0 h H locs hG ls (lv_sub hl [0, 1] rfl)
  obtain ⟨g23, h⟩ := h
  refine j_if_lt (tgt := 13) hx hb dX10_count_1 (by decide) g23 (fun c22 => ?_) (fun c22 => ?_)
  · have h := h.1 c22
    exact jK21 h H locs hG ls (lv_sub hl [0, 1] rfl)
  · have h := h.2 c22
    refine lv_iload_n hx hb dX10_count_4 rfl (lv_at hl 1 rfl) ?_
    refine lv_iconst (v := J 5) hx hb dX10_count_5 (by decide) ?_
    refine j_icmp_gt (tgt := 13) hx hb dX10_count_6 (by decide) g23 (by decide) (fun c24 => ?_) (fun c24 => ?_)
    · have h := h.1 c24
      exact jK21 h H locs hG ls (lv_sub hl [0, 1] rfl)
    · have h := h.2 c24
      refine lv_iconst (v := J 1) hx hb dX10_count_9 (by decide) ?_
      refine lv_goto (tgt := 14) hx hb dX10_count_10 (by decide) ?_
      exact jK9 1 h H locs hG ls (lv_sub hl [0, 1] rfl)
