abbrev rm_X11_thrown : Room := { frames := 0, cells := 0, slots := 0, locals := 0 }
set_option maxRecDepth 100000 in
set_option maxHeartbeats 4000000 in
theorem A_X11_thrown (l : Launch) {D : va_G} {cy : Nat → ClassId} {o : Nat} {sK sV : Nat → Nat} {M : jT} {a0 : Int} (ka0 : kd a0 = 11) : CoI l yX11_thrown (wj yX11_thrown cX11_thrown 1 (some .int)) rm_X11_thrown D cy o sK sV M [.ref (rA o a0)] (fun z M9 => z = pf_X11_thrown M a0 ∧ M9 = M) := by
  refine j_ofW (cc := cX11_thrown) (maxL := 1) (ret := (some .int)) (by decide) rfl (Nat.le_of_ble_eq_true rfl) ?_
  intro p e s m args below meth c hx hb hr hlocks hml hown hts hK hSX H locs hG ls hl Qf hQf
  have hown : s.vm.findClass RX11 = some m.cls := hown
  have hl : lv_has ls 1 [(0, .ref (rA o a0))] := hl
  have w_fl_RX11_80 := hts _ (List.mem_cons_of_mem _ fl_RX11_80)
  refine lv_aload_n hx hb dX11_thrown_0 rfl (lv_at hl 0 rfl) ?_
  refine j_geti hx hb hts hown hK hG (k := a0) (fun w h => List.mem_cons_of_mem _ (u_X11 w h)) (ci := 10) rfl ka0 0 (by decide) (jz := 0) rfl w_fl_RX11_80 dX11_thrown_1 ?_
  rw [hQf]
  exact j_ireti hx hb hr hlocks hG ⟨rfl, rfl⟩ (by decide) dX11_thrown_4

abbrev rm_X11_raises : Room := { frames := 0, cells := 0, slots := 0, locals := 0 }
set_option maxRecDepth 100000 in
set_option maxHeartbeats 4000000 in
theorem A_X11_raises (l : Launch) {D : va_G} {cy : Nat → ClassId} {o : Nat} {sK sV : Nat → Nat} {M : jT} {a0 : Int} {a1 : Int} (ka0 : kd a0 = 11) {Q : Int → jT → Prop} (h : wp_X11_raises M a0 a1 Q) : CoI l yX11_raises (wj yX11_raises cX11_raises 2 (some .int)) rm_X11_raises D cy o sK sV M [.ref (rA o a0), .int (J a1)] Q := by
  refine j_ofW (cc := cX11_raises) (maxL := 2) (ret := (some .int)) (by decide) rfl (Nat.le_of_ble_eq_true rfl) ?_
  intro p e s m args below meth c hx hb hr hlocks hml hown hts hK hSX H locs hG ls hl Qf hQf
  have hown : s.vm.findClass RX11 = some m.cls := hown
  have hl : lv_has ls 2 [(0, .ref (rA o a0)), (1, .int (J a1))] := hl
  have w_fl_RX11_80 := hts _ (List.mem_cons_of_mem _ fl_RX11_80)
  unfold wp_X11_raises at h
  refine lv_aload_n hx hb dX11_raises_0 rfl (lv_at hl 0 rfl) ?_
  refine lv_iload_n hx hb dX11_raises_1 rfl (lv_at hl 1 rfl) ?_
  refine j_puti hx hb hts hown hK hG (k := a0) (fun w h => List.mem_cons_of_mem _ (u_X11 w h)) tyX11 tyX11_ok nmX11 (ci := 10) rfl ka0 0 (by decide) (jz := 0) rfl w_fl_RX11_80 (hd := rfl) (hn := rfl) (hfit := rfl) (hdg := dX11_raises_2) (fun M1 eM1 H locs hG => ?_)
  have h := h M1 eM1
  refine lv_iconst (v := J 0) hx hb dX11_raises_5 (by decide) ?_
  rw [hQf]
  exact j_ireti hx hb hr hlocks hG h (by decide) dX11_raises_6

abbrev rm_X11_in : Room := { frames := 0, cells := 0, slots := 0, locals := 0 }
set_option maxRecDepth 100000 in
set_option maxHeartbeats 4000000 in
theorem A_X11_in (l : Launch) {D : va_G} {cy : Nat → ClassId} {o : Nat} {sK sV : Nat → Nat} {M : jT} {a0 : Int} {a1 : Int} {a2 : Int} (h : pg_X11_in a0 a1 a2) : CoI l yX11_in (wj yX11_in cX11_in 3 (some .boolean)) rm_X11_in D cy o sK sV M [.int (J a0), .int (J a1), .int (J a2)] (fun z M9 => z = b2i (pb_X11_in a0 a1 a2) ∧ M9 = M) := by
  refine j_ofW (cc := cX11_in) (maxL := 3) (ret := (some .boolean)) (by decide) rfl (Nat.le_of_ble_eq_true rfl) ?_
  intro p e s m args below meth c hx hb hr hlocks hml hown hts hK hSX H locs hG ls hl Qf hQf
  have hown : s.vm.findClass RX11 = some m.cls := hown
  have hl : lv_has ls 3 [(0, .int (J a0)), (1, .int (J a1)), (2, .int (J a2))] := hl
  unfold pg_X11_in at h
  refine lv_iload_n hx hb dX11_in_0 rfl (lv_at hl 0 rfl) ?_
  refine lv_iload_n hx hb dX11_in_1 rfl (lv_at hl 1 rfl) ?_
  obtain ⟨g2, h⟩ := h
  obtain ⟨g3, h⟩ := h
  refine j_icmp_lt (tgt := 14) hx hb dX11_in_2 (by decide) g2 g3 (fun c1 => ?_) (fun c1 => ?_)
  · have h := h.1 c1
    refine lv_iconst (v := J 0) hx hb dX11_in_14 (by decide) ?_
    rw [hQf]
    exact j_iretn hx hb hr hlocks (nar_b (by decide)) hG ⟨(b2i_iff0 (iff_of_false (fun q8 => (show ¬ (a1 ≤ a0) from by omega) q8.1) id)), rfl⟩ (by decide) dX11_in_15
  · have h := h.2 c1
    refine lv_iload_n hx hb dX11_in_5 rfl (lv_at hl 0 rfl) ?_
    refine lv_iload_n hx hb dX11_in_6 rfl (lv_at hl 2 rfl) ?_
    obtain ⟨g5, h⟩ := h
    refine j_icmp_gt (tgt := 14) hx hb dX11_in_7 (by decide) g2 g5 (fun c4 => ?_) (fun c4 => ?_)
    · have h := h.1 c4
      refine lv_iconst (v := J 0) hx hb dX11_in_14 (by decide) ?_
      rw [hQf]
      exact j_iretn hx hb hr hlocks (nar_b (by decide)) hG ⟨(b2i_iff0 ((and_iff_right c1).trans (iff_of_false (show ¬ (a0 ≤ a2) from by omega) id))), rfl⟩ (by decide) dX11_in_15
    · have h := h.2 c4
      refine lv_iconst (v := J 1) hx hb dX11_in_10 (by decide) ?_
      refine lv_goto (tgt := 15) hx hb dX11_in_11 (by decide) ?_
      rw [hQf]
      exact j_iretn hx hb hr hlocks (nar_b (by decide)) hG ⟨(b2i_iff1 ((and_iff_right c1).trans (iff_of_true c4 trivial))), rfl⟩ (by decide) dX11_in_15

abbrev rm_X11_keeps : Room := { frames := 0, cells := 0, slots := 0, locals := 0 }
set_option maxRecDepth 100000 in
set_option maxHeartbeats 4000000 in
theorem A_X11_keeps (l : Launch) {D : va_G} {cy : Nat → ClassId} {o : Nat} {sK sV : Nat → Nat} {M : jT} {a0 : Int} (ka0 : kd a0 = 11) {Q : jT → Prop} (h : wp_X11_keeps M a0 Q) : CoV l yX11_keeps (wj yX11_keeps cX11_keeps 2 none) rm_X11_keeps D cy o sK sV M [.ref (rA o a0)] Q := by
  refine j_ofW (cc := cX11_keeps) (maxL := 2) (ret := none) (by decide) rfl (Nat.le_of_ble_eq_true rfl) ?_
  intro p e s m args below meth c hx hb hr hlocks hml hown hts hK hSX H locs hG ls hl Qf hQf
  have hown : s.vm.findClass RX11 = some m.cls := hown
  have hl : lv_has ls 2 [(0, .ref (rA o a0))] := hl
  have w_fl_RX11_86 := hts _ (List.mem_cons_of_mem _ fl_RX11_86)
  have w_fl_RX11_13 := hts _ (List.mem_cons_of_mem _ fl_RX11_13)
  have w_fl_RX11_35 := hts _ (List.mem_cons_of_mem _ fl_RX11_35)
  have w_fl_RX11_19 := hts _ (List.mem_cons_of_mem _ fl_RX11_19)
  unfold wp_X11_keeps at h
  refine lv_aload_n hx hb dX11_keeps_0 rfl (lv_at hl 0 rfl) ?_
  refine j_geti hx hb hts hown hK hG (k := a0) (fun w h => List.mem_cons_of_mem _ (u_X11 w h)) (ci := 10) rfl ka0 3 (by decide) (jz := 3) rfl w_fl_RX11_86 dX11_keeps_1 ?_
  refine lv_bipush (v := J 8) hx hb dX11_keeps_4 (by decide) ?_
  obtain ⟨K16, hK16, h⟩ := h
  have jK16 : ∀ (M15 : jT), K16 M15 → ∀ (H : Heap) (locs : List Loc), GM D cy o M15 s.heap H locs → ∀ ls : Array Slot, lv_has ls 2 [(0, .ref (rA o a0))] → W p l e rm_X11_keeps s m args below meth c H locs 0 0 Qf (F0 m 50 ls []) := by
    intro M15 hcK16 H locs hG ls hl
    have h := hK16 M15 hcK16
    refine lv_iconst (v := J 0) hx hb dX11_keeps_50 (by decide) ?_
    refine lv_istore_n (lv' := [(1, .int (J 0)), (0, .ref (rA o a0))]) hx hb dX11_keeps_51 rfl hl (by decide) rfl (fun ls hl => ?_)
    obtain ⟨I19, ⟨n20s, iI19⟩, qI19⟩ := h
    have lI19 : ∀ (n20 : Nat) (x17 : Int) (M18 : jT), I19 n20 x17 M18 → ∀ (H : Heap) (locs : List Loc), GM D cy o M18 s.heap H locs → ∀ ls : Array Slot, lv_has ls 2 [(0, .ref (rA o a0)), (1, .int (J x17))] → W p l e rm_X11_keeps s m args below meth c H locs 0 0 Qf (F0 m 52 ls []) := by
      intro n20
      induction n20 using Nat.strongRecOn with
      | ind n20 rI19 =>
        intro x17 M18 iI19 H locs hG ls hl
        have h := qI19 n20 x17 M18 iI19
        refine lv_iload_n hx hb dX11_keeps_52 rfl (lv_at hl 1 rfl) ?_
        refine lv_sipush (v := J 1294) hx hb dX11_keeps_53 (by decide) ?_
        obtain ⟨g22, h⟩ := h
        refine j_icmp_ge (tgt := 86) hx hb dX11_keeps_56 (by decide) g22 (by decide) (fun c21 => ?_) (fun c21 => ?_)
        · have h := h.1 c21
          refine lv_aload_n hx hb dX11_keeps_86 rfl (lv_at hl 0 rfl) ?_
          refine lv_dup hx hb dX11_keeps_87 rfl ?_
          refine j_geti hx hb hts hown hK hG (k := a0) (fun w h => List.mem_cons_of_mem _ (u_X11 w h)) (ci := 10) rfl ka0 3 (by decide) (jz := 3) rfl w_fl_RX11_86 dX11_keeps_88 ?_
          refine lv_iconst (v := J 1) hx hb dX11_keeps_91 (by decide) ?_
          refine j_iadd hx hb dX11_keeps_92 ?_
          refine j_puti hx hb hts hown hK hG (k := a0) (fun w h => List.mem_cons_of_mem _ (u_X11 w h)) tyX11 tyX11_ok nmX11 (ci := 10) rfl ka0 3 (by decide) (jz := 3) rfl w_fl_RX11_86 (hd := rfl) (hn := rfl) (hfit := rfl) (hdg := dX11_keeps_93) (fun M23 eM23 H locs hG => ?_)
          have h := h M23 eM23
          refine lv_aload_n hx hb dX11_keeps_96 rfl (lv_at hl 0 rfl) ?_
          refine lv_iconst (v := J (-1)) hx hb dX11_keeps_97 (by decide) ?_
          refine j_puti hx hb hts hown hK hG (k := a0) (fun w h => List.mem_cons_of_mem _ (u_X11 w h)) tyX11 tyX11_ok nmX11 (ci := 10) rfl ka0 14 (by decide) (jz := 14) rfl w_fl_RX11_35 (hd := rfl) (hn := rfl) (hfit := rfl) (hdg := dX11_keeps_98) (fun M24 eM24 H locs hG => ?_)
          have h := h M24 eM24
          rw [hQf]
          exact j_vret hx hb hr hlocks hG h (by decide) dX11_keeps_101
        · have h := h.2 c21
          refine lv_aload_n hx hb dX11_keeps_59 rfl (lv_at hl 0 rfl) ?_
          refine j_getr hx hb hts hown hK hG (k := a0) (fun w h => List.mem_cons_of_mem _ (u_X11 w h)) (ci := 10) rfl ka0 2 (k2 := a0 + 2) (by decide) (by show a0 + (2 : Int) = a0 + 2; omega) w_fl_RX11_13 dX11_keeps_60 ?_
          refine lv_sipush (v := J 1294) hx hb dX11_keeps_63 (by decide) ?_
          refine lv_aload_n hx hb dX11_keeps_66 rfl (lv_at hl 0 rfl) ?_
          refine j_geti hx hb hts hown hK hG (k := a0) (fun w h => List.mem_cons_of_mem _ (u_X11 w h)) (ci := 10) rfl ka0 3 (by decide) (jz := 3) rfl w_fl_RX11_86 dX11_keeps_67 ?_
          refine j_imul hx hb dX11_keeps_70 ?_
          refine lv_iload_n hx hb dX11_keeps_71 rfl (lv_at hl 1 rfl) ?_
          refine j_iadd hx hb dX11_keeps_72 ?_
          refine lv_aload_n hx hb dX11_keeps_73 rfl (lv_at hl 0 rfl) ?_
          refine j_getr hx hb hts hown hK hG (k := a0) (fun w h => List.mem_cons_of_mem _ (u_X11 w h)) (ci := 10) rfl ka0 6 (k2 := a0 + 4) (by decide) (by show a0 + (4 : Int) = a0 + 4; omega) w_fl_RX11_19 dX11_keeps_74 ?_
          refine lv_iload_n hx hb dX11_keeps_77 rfl (lv_at hl 1 rfl) ?_
          obtain ⟨g25, h⟩ := h
          refine j_iald hx hb hK hG (n := 1294) (kf_11_6 ka0) (by decide) g25 dX11_keeps_78 ?_
          obtain ⟨g26, h⟩ := h
          refine j_iast hx hb hK hG (n := 10352) (kf_11_2 ka0) (by decide) g26 dX11_keeps_79 (fun M27 eM27 H locs hG => ?_)
          have h := h M27 eM27
          refine j_iinc hx hb dX11_keeps_80 hl (k := 1) rfl (by decide) (fun x28 ex28 ls hl => ?_)
          have h := h x28 ex28
          have hl : lv_has ls 2 [(1, .int (J x28)), (0, .ref (rA o a0))] := hl
          refine lv_goto (tgt := 52) hx hb dX11_keeps_83 (by decide) ?_
          obtain ⟨n29, ln29, iI19⟩ := h
          exact rI19 n29 ln29 x28 M27 iI19 H locs hG ls (lv_sub hl [1, 0] rfl)
    exact lI19 n20s 0 M15 iI19 H locs hG ls (lv_sub hl [1, 0] rfl)
  obtain ⟨g31, h⟩ := h
  refine j_icmp_ne (tgt := 50) hx hb dX11_keeps_6 (by decide) g31 (by decide) (fun c30 => ?_) (fun c30 => ?_)
  · have h := h.1 c30
    exact jK16 M h H locs hG ls (lv_sub hl [0] rfl)
  · have h := h.2 c30
    refine lv_iconst (v := J 0) hx hb dX11_keeps_9 (by decide) ?_
    refine lv_istore_n (lv' := [(1, .int (J 0)), (0, .ref (rA o a0))]) hx hb dX11_keeps_10 rfl hl (by decide) rfl (fun ls hl => ?_)
    obtain ⟨I34, ⟨n35s, iI34⟩, qI34⟩ := h
    have lI34 : ∀ (n35 : Nat) (x32 : Int) (M33 : jT), I34 n35 x32 M33 → ∀ (H : Heap) (locs : List Loc), GM D cy o M33 s.heap H locs → ∀ ls : Array Slot, lv_has ls 2 [(0, .ref (rA o a0)), (1, .int (J x32))] → W p l e rm_X11_keeps s m args below meth c H locs 0 0 Qf (F0 m 11 ls []) := by
      intro n35
      induction n35 using Nat.strongRecOn with
      | ind n35 rI34 =>
        intro x32 M33 iI34 H locs hG ls hl
        have h := qI34 n35 x32 M33 iI34
        refine lv_iload_n hx hb dX11_keeps_11 rfl (lv_at hl 1 rfl) ?_
        refine lv_sipush (v := J 9058) hx hb dX11_keeps_12 (by decide) ?_
        obtain ⟨g37, h⟩ := h
        refine j_icmp_ge (tgt := 40) hx hb dX11_keeps_15 (by decide) g37 (by decide) (fun c36 => ?_) (fun c36 => ?_)
        · have h := h.1 c36
          refine lv_aload_n hx hb dX11_keeps_40 rfl (lv_at hl 0 rfl) ?_
          refine lv_dup hx hb dX11_keeps_41 rfl ?_
          refine j_geti hx hb hts hown hK hG (k := a0) (fun w h => List.mem_cons_of_mem _ (u_X11 w h)) (ci := 10) rfl ka0 3 (by decide) (jz := 3) rfl w_fl_RX11_86 dX11_keeps_42 ?_
          refine lv_iconst (v := J 1) hx hb dX11_keeps_45 (by decide) ?_
          refine j_isub hx hb dX11_keeps_46 ?_
          refine j_puti hx hb hts hown hK hG (k := a0) (fun w h => List.mem_cons_of_mem _ (u_X11 w h)) tyX11 tyX11_ok nmX11 (ci := 10) rfl ka0 3 (by decide) (jz := 3) rfl w_fl_RX11_86 (hd := rfl) (hn := rfl) (hfit := rfl) (hdg := dX11_keeps_47) (fun M38 eM38 H locs hG => ?_)
          have h := h M38 eM38
          exact jK16 M38 h H locs hG ls (lv_sub hl [0] rfl)
        · have h := h.2 c36
          refine lv_aload_n hx hb dX11_keeps_18 rfl (lv_at hl 0 rfl) ?_
          refine j_getr hx hb hts hown hK hG (k := a0) (fun w h => List.mem_cons_of_mem _ (u_X11 w h)) (ci := 10) rfl ka0 2 (k2 := a0 + 2) (by decide) (by show a0 + (2 : Int) = a0 + 2; omega) w_fl_RX11_13 dX11_keeps_19 ?_
          refine lv_iload_n hx hb dX11_keeps_22 rfl (lv_at hl 1 rfl) ?_
          refine lv_aload_n hx hb dX11_keeps_23 rfl (lv_at hl 0 rfl) ?_
          refine j_getr hx hb hts hown hK hG (k := a0) (fun w h => List.mem_cons_of_mem _ (u_X11 w h)) (ci := 10) rfl ka0 2 (k2 := a0 + 2) (by decide) (by show a0 + (2 : Int) = a0 + 2; omega) w_fl_RX11_13 dX11_keeps_24 ?_
          refine lv_sipush (v := J 1294) hx hb dX11_keeps_27 (by decide) ?_
          refine lv_iload_n hx hb dX11_keeps_30 rfl (lv_at hl 1 rfl) ?_
          refine j_iadd hx hb dX11_keeps_31 ?_
          obtain ⟨g39, h⟩ := h
          refine j_iald hx hb hK hG (n := 10352) (kf_11_2 ka0) (by decide) g39 dX11_keeps_32 ?_
          obtain ⟨g40, h⟩ := h
          refine j_iast hx hb hK hG (n := 10352) (kf_11_2 ka0) (by decide) g40 dX11_keeps_33 (fun M41 eM41 H locs hG => ?_)
          have h := h M41 eM41
          refine j_iinc hx hb dX11_keeps_34 hl (k := 1) rfl (by decide) (fun x42 ex42 ls hl => ?_)
          have h := h x42 ex42
          have hl : lv_has ls 2 [(1, .int (J x42)), (0, .ref (rA o a0))] := hl
          refine lv_goto (tgt := 11) hx hb dX11_keeps_37 (by decide) ?_
          obtain ⟨n43, ln43, iI34⟩ := h
          exact rI34 n43 ln43 x42 M41 iI34 H locs hG ls (lv_sub hl [1, 0] rfl)
    exact lI34 n35s 0 M iI34 H locs hG ls (lv_sub hl [1, 0] rfl)

abbrev rm_X11_changes : Room := { frames := 1, cells := 0, slots := 0, locals := 21 }
set_option maxRecDepth 100000 in
set_option maxHeartbeats 4000000 in
theorem A_X11_changes (l : Launch) {D : va_G} {cy : Nat → ClassId} {o : Nat} {sK sV : Nat → Nat} {M : jT} {a0 : Int} (ka0 : kd a0 = 11) {Q : jT → Prop} (h : wp_X11_changes M a0 Q) : CoV l yX11_changes (wj yX11_changes cX11_changes 2 none) rm_X11_changes D cy o sK sV M [.ref (rA o a0)] Q := by
  refine j_ofW (cc := cX11_changes) (maxL := 2) (ret := none) (by decide) rfl (Nat.le_of_ble_eq_true rfl) ?_
  intro p e s m args below meth c hx hb hr hlocks hml hown hts hK hSX H locs hG ls hl Qf hQf
  have hown : s.vm.findClass RX11 = some m.cls := hown
  have hl : lv_has ls 2 [(0, .ref (rA o a0))] := hl
  have w_fl_RX11_19 := hts _ (List.mem_cons_of_mem _ fl_RX11_19)
  have w_fl_RX11_9 := hts _ (List.mem_cons_of_mem _ fl_RX11_9)
  unfold wp_X11_changes at h
  refine lv_iconst (v := J 0) hx hb dX11_changes_0 (by decide) ?_
  refine lv_istore_n (lv' := [(1, .int (J 0)), (0, .ref (rA o a0))]) hx hb dX11_changes_1 rfl hl (by decide) rfl (fun ls hl => ?_)
  obtain ⟨I3, ⟨n4s, iI3⟩, qI3⟩ := h
  have lI3 : ∀ (n4 : Nat) (x1 : Int) (M2 : jT), I3 n4 x1 M2 → ∀ (H : Heap) (locs : List Loc), GM D cy o M2 s.heap H locs → ∀ ls : Array Slot, lv_has ls 2 [(0, .ref (rA o a0)), (1, .int (J x1))] → W p l e rm_X11_changes s m args below meth c H locs 0 0 Qf (F0 m 2 ls []) := by
    intro n4
    induction n4 using Nat.strongRecOn with
    | ind n4 rI3 =>
      intro x1 M2 iI3 H locs hG ls hl
      have h := qI3 n4 x1 M2 iI3
      refine lv_iload_n hx hb dX11_changes_2 rfl (lv_at hl 1 rfl) ?_
      refine lv_sipush (v := J 1294) hx hb dX11_changes_3 (by decide) ?_
      obtain ⟨g6, h⟩ := h
      refine j_icmp_ge (tgt := 27) hx hb dX11_changes_6 (by decide) g6 (by decide) (fun c5 => ?_) (fun c5 => ?_)
      · have h := h.1 c5
        refine lv_aload_n hx hb dX11_changes_27 rfl (lv_at hl 0 rfl) ?_
        refine j_contv (va_runV (As := []) (rest := []) ⟨hx, hb, hml, hown, hts⟩ (A_X11_keeps l ka0 h) (cwV 0 hts (gj_V ml_RX11_83 i_X11_keeps s_X11_keeps n_RX11 k_X11_keeps) rfl rfl rfl (by decide +kernel) ⟨by exact Nat.le_of_ble_eq_true rfl, by exact Nat.le_of_ble_eq_true rfl⟩) (j_preV hK hSX hG (ci := 10) rfl ka0 (by decide)) rfl rfl hl.1 rfl (lv_room (Nat.le_of_ble_eq_true rfl)) dX11_changes_28 ⟨by exact Nat.le_of_ble_eq_true rfl, by exact Nat.le_of_ble_eq_true rfl⟩) hG (c2 := 0) (s2 := 0) ⟨by exact Nat.le_of_ble_eq_true rfl, by exact Nat.le_of_ble_eq_true rfl⟩ (fun M8 h H locs hG => ?_)
        rw [hQf]
        exact j_vret hx hb hr hlocks hG h (by decide) dX11_changes_31
      · have h := h.2 c5
        refine lv_aload_n hx hb dX11_changes_9 rfl (lv_at hl 0 rfl) ?_
        refine j_getr hx hb hts hown hK hG (k := a0) (fun w h => List.mem_cons_of_mem _ (u_X11 w h)) (ci := 10) rfl ka0 6 (k2 := a0 + 4) (by decide) (by show a0 + (4 : Int) = a0 + 4; omega) w_fl_RX11_19 dX11_changes_10 ?_
        refine lv_iload_n hx hb dX11_changes_13 rfl (lv_at hl 1 rfl) ?_
        refine lv_aload_n hx hb dX11_changes_14 rfl (lv_at hl 0 rfl) ?_
        refine j_getr hx hb hts hown hK hG (k := a0) (fun w h => List.mem_cons_of_mem _ (u_X11 w h)) (ci := 10) rfl ka0 1 (k2 := a0 + 1) (by decide) (by show a0 + (1 : Int) = a0 + 1; omega) w_fl_RX11_9 dX11_changes_15 ?_
        refine lv_iload_n hx hb dX11_changes_18 rfl (lv_at hl 1 rfl) ?_
        obtain ⟨g9, h⟩ := h
        refine j_iald hx hb hK hG (n := 1294) (kf_11_1 ka0) (by decide) g9 dX11_changes_19 ?_
        refine j_iast hx hb hK hG (n := 1294) (kf_11_6 ka0) (by decide) g9 dX11_changes_20 (fun M10 eM10 H locs hG => ?_)
        have h := h M10 eM10
        refine j_iinc hx hb dX11_changes_21 hl (k := 1) rfl (by decide) (fun x11 ex11 ls hl => ?_)
        have h := h x11 ex11
        have hl : lv_has ls 2 [(1, .int (J x11)), (0, .ref (rA o a0))] := hl
        refine lv_goto (tgt := 2) hx hb dX11_changes_24 (by decide) ?_
        obtain ⟨n12, ln12, iI3⟩ := h
        exact rI3 n12 ln12 x11 M10 iI3 H locs hG ls (lv_sub hl [1, 0] rfl)
  exact lI3 n4s 0 M iI3 H locs hG ls (lv_sub hl [1, 0] rfl)

abbrev rm_X11_yearDay : Room := { frames := 0, cells := 0, slots := 0, locals := 0 }
set_option maxRecDepth 100000 in
set_option maxHeartbeats 4000000 in
theorem A_X11_yearDay (l : Launch) {D : va_G} {cy : Nat → ClassId} {o : Nat} {sK sV : Nat → Nat} {M : jT} {a0 : Int} (h : pg_X11_yearDay a0) : CoI l yX11_yearDay (wj yX11_yearDay cX11_yearDay 1 (some .int)) rm_X11_yearDay D cy o sK sV M [.int (J a0)] (fun z M9 => z = pf_X11_yearDay a0 ∧ M9 = M) := by
  refine j_ofW (cc := cX11_yearDay) (maxL := 1) (ret := (some .int)) (by decide) rfl (Nat.le_of_ble_eq_true rfl) ?_
  intro p e s m args below meth c hx hb hr hlocks hml hown hts hK hSX H locs hG ls hl Qf hQf
  have hown : s.vm.findClass RX11 = some m.cls := hown
  have hl : lv_has ls 1 [(0, .int (J a0))] := hl
  unfold pg_X11_yearDay at h
  refine lv_sipush (v := J 365) hx hb dX11_yearDay_0 (by decide) ?_
  refine lv_iload_n hx hb dX11_yearDay_3 rfl (lv_at hl 0 rfl) ?_
  refine j_imul hx hb dX11_yearDay_4 ?_
  refine lv_iload_n hx hb dX11_yearDay_5 rfl (lv_at hl 0 rfl) ?_
  refine lv_iconst (v := J 3) hx hb dX11_yearDay_6 (by decide) ?_
  refine j_iadd hx hb dX11_yearDay_7 ?_
  refine lv_iconst (v := J 4) hx hb dX11_yearDay_8 (by decide) ?_
  obtain ⟨g1, h⟩ := h
  refine j_idiv hx hb dX11_yearDay_9 g1 (by decide) ?_
  refine j_iadd hx hb dX11_yearDay_10 ?_
  rw [hQf]
  exact j_ireti hx hb hr hlocks hG ⟨rfl, rfl⟩ (by decide) dX11_yearDay_11

abbrev rm_X11_monthLength : Room := { frames := 0, cells := 0, slots := 0, locals := 0 }
set_option maxRecDepth 100000 in
set_option maxHeartbeats 4000000 in
theorem A_X11_monthLength (l : Launch) {D : va_G} {cy : Nat → ClassId} {o : Nat} {sK sV : Nat → Nat} {M : jT} {a0 : Int} {a1 : Int} (h : pg_X11_monthLength a0 a1) : CoI l yX11_monthLength (wj yX11_monthLength cX11_monthLength 2 (some .int)) rm_X11_monthLength D cy o sK sV M [.int (J a0), .int (J a1)] (fun z M9 => z = pf_X11_monthLength a0 a1 ∧ M9 = M) := by
  refine j_ofW (cc := cX11_monthLength) (maxL := 2) (ret := (some .int)) (by decide) rfl (Nat.le_of_ble_eq_true rfl) ?_
  intro p e s m args below meth c hx hb hr hlocks hml hown hts hK hSX H locs hG ls hl Qf hQf
  have hown : s.vm.findClass RX11 = some m.cls := hown
  have hl : lv_has ls 2 [(0, .int (J a0)), (1, .int (J a1))] := hl
  unfold pg_X11_monthLength at h
  refine lv_iload_n hx hb dX11_monthLength_0 rfl (lv_at hl 1 rfl) ?_
  obtain ⟨g1, h⟩ := h
  rcases em_eqI (a1) 2 with c2 | c2_0
  · refine j_tsw hx hb dX11_monthLength_1 g1 (k := 2) (tgt := 56) c2 ⟨by decide, by decide, rfl⟩ (by decide) ?_
    have h := h.1 c2
    refine lv_iload_n hx hb dX11_monthLength_56 rfl (lv_at hl 0 rfl) ?_
    refine lv_iconst (v := J 4) hx hb dX11_monthLength_57 (by decide) ?_
    obtain ⟨g3, h⟩ := h
    refine j_irem hx hb dX11_monthLength_58 g3 (by decide) ?_
    obtain ⟨g5, h⟩ := h
    refine j_if_ne (tgt := 67) hx hb dX11_monthLength_59 (by decide) g5 (fun c4 => ?_) (fun c4 => ?_)
    · have h := h.1 c4
      refine lv_bipush (v := J 28) hx hb dX11_monthLength_67 (by decide) ?_
      rw [hQf]
      exact j_ireti hx hb hr hlocks hG ⟨(by unfold pf_X11_monthLength; rw [if_pos c2, if_pos c4]), rfl⟩ (by decide) dX11_monthLength_69
    · have h := h.2 c4
      refine lv_bipush (v := J 29) hx hb dX11_monthLength_62 (by decide) ?_
      refine lv_goto (tgt := 69) hx hb dX11_monthLength_64 (by decide) ?_
      rw [hQf]
      exact j_ireti hx hb hr hlocks hG ⟨(by unfold pf_X11_monthLength; rw [if_pos c2, if_neg (show ¬ (a0 % 4 ≠ 0) from by omega)]), rfl⟩ (by decide) dX11_monthLength_69
  · rcases em_eqI (a1) 3 with c2 | c2_1
    · refine j_tsw hx hb dX11_monthLength_1 g1 (k := 3) (tgt := 73) c2 ⟨by decide, by decide, rfl⟩ (by decide) ?_
      have h := h.2.1 c2
      refine lv_bipush (v := J 31) hx hb dX11_monthLength_73 (by decide) ?_
      rw [hQf]
      exact j_ireti hx hb hr hlocks hG ⟨(by unfold pf_X11_monthLength; rw [if_neg (show ¬ (a1 = 2) from by omega), if_pos c2]), rfl⟩ (by decide) dX11_monthLength_75
    · rcases em_eqI (a1) 4 with c2 | c2_2
      · refine j_tsw hx hb dX11_monthLength_1 g1 (k := 4) (tgt := 70) c2 ⟨by decide, by decide, rfl⟩ (by decide) ?_
        have h := h.2.2.1 c2
        refine lv_bipush (v := J 30) hx hb dX11_monthLength_70 (by decide) ?_
        rw [hQf]
        exact j_ireti hx hb hr hlocks hG ⟨(by unfold pf_X11_monthLength; rw [if_neg (show ¬ (a1 = 2) from by omega), if_neg (show ¬ (a1 = 3) from by omega), if_pos c2]), rfl⟩ (by decide) dX11_monthLength_72
      · rcases em_eqI (a1) 5 with c2 | c2_3
        · refine j_tsw hx hb dX11_monthLength_1 g1 (k := 5) (tgt := 73) c2 ⟨by decide, by decide, rfl⟩ (by decide) ?_
          have h := h.2.2.2.1 c2
          refine lv_bipush (v := J 31) hx hb dX11_monthLength_73 (by decide) ?_
          rw [hQf]
          exact j_ireti hx hb hr hlocks hG ⟨(by unfold pf_X11_monthLength; rw [if_neg (show ¬ (a1 = 2) from by omega), if_neg (show ¬ (a1 = 3) from by omega), if_neg (show ¬ (a1 = 4) from by omega), if_pos c2]), rfl⟩ (by decide) dX11_monthLength_75
        · rcases em_eqI (a1) 6 with c2 | c2_4
          · refine j_tsw hx hb dX11_monthLength_1 g1 (k := 6) (tgt := 70) c2 ⟨by decide, by decide, rfl⟩ (by decide) ?_
            have h := h.2.2.2.2.1 c2
            refine lv_bipush (v := J 30) hx hb dX11_monthLength_70 (by decide) ?_
            rw [hQf]
            exact j_ireti hx hb hr hlocks hG ⟨(by unfold pf_X11_monthLength; rw [if_neg (show ¬ (a1 = 2) from by omega), if_neg (show ¬ (a1 = 3) from by omega), if_neg (show ¬ (a1 = 4) from by omega), if_neg (show ¬ (a1 = 5) from by omega), if_pos c2]), rfl⟩ (by decide) dX11_monthLength_72
          · rcases em_eqI (a1) 7 with c2 | c2_5
            · refine j_tsw hx hb dX11_monthLength_1 g1 (k := 7) (tgt := 73) c2 ⟨by decide, by decide, rfl⟩ (by decide) ?_
              have h := h.2.2.2.2.2.1 c2
              refine lv_bipush (v := J 31) hx hb dX11_monthLength_73 (by decide) ?_
              rw [hQf]
              exact j_ireti hx hb hr hlocks hG ⟨(by unfold pf_X11_monthLength; rw [if_neg (show ¬ (a1 = 2) from by omega), if_neg (show ¬ (a1 = 3) from by omega), if_neg (show ¬ (a1 = 4) from by omega), if_neg (show ¬ (a1 = 5) from by omega), if_neg (show ¬ (a1 = 6) from by omega), if_pos c2]), rfl⟩ (by decide) dX11_monthLength_75
            · rcases em_eqI (a1) 8 with c2 | c2_6
              · refine j_tsw hx hb dX11_monthLength_1 g1 (k := 8) (tgt := 73) c2 ⟨by decide, by decide, rfl⟩ (by decide) ?_
                have h := h.2.2.2.2.2.2.1 c2
                refine lv_bipush (v := J 31) hx hb dX11_monthLength_73 (by decide) ?_
                rw [hQf]
                exact j_ireti hx hb hr hlocks hG ⟨(by unfold pf_X11_monthLength; rw [if_neg (show ¬ (a1 = 2) from by omega), if_neg (show ¬ (a1 = 3) from by omega), if_neg (show ¬ (a1 = 4) from by omega), if_neg (show ¬ (a1 = 5) from by omega), if_neg (show ¬ (a1 = 6) from by omega), if_neg (show ¬ (a1 = 7) from by omega), if_pos c2]), rfl⟩ (by decide) dX11_monthLength_75
              · rcases em_eqI (a1) 9 with c2 | c2_7
                · refine j_tsw hx hb dX11_monthLength_1 g1 (k := 9) (tgt := 70) c2 ⟨by decide, by decide, rfl⟩ (by decide) ?_
                  have h := h.2.2.2.2.2.2.2.1 c2
                  refine lv_bipush (v := J 30) hx hb dX11_monthLength_70 (by decide) ?_
                  rw [hQf]
                  exact j_ireti hx hb hr hlocks hG ⟨(by unfold pf_X11_monthLength; rw [if_neg (show ¬ (a1 = 2) from by omega), if_neg (show ¬ (a1 = 3) from by omega), if_neg (show ¬ (a1 = 4) from by omega), if_neg (show ¬ (a1 = 5) from by omega), if_neg (show ¬ (a1 = 6) from by omega), if_neg (show ¬ (a1 = 7) from by omega), if_neg (show ¬ (a1 = 8) from by omega), if_pos c2]), rfl⟩ (by decide) dX11_monthLength_72
                · rcases em_eqI (a1) 10 with c2 | c2_8
                  · refine j_tsw hx hb dX11_monthLength_1 g1 (k := 10) (tgt := 73) c2 ⟨by decide, by decide, rfl⟩ (by decide) ?_
                    have h := h.2.2.2.2.2.2.2.2.1 c2
                    refine lv_bipush (v := J 31) hx hb dX11_monthLength_73 (by decide) ?_
                    rw [hQf]
                    exact j_ireti hx hb hr hlocks hG ⟨(by unfold pf_X11_monthLength; rw [if_neg (show ¬ (a1 = 2) from by omega), if_neg (show ¬ (a1 = 3) from by omega), if_neg (show ¬ (a1 = 4) from by omega), if_neg (show ¬ (a1 = 5) from by omega), if_neg (show ¬ (a1 = 6) from by omega), if_neg (show ¬ (a1 = 7) from by omega), if_neg (show ¬ (a1 = 8) from by omega), if_neg (show ¬ (a1 = 9) from by omega), if_pos c2]), rfl⟩ (by decide) dX11_monthLength_75
                  · rcases em_eqI (a1) 11 with c2 | c2_9
                    · refine j_tsw hx hb dX11_monthLength_1 g1 (k := 11) (tgt := 70) c2 ⟨by decide, by decide, rfl⟩ (by decide) ?_
                      have h := h.2.2.2.2.2.2.2.2.2.1 c2
                      refine lv_bipush (v := J 30) hx hb dX11_monthLength_70 (by decide) ?_
                      rw [hQf]
                      exact j_ireti hx hb hr hlocks hG ⟨(by unfold pf_X11_monthLength; rw [if_neg (show ¬ (a1 = 2) from by omega), if_neg (show ¬ (a1 = 3) from by omega), if_neg (show ¬ (a1 = 4) from by omega), if_neg (show ¬ (a1 = 5) from by omega), if_neg (show ¬ (a1 = 6) from by omega), if_neg (show ¬ (a1 = 7) from by omega), if_neg (show ¬ (a1 = 8) from by omega), if_neg (show ¬ (a1 = 9) from by omega), if_neg (show ¬ (a1 = 10) from by omega), if_pos c2]), rfl⟩ (by decide) dX11_monthLength_72
                    · have c2 : a1 ≠ 2 ∧ a1 ≠ 3 ∧ a1 ≠ 4 ∧ a1 ≠ 5 ∧ a1 ≠ 6 ∧ a1 ≠ 7 ∧ a1 ≠ 8 ∧ a1 ≠ 9 ∧ a1 ≠ 10 ∧ a1 ≠ 11 := ⟨c2_0, c2_1, c2_2, c2_3, c2_4, c2_5, c2_6, c2_7, c2_8, c2_9⟩
                      have h := h.2.2.2.2.2.2.2.2.2.2 c2
                      refine j_tswd hx hb dX11_monthLength_1 g1 (tgt := 73) (by omega) (by decide) ?_
                      refine lv_bipush (v := J 31) hx hb dX11_monthLength_73 (by decide) ?_
                      rw [hQf]
                      exact j_ireti hx hb hr hlocks hG ⟨(by unfold pf_X11_monthLength; rw [if_neg (show ¬ (a1 = 2) from by omega), if_neg (show ¬ (a1 = 3) from by omega), if_neg (show ¬ (a1 = 4) from by omega), if_neg (show ¬ (a1 = 5) from by omega), if_neg (show ¬ (a1 = 6) from by omega), if_neg (show ¬ (a1 = 7) from by omega), if_neg (show ¬ (a1 = 8) from by omega), if_neg (show ¬ (a1 = 9) from by omega), if_neg (show ¬ (a1 = 10) from by omega), if_neg (show ¬ (a1 = 11) from by omega)]), rfl⟩ (by decide) dX11_monthLength_75

abbrev rm_X11_monthDay : Room := { frames := 1, cells := 0, slots := 0, locals := 21 }
set_option maxRecDepth 100000 in
set_option maxHeartbeats 4000000 in
theorem A_X11_monthDay (l : Launch) {D : va_G} {cy : Nat → ClassId} {o : Nat} {sK sV : Nat → Nat} {M : jT} {a0 : Int} {a1 : Int} {Q : Int → Prop} (h : wp_X11_monthDay M a0 a1 Q) : CoI l yX11_monthDay (wj yX11_monthDay cX11_monthDay 4 (some .int)) rm_X11_monthDay D cy o sK sV M [.int (J a0), .int (J a1)] (fun z M9 => Q z ∧ M9 = M) := by
  refine j_ofW (cc := cX11_monthDay) (maxL := 4) (ret := (some .int)) (by decide) rfl (Nat.le_of_ble_eq_true rfl) ?_
  intro p e s m args below meth c hx hb hr hlocks hml hown hts hK hSX H locs hG ls hl Qf hQf
  have hown : s.vm.findClass RX11 = some m.cls := hown
  have hl : lv_has ls 4 [(0, .int (J a0)), (1, .int (J a1))] := hl
  unfold wp_X11_monthDay at h
  refine lv_iload_n hx hb dX11_monthDay_0 rfl (lv_at hl 0 rfl) ?_
  obtain ⟨g1, h⟩ := h
  refine j_conti (va_runS (As := [.int (J a0)]) (rest := []) ⟨hx, hb, hml, hown, hts⟩ (A_X11_yearDay l g1) (va_cwS 1 hts (gj_S ml_RX11_89 i_X11_yearDay n_RX11 k_X11_yearDay) rfl rfl rfl (by decide +kernel) ⟨by exact Nat.le_of_ble_eq_true rfl, by exact Nat.le_of_ble_eq_true rfl⟩) (j_preS hK hSX hG) rfl rfl hl.1 rfl (lv_room (Nat.le_of_ble_eq_true rfl)) dX11_monthDay_1 ⟨by exact Nat.le_of_ble_eq_true rfl, by exact Nat.le_of_ble_eq_true rfl⟩) hG (c2 := 0) (s2 := 0) ⟨by exact Nat.le_of_ble_eq_true rfl, by exact Nat.le_of_ble_eq_true rfl⟩ (fun z2 M3 ez2 H locs hG => ?_)
  obtain ⟨ez2, eM3⟩ := ez2
  subst ez2
  rw [eM3] at hG
  refine j_topi (fun x4 ex4 => ?_)
  have h := h x4 ex4
  refine lv_istore_n (lv' := [(2, .int (J x4)), (0, .int (J a0)), (1, .int (J a1))]) hx hb dX11_monthDay_4 rfl hl (by decide) rfl (fun ls hl => ?_)
  refine lv_iconst (v := J 1) hx hb dX11_monthDay_5 (by decide) ?_
  refine lv_istore_n (lv' := [(3, .int (J 1)), (2, .int (J x4)), (0, .int (J a0)), (1, .int (J a1))]) hx hb dX11_monthDay_6 rfl hl (by decide) rfl (fun ls hl => ?_)
  obtain ⟨I7, ⟨n8s, iI7⟩, qI7⟩ := h
  have lI7 : ∀ (n8 : Nat) (x5 : Int) (x6 : Int), I7 n8 x5 x6 → ∀ (H : Heap) (locs : List Loc), GM D cy o M s.heap H locs → ∀ ls : Array Slot, lv_has ls 4 [(0, .int (J a0)), (1, .int (J a1)), (2, .int (J x5)), (3, .int (J x6))] → W p l e rm_X11_monthDay s m args below meth c H locs 0 0 Qf (F0 m 7 ls []) := by
    intro n8
    induction n8 using Nat.strongRecOn with
    | ind n8 rI7 =>
      intro x5 x6 iI7 H locs hG ls hl
      have h := qI7 n8 x5 x6 iI7
      refine lv_iload_n hx hb dX11_monthDay_7 rfl (lv_at hl 3 rfl) ?_
      refine lv_iload_n hx hb dX11_monthDay_8 rfl (lv_at hl 1 rfl) ?_
      obtain ⟨g10, h⟩ := h
      obtain ⟨g11, h⟩ := h
      refine j_icmp_ge (tgt := 26) hx hb dX11_monthDay_9 (by decide) g10 g11 (fun c9 => ?_) (fun c9 => ?_)
      · have h := h.1 c9
        refine lv_iload_n hx hb dX11_monthDay_26 rfl (lv_at hl 2 rfl) ?_
        rw [hQf]
        exact j_ireti hx hb hr hlocks hG ⟨h, rfl⟩ (by decide) dX11_monthDay_27
      · have h := h.2 c9
        refine lv_iload_n hx hb dX11_monthDay_12 rfl (lv_at hl 2 rfl) ?_
        refine lv_iload_n hx hb dX11_monthDay_13 rfl (lv_at hl 0 rfl) ?_
        refine lv_iload_n hx hb dX11_monthDay_14 rfl (lv_at hl 3 rfl) ?_
        obtain ⟨g12, h⟩ := h
        refine j_conti (va_runS (As := [.int (J a0), .int (J x6)]) (rest := [.int (J x5)]) ⟨hx, hb, hml, hown, hts⟩ (A_X11_monthLength l g12) (va_cwS 2 hts (gj_S ml_RX11_93 i_X11_monthLength n_RX11 k_X11_monthLength) rfl rfl rfl (by decide +kernel) ⟨by exact Nat.le_of_ble_eq_true rfl, by exact Nat.le_of_ble_eq_true rfl⟩) (j_preS hK hSX hG) rfl rfl hl.1 rfl (lv_room (Nat.le_of_ble_eq_true rfl)) dX11_monthDay_15 ⟨by exact Nat.le_of_ble_eq_true rfl, by exact Nat.le_of_ble_eq_true rfl⟩) hG (c2 := 0) (s2 := 0) ⟨by exact Nat.le_of_ble_eq_true rfl, by exact Nat.le_of_ble_eq_true rfl⟩ (fun z13 M14 ez13 H locs hG => ?_)
        obtain ⟨ez13, eM14⟩ := ez13
        subst ez13
        rw [eM14] at hG
        refine j_iadd hx hb dX11_monthDay_18 ?_
        refine j_topi (fun x15 ex15 => ?_)
        have h := h x15 ex15
        refine lv_istore_n (lv' := [(2, .int (J x15)), (0, .int (J a0)), (1, .int (J a1)), (3, .int (J x6))]) hx hb dX11_monthDay_19 rfl hl (by decide) rfl (fun ls hl => ?_)
        refine j_iinc hx hb dX11_monthDay_20 hl (k := 3) rfl (by decide) (fun x16 ex16 ls hl => ?_)
        have h := h x16 ex16
        have hl : lv_has ls 4 [(3, .int (J x16)), (2, .int (J x15)), (0, .int (J a0)), (1, .int (J a1))] := hl
        refine lv_goto (tgt := 7) hx hb dX11_monthDay_23 (by decide) ?_
        obtain ⟨n17, ln17, iI7⟩ := h
        exact rI7 n17 ln17 x15 x16 iI7 H locs hG ls (lv_sub hl [2, 3, 1, 0] rfl)
  exact lI7 n8s x4 1 iI7 H locs hG ls (lv_sub hl [2, 3, 1, 0] rfl)

abbrev rm_X11_weekday : Room := { frames := 0, cells := 0, slots := 0, locals := 0 }
set_option maxRecDepth 100000 in
set_option maxHeartbeats 4000000 in
theorem A_X11_weekday (l : Launch) {D : va_G} {cy : Nat → ClassId} {o : Nat} {sK sV : Nat → Nat} {M : jT} {a0 : Int} (h : pg_X11_weekday a0) : CoI l yX11_weekday (wj yX11_weekday cX11_weekday 1 (some .int)) rm_X11_weekday D cy o sK sV M [.int (J a0)] (fun z M9 => z = pf_X11_weekday a0 ∧ M9 = M) := by
  refine j_ofW (cc := cX11_weekday) (maxL := 1) (ret := (some .int)) (by decide) rfl (Nat.le_of_ble_eq_true rfl) ?_
  intro p e s m args below meth c hx hb hr hlocks hml hown hts hK hSX H locs hG ls hl Qf hQf
  have hown : s.vm.findClass RX11 = some m.cls := hown
  have hl : lv_has ls 1 [(0, .int (J a0))] := hl
  unfold pg_X11_weekday at h
  refine lv_iload_n hx hb dX11_weekday_0 rfl (lv_at hl 0 rfl) ?_
  refine lv_iconst (v := J 5) hx hb dX11_weekday_1 (by decide) ?_
  refine j_iadd hx hb dX11_weekday_2 ?_
  refine lv_bipush (v := J 7) hx hb dX11_weekday_3 (by decide) ?_
  obtain ⟨g1, h⟩ := h
  refine j_irem hx hb dX11_weekday_5 g1 (by decide) ?_
  rw [hQf]
  exact j_ireti hx hb hr hlocks hG ⟨rfl, rfl⟩ (by decide) dX11_weekday_6

abbrev rm_X11_yearOf : Room := { frames := 1, cells := 0, slots := 0, locals := 20 }
set_option maxRecDepth 100000 in
set_option maxHeartbeats 4000000 in
theorem A_X11_yearOf (l : Launch) {D : va_G} {cy : Nat → ClassId} {o : Nat} {sK sV : Nat → Nat} {M : jT} {a0 : Int} {Q : Int → Prop} (h : wp_X11_yearOf M a0 Q) : CoI l yX11_yearOf (wj yX11_yearOf cX11_yearOf 2 (some .int)) rm_X11_yearOf D cy o sK sV M [.int (J a0)] (fun z M9 => Q z ∧ M9 = M) := by
  refine j_ofW (cc := cX11_yearOf) (maxL := 2) (ret := (some .int)) (by decide) rfl (Nat.le_of_ble_eq_true rfl) ?_
  intro p e s m args below meth c hx hb hr hlocks hml hown hts hK hSX H locs hG ls hl Qf hQf
  have hown : s.vm.findClass RX11 = some m.cls := hown
  have hl : lv_has ls 2 [(0, .int (J a0))] := hl
  unfold wp_X11_yearOf at h
  refine lv_iconst (v := J 0) hx hb dX11_yearOf_0 (by decide) ?_
  refine lv_istore_n (lv' := [(1, .int (J 0)), (0, .int (J a0))]) hx hb dX11_yearOf_1 rfl hl (by decide) rfl (fun ls hl => ?_)
  obtain ⟨I2, ⟨n3s, iI2⟩, qI2⟩ := h
  have lI2 : ∀ (n3 : Nat) (x1 : Int), I2 n3 x1 → ∀ (H : Heap) (locs : List Loc), GM D cy o M s.heap H locs → ∀ ls : Array Slot, lv_has ls 2 [(0, .int (J a0)), (1, .int (J x1))] → W p l e rm_X11_yearOf s m args below meth c H locs 0 0 Qf (F0 m 2 ls []) := by
    intro n3
    induction n3 using Nat.strongRecOn with
    | ind n3 rI2 =>
      intro x1 iI2 H locs hG ls hl
      have h := qI2 n3 x1 iI2
      refine lv_iload_n hx hb dX11_yearOf_2 rfl (lv_at hl 1 rfl) ?_
      refine lv_iconst (v := J 1) hx hb dX11_yearOf_3 (by decide) ?_
      refine j_iadd hx hb dX11_yearOf_4 ?_
      obtain ⟨g4, h⟩ := h
      refine j_conti (va_runS (As := [.int (J (x1 + 1))]) (rest := []) ⟨hx, hb, hml, hown, hts⟩ (A_X11_yearDay l g4) (va_cwS 1 hts (gj_S ml_RX11_89 i_X11_yearDay n_RX11 k_X11_yearDay) rfl rfl rfl (by decide +kernel) ⟨by exact Nat.le_of_ble_eq_true rfl, by exact Nat.le_of_ble_eq_true rfl⟩) (j_preS hK hSX hG) rfl rfl hl.1 rfl (lv_room (Nat.le_of_ble_eq_true rfl)) dX11_yearOf_5 ⟨by exact Nat.le_of_ble_eq_true rfl, by exact Nat.le_of_ble_eq_true rfl⟩) hG (c2 := 0) (s2 := 0) ⟨by exact Nat.le_of_ble_eq_true rfl, by exact Nat.le_of_ble_eq_true rfl⟩ (fun z5 M6 ez5 H locs hG => ?_)
      obtain ⟨ez5, eM6⟩ := ez5
      subst ez5
      rw [eM6] at hG
      refine lv_iload_n hx hb dX11_yearOf_8 rfl (lv_at hl 0 rfl) ?_
      obtain ⟨g8, h⟩ := h
      obtain ⟨g9, h⟩ := h
      refine j_icmp_gt (tgt := 18) hx hb dX11_yearOf_9 (by decide) g8 g9 (fun c7 => ?_) (fun c7 => ?_)
      · have h := h.1 c7
        refine lv_iload_n hx hb dX11_yearOf_18 rfl (lv_at hl 1 rfl) ?_
        rw [hQf]
        exact j_ireti hx hb hr hlocks hG ⟨h, rfl⟩ (by decide) dX11_yearOf_19
      · have h := h.2 c7
        refine j_iinc hx hb dX11_yearOf_12 hl (k := 1) rfl (by decide) (fun x10 ex10 ls hl => ?_)
        have h := h x10 ex10
        have hl : lv_has ls 2 [(1, .int (J x10)), (0, .int (J a0))] := hl
        refine lv_goto (tgt := 2) hx hb dX11_yearOf_15 (by decide) ?_
        obtain ⟨n11, ln11, iI2⟩ := h
        exact rI2 n11 ln11 x10 iI2 H locs hG ls (lv_sub hl [1, 0] rfl)
  exact lI2 n3s 0 iI2 H locs hG ls (lv_sub hl [1, 0] rfl)

abbrev rm_X11_monthOf : Room := { frames := 2, cells := 0, slots := 0, locals := 44 }
set_option maxRecDepth 100000 in
set_option maxHeartbeats 4000000 in
theorem A_X11_monthOf (l : Launch) {D : va_G} {cy : Nat → ClassId} {o : Nat} {sK sV : Nat → Nat} {M : jT} {a0 : Int} {Q : Int → Prop} (h : wp_X11_monthOf M a0 Q) : CoI l yX11_monthOf (wj yX11_monthOf cX11_monthOf 3 (some .int)) rm_X11_monthOf D cy o sK sV M [.int (J a0)] (fun z M9 => Q z ∧ M9 = M) := by
  refine j_ofW (cc := cX11_monthOf) (maxL := 3) (ret := (some .int)) (by decide) rfl (Nat.le_of_ble_eq_true rfl) ?_
  intro p e s m args below meth c hx hb hr hlocks hml hown hts hK hSX H locs hG ls hl Qf hQf
  have hown : s.vm.findClass RX11 = some m.cls := hown
  have hl : lv_has ls 3 [(0, .int (J a0))] := hl
  unfold wp_X11_monthOf at h
  refine lv_iload_n hx hb dX11_monthOf_0 rfl (lv_at hl 0 rfl) ?_
  refine j_conti (va_runS (As := [.int (J a0)]) (rest := []) ⟨hx, hb, hml, hown, hts⟩ (A_X11_yearOf l h) (va_cwS 1 hts (gj_S ml_RX11_97 i_X11_yearOf n_RX11 k_X11_yearOf) rfl rfl rfl (by decide +kernel) ⟨by exact Nat.le_of_ble_eq_true rfl, by exact Nat.le_of_ble_eq_true rfl⟩) (j_preS hK hSX hG) rfl rfl hl.1 rfl (lv_room (Nat.le_of_ble_eq_true rfl)) dX11_monthOf_1 ⟨by exact Nat.le_of_ble_eq_true rfl, by exact Nat.le_of_ble_eq_true rfl⟩) hG (c2 := 0) (s2 := 0) ⟨by exact Nat.le_of_ble_eq_true rfl, by exact Nat.le_of_ble_eq_true rfl⟩ (fun z1 M2 h H locs hG => ?_)
  obtain ⟨h, eM2⟩ := h
  rw [eM2] at hG
  refine lv_istore_n (lv' := [(1, .int (J z1)), (0, .int (J a0))]) hx hb dX11_monthOf_4 rfl hl (by decide) rfl (fun ls hl => ?_)
  refine lv_iconst (v := J 1) hx hb dX11_monthOf_5 (by decide) ?_
  refine lv_istore_n (lv' := [(2, .int (J 1)), (1, .int (J z1)), (0, .int (J a0))]) hx hb dX11_monthOf_6 rfl hl (by decide) rfl (fun ls hl => ?_)
  obtain ⟨I4, ⟨n5s, iI4⟩, qI4⟩ := h
  have lI4 : ∀ (n5 : Nat) (x3 : Int), I4 n5 x3 → ∀ (H : Heap) (locs : List Loc), GM D cy o M s.heap H locs → ∀ ls : Array Slot, lv_has ls 3 [(0, .int (J a0)), (1, .int (J z1)), (2, .int (J x3))] → W p l e rm_X11_monthOf s m args below meth c H locs 0 0 Qf (F0 m 7 ls []) := by
    intro n5
    induction n5 using Nat.strongRecOn with
    | ind n5 rI4 =>
      intro x3 iI4 H locs hG ls hl
      have h := qI4 n5 x3 iI4
      refine lv_iload_n hx hb dX11_monthOf_7 rfl (lv_at hl 2 rfl) ?_
      refine lv_bipush (v := J 12) hx hb dX11_monthOf_8 (by decide) ?_
      obtain ⟨K15, hK15, h⟩ := h
      have jK15 : K15 → ∀ (H : Heap) (locs : List Loc), GM D cy o M s.heap H locs → ∀ ls : Array Slot, lv_has ls 3 [(2, .int (J x3))] → W p l e rm_X11_monthOf s m args below meth c H locs 0 0 Qf (F0 m 30 ls []) := by
        intro hcK15 H locs hG ls hl
        have h := hK15 hcK15
        refine lv_iload_n hx hb dX11_monthOf_30 rfl (lv_at hl 0 rfl) ?_
        rw [hQf]
        exact j_ireti hx hb hr hlocks hG ⟨h, rfl⟩ (by decide) dX11_monthOf_31
      obtain ⟨g17, h⟩ := h
      refine j_icmp_ge (tgt := 30) hx hb dX11_monthOf_10 (by decide) g17 (by decide) (fun c16 => ?_) (fun c16 => ?_)
      · have h := h.1 c16
        exact jK15 h H locs hG ls (lv_sub hl [2] rfl)
      · have h := h.2 c16
        refine lv_iload_n hx hb dX11_monthOf_13 rfl (lv_at hl 1 rfl) ?_
        refine lv_iload_n hx hb dX11_monthOf_14 rfl (lv_at hl 2 rfl) ?_
        refine lv_iconst (v := J 1) hx hb dX11_monthOf_15 (by decide) ?_
        refine j_iadd hx hb dX11_monthOf_16 ?_
        refine j_conti (va_runS (As := [.int (J z1), .int (J (x3 + 1))]) (rest := []) ⟨hx, hb, hml, hown, hts⟩ (A_X11_monthDay l h) (va_cwS 2 hts (gj_S ml_RX11_100 i_X11_monthDay n_RX11 k_X11_monthDay) rfl rfl rfl (by decide +kernel) ⟨by exact Nat.le_of_ble_eq_true rfl, by exact Nat.le_of_ble_eq_true rfl⟩) (j_preS hK hSX hG) rfl rfl hl.1 rfl (lv_room (Nat.le_of_ble_eq_true rfl)) dX11_monthOf_17 ⟨by exact Nat.le_of_ble_eq_true rfl, by exact Nat.le_of_ble_eq_true rfl⟩) hG (c2 := 0) (s2 := 0) ⟨by exact Nat.le_of_ble_eq_true rfl, by exact Nat.le_of_ble_eq_true rfl⟩ (fun z18 M19 h H locs hG => ?_)
        obtain ⟨h, eM19⟩ := h
        rw [eM19] at hG
        refine lv_iload_n hx hb dX11_monthOf_20 rfl (lv_at hl 0 rfl) ?_
        obtain ⟨g21, h⟩ := h
        obtain ⟨g22, h⟩ := h
        refine j_icmp_gt (tgt := 30) hx hb dX11_monthOf_21 (by decide) g21 g22 (fun c20 => ?_) (fun c20 => ?_)
        · have h := h.1 c20
          exact jK15 h H locs hG ls (lv_sub hl [2] rfl)
        · have h := h.2 c20
          refine j_iinc hx hb dX11_monthOf_24 hl (k := 2) rfl (by decide) (fun x23 ex23 ls hl => ?_)
          have h := h x23 ex23
          have hl : lv_has ls 3 [(2, .int (J x23)), (0, .int (J a0)), (1, .int (J z1))] := hl
          refine lv_goto (tgt := 7) hx hb dX11_monthOf_27 (by decide) ?_
          obtain ⟨n24, ln24, iI4⟩ := h
          exact rI4 n24 ln24 x23 iI4 H locs hG ls (lv_sub hl [1, 2, 0] rfl)
  exact lI4 n5s 1 iI4 H locs hG ls (lv_sub hl [2, 1, 0] rfl)

abbrev rm_X11_dayOfMonth : Room := { frames := 3, cells := 0, slots := 0, locals := 66 }
set_option maxRecDepth 100000 in
set_option maxHeartbeats 4000000 in
theorem A_X11_dayOfMonth (l : Launch) {D : va_G} {cy : Nat → ClassId} {o : Nat} {sK sV : Nat → Nat} {M : jT} {a0 : Int} {Q : Int → Prop} (h : wp_X11_dayOfMonth M a0 Q) : CoI l yX11_dayOfMonth (wj yX11_dayOfMonth cX11_dayOfMonth 1 (some .int)) rm_X11_dayOfMonth D cy o sK sV M [.int (J a0)] (fun z M9 => Q z ∧ M9 = M) := by
  refine j_ofW (cc := cX11_dayOfMonth) (maxL := 1) (ret := (some .int)) (by decide) rfl (Nat.le_of_ble_eq_true rfl) ?_
  intro p e s m args below meth c hx hb hr hlocks hml hown hts hK hSX H locs hG ls hl Qf hQf
  have hown : s.vm.findClass RX11 = some m.cls := hown
  have hl : lv_has ls 1 [(0, .int (J a0))] := hl
  unfold wp_X11_dayOfMonth at h
  refine lv_iload_n hx hb dX11_dayOfMonth_0 rfl (lv_at hl 0 rfl) ?_
  refine lv_iload_n hx hb dX11_dayOfMonth_1 rfl (lv_at hl 0 rfl) ?_
  refine j_conti (va_runS (As := [.int (J a0)]) (rest := [.int (J a0)]) ⟨hx, hb, hml, hown, hts⟩ (A_X11_yearOf l h) (va_cwS 1 hts (gj_S ml_RX11_97 i_X11_yearOf n_RX11 k_X11_yearOf) rfl rfl rfl (by decide +kernel) ⟨by exact Nat.le_of_ble_eq_true rfl, by exact Nat.le_of_ble_eq_true rfl⟩) (j_preS hK hSX hG) rfl rfl hl.1 rfl (lv_room (Nat.le_of_ble_eq_true rfl)) dX11_dayOfMonth_2 ⟨by exact Nat.le_of_ble_eq_true rfl, by exact Nat.le_of_ble_eq_true rfl⟩) hG (c2 := 0) (s2 := 0) ⟨by exact Nat.le_of_ble_eq_true rfl, by exact Nat.le_of_ble_eq_true rfl⟩ (fun z1 M2 h H locs hG => ?_)
  obtain ⟨h, eM2⟩ := h
  rw [eM2] at hG
  refine lv_iload_n hx hb dX11_dayOfMonth_5 rfl (lv_at hl 0 rfl) ?_
  refine j_conti (va_runS (As := [.int (J a0)]) (rest := [.int (J z1), .int (J a0)]) ⟨hx, hb, hml, hown, hts⟩ (A_X11_monthOf l h) (va_cwS 1 hts (gj_S ml_RX11_103 i_X11_monthOf n_RX11 k_X11_monthOf) rfl rfl rfl (by decide +kernel) ⟨by exact Nat.le_of_ble_eq_true rfl, by exact Nat.le_of_ble_eq_true rfl⟩) (j_preS hK hSX hG) rfl rfl hl.1 rfl (lv_room (Nat.le_of_ble_eq_true rfl)) dX11_dayOfMonth_6 ⟨by exact Nat.le_of_ble_eq_true rfl, by exact Nat.le_of_ble_eq_true rfl⟩) hG (c2 := 0) (s2 := 0) ⟨by exact Nat.le_of_ble_eq_true rfl, by exact Nat.le_of_ble_eq_true rfl⟩ (fun z3 M4 h H locs hG => ?_)
  obtain ⟨h, eM4⟩ := h
  rw [eM4] at hG
  refine j_conti (va_runS (As := [.int (J z1), .int (J z3)]) (rest := [.int (J a0)]) ⟨hx, hb, hml, hown, hts⟩ (A_X11_monthDay l h) (va_cwS 2 hts (gj_S ml_RX11_100 i_X11_monthDay n_RX11 k_X11_monthDay) rfl rfl rfl (by decide +kernel) ⟨by exact Nat.le_of_ble_eq_true rfl, by exact Nat.le_of_ble_eq_true rfl⟩) (j_preS hK hSX hG) rfl rfl hl.1 rfl (lv_room (Nat.le_of_ble_eq_true rfl)) dX11_dayOfMonth_9 ⟨by exact Nat.le_of_ble_eq_true rfl, by exact Nat.le_of_ble_eq_true rfl⟩) hG (c2 := 0) (s2 := 0) ⟨by exact Nat.le_of_ble_eq_true rfl, by exact Nat.le_of_ble_eq_true rfl⟩ (fun z5 M6 h H locs hG => ?_)
  obtain ⟨h, eM6⟩ := h
  rw [eM6] at hG
  refine j_isub hx hb dX11_dayOfMonth_12 ?_
  refine lv_iconst (v := J 1) hx hb dX11_dayOfMonth_13 (by decide) ?_
  refine j_iadd hx hb dX11_dayOfMonth_14 ?_
  rw [hQf]
  exact j_ireti hx hb hr hlocks hG ⟨h, rfl⟩ (by decide) dX11_dayOfMonth_15

abbrev rm_X11_day : Room := { frames := 2, cells := 0, slots := 0, locals := 44 }
set_option maxRecDepth 100000 in
set_option maxHeartbeats 4000000 in
theorem A_X11_day (l : Launch) {D : va_G} {cy : Nat → ClassId} {o : Nat} {sK sV : Nat → Nat} {M : jT} {a0 : Int} {a1 : Int} {a2 : Int} {a3 : Int} (ka0 : kd a0 = 11) {Q : Int → jT → Prop} (h : wp_X11_day M a0 a1 a2 a3 Q) : CoI l yX11_day (wj yX11_day cX11_day 4 (some .int)) rm_X11_day D cy o sK sV M [.ref (rA o a0), .int (J a1), .int (J a2), .int (J a3)] Q := by
  refine j_ofW (cc := cX11_day) (maxL := 4) (ret := (some .int)) (by decide) rfl (Nat.le_of_ble_eq_true rfl) ?_
  intro p e s m args below meth c hx hb hr hlocks hml hown hts hK hSX H locs hG ls hl Qf hQf
  have hown : s.vm.findClass RX11 = some m.cls := hown
  have hl : lv_has ls 4 [(0, .ref (rA o a0)), (1, .int (J a1)), (2, .int (J a2)), (3, .int (J a3))] := hl
  have w_fl_RX11_80 := hts _ (List.mem_cons_of_mem _ fl_RX11_80)
  unfold wp_X11_day at h
  refine lv_aload_n hx hb dX11_day_0 rfl (lv_at hl 0 rfl) ?_
  refine lv_iconst (v := J 0) hx hb dX11_day_1 (by decide) ?_
  refine j_puti hx hb hts hown hK hG (k := a0) (fun w h => List.mem_cons_of_mem _ (u_X11 w h)) tyX11 tyX11_ok nmX11 (ci := 10) rfl ka0 0 (by decide) (jz := 0) rfl w_fl_RX11_80 (hd := rfl) (hn := rfl) (hfit := rfl) (hdg := dX11_day_2) (fun M1 eM1 H locs hG => ?_)
  have h := h M1 eM1
  refine lv_iload_n hx hb dX11_day_5 rfl (lv_at hl 1 rfl) ?_
  refine lv_iconst (v := J 0) hx hb dX11_day_6 (by decide) ?_
  refine lv_bipush (v := J 31) hx hb dX11_day_7 (by decide) ?_
  obtain ⟨g2, h⟩ := h
  refine j_conti (va_runS (As := [.int (J a1), .int (J 0), .int (J 31)]) (rest := []) ⟨hx, hb, hml, hown, hts⟩ (A_X11_in l g2) (va_cwS 3 hts (gj_S ml_RX11_106 i_X11_in n_RX11 k_X11_in) rfl rfl rfl (by decide +kernel) ⟨by exact Nat.le_of_ble_eq_true rfl, by exact Nat.le_of_ble_eq_true rfl⟩) (j_preS hK hSX hG) rfl rfl hl.1 rfl (lv_room (Nat.le_of_ble_eq_true rfl)) dX11_day_9 ⟨by exact Nat.le_of_ble_eq_true rfl, by exact Nat.le_of_ble_eq_true rfl⟩) hG (c2 := 0) (s2 := 0) ⟨by exact Nat.le_of_ble_eq_true rfl, by exact Nat.le_of_ble_eq_true rfl⟩ (fun z3 M4 ez3 H locs hG => ?_)
  obtain ⟨ez3, eM4⟩ := ez3
  subst ez3
  rw [eM4] at hG
  obtain ⟨K19, hK19, h⟩ := h
  have jK19 : K19 → ∀ (H : Heap) (locs : List Loc), GM D cy o M1 s.heap H locs → ∀ ls : Array Slot, lv_has ls 4 [(0, .ref (rA o a0))] → W p l e rm_X11_day s m args below meth c H locs 0 0 Qf (F0 m 38 ls []) := by
    intro hcK19 H locs hG ls hl
    have h := hK19 hcK19
    refine lv_aload_n hx hb dX11_day_38 rfl (lv_at hl 0 rfl) ?_
    refine lv_iconst (v := J 1) hx hb dX11_day_39 (by decide) ?_
    refine j_conti (va_runV (As := [.int (J 1)]) (rest := []) ⟨hx, hb, hml, hown, hts⟩ (A_X11_raises l ka0 h) (cwV 1 hts (gj_V ml_RX11_110 i_X11_raises s_X11_raises n_RX11 k_X11_raises) rfl rfl rfl (by decide +kernel) ⟨by exact Nat.le_of_ble_eq_true rfl, by exact Nat.le_of_ble_eq_true rfl⟩) (j_preV hK hSX hG (ci := 10) rfl ka0 (by decide)) rfl rfl hl.1 rfl (lv_room (Nat.le_of_ble_eq_true rfl)) dX11_day_40 ⟨by exact Nat.le_of_ble_eq_true rfl, by exact Nat.le_of_ble_eq_true rfl⟩) hG (c2 := 0) (s2 := 0) ⟨by exact Nat.le_of_ble_eq_true rfl, by exact Nat.le_of_ble_eq_true rfl⟩ (fun z20 M21 h H locs hG => ?_)
    rw [hQf]
    exact j_ireti hx hb hr hlocks hG h (by decide) dX11_day_43
  refine j_if_eq_b (tgt := 38) hx hb dX11_day_12 (by decide) (fun c22 => ?_) (fun c22 => ?_)
  · have h := h.1 c22
    exact jK19 h H locs hG ls (lv_sub hl [0] rfl)
  · have h := h.2 c22
    refine lv_iload_n hx hb dX11_day_15 rfl (lv_at hl 2 rfl) ?_
    refine lv_iconst (v := J 1) hx hb dX11_day_16 (by decide) ?_
    refine lv_bipush (v := J 12) hx hb dX11_day_17 (by decide) ?_
    obtain ⟨g23, h⟩ := h
    refine j_conti (va_runS (As := [.int (J a2), .int (J 1), .int (J 12)]) (rest := []) ⟨hx, hb, hml, hown, hts⟩ (A_X11_in l g23) (va_cwS 3 hts (gj_S ml_RX11_106 i_X11_in n_RX11 k_X11_in) rfl rfl rfl (by decide +kernel) ⟨by exact Nat.le_of_ble_eq_true rfl, by exact Nat.le_of_ble_eq_true rfl⟩) (j_preS hK hSX hG) rfl rfl hl.1 rfl (lv_room (Nat.le_of_ble_eq_true rfl)) dX11_day_19 ⟨by exact Nat.le_of_ble_eq_true rfl, by exact Nat.le_of_ble_eq_true rfl⟩) hG (c2 := 0) (s2 := 0) ⟨by exact Nat.le_of_ble_eq_true rfl, by exact Nat.le_of_ble_eq_true rfl⟩ (fun z24 M25 ez24 H locs hG => ?_)
    obtain ⟨ez24, eM25⟩ := ez24
    subst ez24
    rw [eM25] at hG
    refine j_if_eq_b (tgt := 38) hx hb dX11_day_22 (by decide) (fun c26 => ?_) (fun c26 => ?_)
    · have h := h.1 c26
      exact jK19 h H locs hG ls (lv_sub hl [0] rfl)
    · have h := h.2 c26
      refine lv_iload_n hx hb dX11_day_25 rfl (lv_at hl 3 rfl) ?_
      refine lv_iconst (v := J 1) hx hb dX11_day_26 (by decide) ?_
      refine lv_iload_n hx hb dX11_day_27 rfl (lv_at hl 1 rfl) ?_
      refine lv_iload_n hx hb dX11_day_28 rfl (lv_at hl 2 rfl) ?_
      obtain ⟨g27, h⟩ := h
      refine j_conti (va_runS (As := [.int (J a1), .int (J a2)]) (rest := [.int (J 1), .int (J a3)]) ⟨hx, hb, hml, hown, hts⟩ (A_X11_monthLength l g27) (va_cwS 2 hts (gj_S ml_RX11_93 i_X11_monthLength n_RX11 k_X11_monthLength) rfl rfl rfl (by decide +kernel) ⟨by exact Nat.le_of_ble_eq_true rfl, by exact Nat.le_of_ble_eq_true rfl⟩) (j_preS hK hSX hG) rfl rfl hl.1 rfl (lv_room (Nat.le_of_ble_eq_true rfl)) dX11_day_29 ⟨by exact Nat.le_of_ble_eq_true rfl, by exact Nat.le_of_ble_eq_true rfl⟩) hG (c2 := 0) (s2 := 0) ⟨by exact Nat.le_of_ble_eq_true rfl, by exact Nat.le_of_ble_eq_true rfl⟩ (fun z28 M29 ez28 H locs hG => ?_)
      obtain ⟨ez28, eM29⟩ := ez28
      subst ez28
      rw [eM29] at hG
      obtain ⟨g30, h⟩ := h
      refine j_conti (va_runS (As := [.int (J a3), .int (J 1), .int (J (pf_X11_monthLength a1 a2))]) (rest := []) ⟨hx, hb, hml, hown, hts⟩ (A_X11_in l g30) (va_cwS 3 hts (gj_S ml_RX11_106 i_X11_in n_RX11 k_X11_in) rfl rfl rfl (by decide +kernel) ⟨by exact Nat.le_of_ble_eq_true rfl, by exact Nat.le_of_ble_eq_true rfl⟩) (j_preS hK hSX hG) rfl rfl hl.1 rfl (lv_room (Nat.le_of_ble_eq_true rfl)) dX11_day_32 ⟨by exact Nat.le_of_ble_eq_true rfl, by exact Nat.le_of_ble_eq_true rfl⟩) hG (c2 := 0) (s2 := 0) ⟨by exact Nat.le_of_ble_eq_true rfl, by exact Nat.le_of_ble_eq_true rfl⟩ (fun z31 M32 ez31 H locs hG => ?_)
      obtain ⟨ez31, eM32⟩ := ez31
      subst ez31
      rw [eM32] at hG
      refine j_if_ne_b (tgt := 44) hx hb dX11_day_35 (by decide) (fun c33 => ?_) (fun c33 => ?_)
      · have h := h.1 c33
        refine lv_iload_n hx hb dX11_day_44 rfl (lv_at hl 1 rfl) ?_
        refine lv_iload_n hx hb dX11_day_45 rfl (lv_at hl 2 rfl) ?_
        refine j_conti (va_runS (As := [.int (J a1), .int (J a2)]) (rest := []) ⟨hx, hb, hml, hown, hts⟩ (A_X11_monthDay l h) (va_cwS 2 hts (gj_S ml_RX11_100 i_X11_monthDay n_RX11 k_X11_monthDay) rfl rfl rfl (by decide +kernel) ⟨by exact Nat.le_of_ble_eq_true rfl, by exact Nat.le_of_ble_eq_true rfl⟩) (j_preS hK hSX hG) rfl rfl hl.1 rfl (lv_room (Nat.le_of_ble_eq_true rfl)) dX11_day_46 ⟨by exact Nat.le_of_ble_eq_true rfl, by exact Nat.le_of_ble_eq_true rfl⟩) hG (c2 := 0) (s2 := 0) ⟨by exact Nat.le_of_ble_eq_true rfl, by exact Nat.le_of_ble_eq_true rfl⟩ (fun z34 M35 h H locs hG => ?_)
        obtain ⟨h, eM35⟩ := h
        rw [eM35] at hG
        refine lv_iload_n hx hb dX11_day_49 rfl (lv_at hl 3 rfl) ?_
        refine j_iadd hx hb dX11_day_50 ?_
        refine lv_iconst (v := J 1) hx hb dX11_day_51 (by decide) ?_
        refine j_isub hx hb dX11_day_52 ?_
        rw [hQf]
        exact j_ireti hx hb hr hlocks hG h (by decide) dX11_day_53
      · have h := h.2 c33
        exact jK19 h H locs hG ls (lv_sub hl [0] rfl)

abbrev rm_X11_isDay : Room := { frames := 1, cells := 0, slots := 0, locals := 22 }
set_option maxRecDepth 100000 in
set_option maxHeartbeats 4000000 in
theorem A_X11_isDay (l : Launch) {D : va_G} {cy : Nat → ClassId} {o : Nat} {sK sV : Nat → Nat} {M : jT} {a0 : Int} (h : pg_X11_isDay a0) : CoI l yX11_isDay (wj yX11_isDay cX11_isDay 1 (some .boolean)) rm_X11_isDay D cy o sK sV M [.int (J a0)] (fun z M9 => z = b2i (pb_X11_isDay a0) ∧ M9 = M) := by
  refine j_ofW (cc := cX11_isDay) (maxL := 1) (ret := (some .boolean)) (by decide) rfl (Nat.le_of_ble_eq_true rfl) ?_
  intro p e s m args below meth c hx hb hr hlocks hml hown hts hK hSX H locs hG ls hl Qf hQf
  have hown : s.vm.findClass RX11 = some m.cls := hown
  have hl : lv_has ls 1 [(0, .int (J a0))] := hl
  unfold pg_X11_isDay at h
  refine lv_iload_n hx hb dX11_isDay_0 rfl (lv_at hl 0 rfl) ?_
  refine lv_iconst (v := J 0) hx hb dX11_isDay_1 (by decide) ?_
  refine lv_sipush (v := J 11687) hx hb dX11_isDay_2 (by decide) ?_
  obtain ⟨g1, h⟩ := h
  refine j_conti (va_runS (As := [.int (J a0), .int (J 0), .int (J 11687)]) (rest := []) ⟨hx, hb, hml, hown, hts⟩ (A_X11_in l g1) (va_cwS 3 hts (gj_S ml_RX11_106 i_X11_in n_RX11 k_X11_in) rfl rfl rfl (by decide +kernel) ⟨by exact Nat.le_of_ble_eq_true rfl, by exact Nat.le_of_ble_eq_true rfl⟩) (j_preS hK hSX hG) rfl rfl hl.1 rfl (lv_room (Nat.le_of_ble_eq_true rfl)) dX11_isDay_5 ⟨by exact Nat.le_of_ble_eq_true rfl, by exact Nat.le_of_ble_eq_true rfl⟩) hG (c2 := 0) (s2 := 0) ⟨by exact Nat.le_of_ble_eq_true rfl, by exact Nat.le_of_ble_eq_true rfl⟩ (fun z2 M3 ez2 H locs hG => ?_)
  obtain ⟨ez2, eM3⟩ := ez2
  subst ez2
  rw [eM3] at hG
  rw [hQf]
  exact j_iretn hx hb hr hlocks (nar_b (b2i_rng _)) hG ⟨(b2i_iff Iff.rfl), rfl⟩ (by decide) dX11_isDay_8

abbrev rm_X11_date : Room := { frames := 4, cells := 0, slots := 0, locals := 86 }
set_option maxRecDepth 100000 in
set_option maxHeartbeats 4000000 in
theorem A_X11_date (l : Launch) {D : va_G} {cy : Nat → ClassId} {o : Nat} {sK sV : Nat → Nat} {M : jT} {a0 : Int} {a1 : Int} {a2 : Int} (ka0 : kd a0 = 11) {Q : Int → jT → Prop} (h : wp_X11_date M a0 a1 a2 Q) : CoI l yX11_date (wj yX11_date cX11_date 3 (some .int)) rm_X11_date D cy o sK sV M [.ref (rA o a0), .int (J a1), .int (J a2)] Q := by
  refine j_ofW (cc := cX11_date) (maxL := 3) (ret := (some .int)) (by decide) rfl (Nat.le_of_ble_eq_true rfl) ?_
  intro p e s m args below meth c hx hb hr hlocks hml hown hts hK hSX H locs hG ls hl Qf hQf
  have hown : s.vm.findClass RX11 = some m.cls := hown
  have hl : lv_has ls 3 [(0, .ref (rA o a0)), (1, .int (J a1)), (2, .int (J a2))] := hl
  have w_fl_RX11_80 := hts _ (List.mem_cons_of_mem _ fl_RX11_80)
  unfold wp_X11_date at h
  refine lv_aload_n hx hb dX11_date_0 rfl (lv_at hl 0 rfl) ?_
  refine lv_iconst (v := J 0) hx hb dX11_date_1 (by decide) ?_
  refine j_puti hx hb hts hown hK hG (k := a0) (fun w h => List.mem_cons_of_mem _ (u_X11 w h)) tyX11 tyX11_ok nmX11 (ci := 10) rfl ka0 0 (by decide) (jz := 0) rfl w_fl_RX11_80 (hd := rfl) (hn := rfl) (hfit := rfl) (hdg := dX11_date_2) (fun M1 eM1 H locs hG => ?_)
  have h := h M1 eM1
  refine lv_iload_n hx hb dX11_date_5 rfl (lv_at hl 1 rfl) ?_
  obtain ⟨g2, h⟩ := h
  refine j_conti (va_runS (As := [.int (J a1)]) (rest := []) ⟨hx, hb, hml, hown, hts⟩ (A_X11_isDay l g2) (va_cwS 1 hts (gj_S ml_RX11_113 i_X11_isDay n_RX11 k_X11_isDay) rfl rfl rfl (by decide +kernel) ⟨by exact Nat.le_of_ble_eq_true rfl, by exact Nat.le_of_ble_eq_true rfl⟩) (j_preS hK hSX hG) rfl rfl hl.1 rfl (lv_room (Nat.le_of_ble_eq_true rfl)) dX11_date_6 ⟨by exact Nat.le_of_ble_eq_true rfl, by exact Nat.le_of_ble_eq_true rfl⟩) hG (c2 := 0) (s2 := 0) ⟨by exact Nat.le_of_ble_eq_true rfl, by exact Nat.le_of_ble_eq_true rfl⟩ (fun z3 M4 ez3 H locs hG => ?_)
  obtain ⟨ez3, eM4⟩ := ez3
  subst ez3
  rw [eM4] at hG
  refine j_if_ne_b (tgt := 18) hx hb dX11_date_9 (by decide) (fun c5 => ?_) (fun c5 => ?_)
  · have h := h.1 c5
    refine lv_iload_n hx hb dX11_date_18 rfl (lv_at hl 2 rfl) ?_
    obtain ⟨g6, h⟩ := h
    rcases em_eqI (a2) 0 with c7 | c7_0
    · refine j_tsw hx hb dX11_date_19 g6 (k := 0) (tgt := 56) c7 ⟨by decide, by decide, rfl⟩ (by decide) ?_
      have h := h.1 c7
      refine lv_iload_n hx hb dX11_date_56 rfl (lv_at hl 1 rfl) ?_
      refine j_conti (va_runS (As := [.int (J a1)]) (rest := []) ⟨hx, hb, hml, hown, hts⟩ (A_X11_yearOf l h) (va_cwS 1 hts (gj_S ml_RX11_97 i_X11_yearOf n_RX11 k_X11_yearOf) rfl rfl rfl (by decide +kernel) ⟨by exact Nat.le_of_ble_eq_true rfl, by exact Nat.le_of_ble_eq_true rfl⟩) (j_preS hK hSX hG) rfl rfl hl.1 rfl (lv_room (Nat.le_of_ble_eq_true rfl)) dX11_date_57 ⟨by exact Nat.le_of_ble_eq_true rfl, by exact Nat.le_of_ble_eq_true rfl⟩) hG (c2 := 0) (s2 := 0) ⟨by exact Nat.le_of_ble_eq_true rfl, by exact Nat.le_of_ble_eq_true rfl⟩ (fun z8 M9 h H locs hG => ?_)
      obtain ⟨h, eM9⟩ := h
      rw [eM9] at hG
      rw [hQf]
      exact j_ireti hx hb hr hlocks hG h (by decide) dX11_date_60
    · rcases em_eqI (a2) 1 with c7 | c7_1
      · refine j_tsw hx hb dX11_date_19 g6 (k := 1) (tgt := 61) c7 ⟨by decide, by decide, rfl⟩ (by decide) ?_
        have h := h.2.1 c7
        refine lv_iload_n hx hb dX11_date_61 rfl (lv_at hl 1 rfl) ?_
        refine j_conti (va_runS (As := [.int (J a1)]) (rest := []) ⟨hx, hb, hml, hown, hts⟩ (A_X11_monthOf l h) (va_cwS 1 hts (gj_S ml_RX11_103 i_X11_monthOf n_RX11 k_X11_monthOf) rfl rfl rfl (by decide +kernel) ⟨by exact Nat.le_of_ble_eq_true rfl, by exact Nat.le_of_ble_eq_true rfl⟩) (j_preS hK hSX hG) rfl rfl hl.1 rfl (lv_room (Nat.le_of_ble_eq_true rfl)) dX11_date_62 ⟨by exact Nat.le_of_ble_eq_true rfl, by exact Nat.le_of_ble_eq_true rfl⟩) hG (c2 := 0) (s2 := 0) ⟨by exact Nat.le_of_ble_eq_true rfl, by exact Nat.le_of_ble_eq_true rfl⟩ (fun z10 M11 h H locs hG => ?_)
        obtain ⟨h, eM11⟩ := h
        rw [eM11] at hG
        rw [hQf]
        exact j_ireti hx hb hr hlocks hG h (by decide) dX11_date_65
      · rcases em_eqI (a2) 2 with c7 | c7_2
        · refine j_tsw hx hb dX11_date_19 g6 (k := 2) (tgt := 66) c7 ⟨by decide, by decide, rfl⟩ (by decide) ?_
          have h := h.2.2.1 c7
          refine lv_iload_n hx hb dX11_date_66 rfl (lv_at hl 1 rfl) ?_
          refine j_conti (va_runS (As := [.int (J a1)]) (rest := []) ⟨hx, hb, hml, hown, hts⟩ (A_X11_dayOfMonth l h) (va_cwS 1 hts (gj_S ml_RX11_117 i_X11_dayOfMonth n_RX11 k_X11_dayOfMonth) rfl rfl rfl (by decide +kernel) ⟨by exact Nat.le_of_ble_eq_true rfl, by exact Nat.le_of_ble_eq_true rfl⟩) (j_preS hK hSX hG) rfl rfl hl.1 rfl (lv_room (Nat.le_of_ble_eq_true rfl)) dX11_date_67 ⟨by exact Nat.le_of_ble_eq_true rfl, by exact Nat.le_of_ble_eq_true rfl⟩) hG (c2 := 0) (s2 := 0) ⟨by exact Nat.le_of_ble_eq_true rfl, by exact Nat.le_of_ble_eq_true rfl⟩ (fun z12 M13 h H locs hG => ?_)
          obtain ⟨h, eM13⟩ := h
          rw [eM13] at hG
          rw [hQf]
          exact j_ireti hx hb hr hlocks hG h (by decide) dX11_date_70
        · rcases em_eqI (a2) 3 with c7 | c7_3
          · refine j_tsw hx hb dX11_date_19 g6 (k := 3) (tgt := 71) c7 ⟨by decide, by decide, rfl⟩ (by decide) ?_
            have h := h.2.2.2.1 c7
            refine lv_iload_n hx hb dX11_date_71 rfl (lv_at hl 1 rfl) ?_
            obtain ⟨g14, h⟩ := h
            refine j_conti (va_runS (As := [.int (J a1)]) (rest := []) ⟨hx, hb, hml, hown, hts⟩ (A_X11_weekday l g14) (va_cwS 1 hts (gj_S ml_RX11_120 i_X11_weekday n_RX11 k_X11_weekday) rfl rfl rfl (by decide +kernel) ⟨by exact Nat.le_of_ble_eq_true rfl, by exact Nat.le_of_ble_eq_true rfl⟩) (j_preS hK hSX hG) rfl rfl hl.1 rfl (lv_room (Nat.le_of_ble_eq_true rfl)) dX11_date_72 ⟨by exact Nat.le_of_ble_eq_true rfl, by exact Nat.le_of_ble_eq_true rfl⟩) hG (c2 := 0) (s2 := 0) ⟨by exact Nat.le_of_ble_eq_true rfl, by exact Nat.le_of_ble_eq_true rfl⟩ (fun z15 M16 ez15 H locs hG => ?_)
            obtain ⟨ez15, eM16⟩ := ez15
            subst ez15
            rw [eM16] at hG
            rw [hQf]
            exact j_ireti hx hb hr hlocks hG h (by decide) dX11_date_75
          · rcases em_eqI (a2) 4 with c7 | c7_4
            · refine j_tsw hx hb dX11_date_19 g6 (k := 4) (tgt := 76) c7 ⟨by decide, by decide, rfl⟩ (by decide) ?_
              have h := h.2.2.2.2.1 c7
              refine lv_iload_n hx hb dX11_date_76 rfl (lv_at hl 1 rfl) ?_
              refine lv_iload_n hx hb dX11_date_77 rfl (lv_at hl 1 rfl) ?_
              refine j_conti (va_runS (As := [.int (J a1)]) (rest := [.int (J a1)]) ⟨hx, hb, hml, hown, hts⟩ (A_X11_yearOf l h) (va_cwS 1 hts (gj_S ml_RX11_97 i_X11_yearOf n_RX11 k_X11_yearOf) rfl rfl rfl (by decide +kernel) ⟨by exact Nat.le_of_ble_eq_true rfl, by exact Nat.le_of_ble_eq_true rfl⟩) (j_preS hK hSX hG) rfl rfl hl.1 rfl (lv_room (Nat.le_of_ble_eq_true rfl)) dX11_date_78 ⟨by exact Nat.le_of_ble_eq_true rfl, by exact Nat.le_of_ble_eq_true rfl⟩) hG (c2 := 0) (s2 := 0) ⟨by exact Nat.le_of_ble_eq_true rfl, by exact Nat.le_of_ble_eq_true rfl⟩ (fun z17 M18 h H locs hG => ?_)
              obtain ⟨h, eM18⟩ := h
              rw [eM18] at hG
              obtain ⟨g19, h⟩ := h
              refine j_conti (va_runS (As := [.int (J z17)]) (rest := [.int (J a1)]) ⟨hx, hb, hml, hown, hts⟩ (A_X11_yearDay l g19) (va_cwS 1 hts (gj_S ml_RX11_89 i_X11_yearDay n_RX11 k_X11_yearDay) rfl rfl rfl (by decide +kernel) ⟨by exact Nat.le_of_ble_eq_true rfl, by exact Nat.le_of_ble_eq_true rfl⟩) (j_preS hK hSX hG) rfl rfl hl.1 rfl (lv_room (Nat.le_of_ble_eq_true rfl)) dX11_date_81 ⟨by exact Nat.le_of_ble_eq_true rfl, by exact Nat.le_of_ble_eq_true rfl⟩) hG (c2 := 0) (s2 := 0) ⟨by exact Nat.le_of_ble_eq_true rfl, by exact Nat.le_of_ble_eq_true rfl⟩ (fun z20 M21 ez20 H locs hG => ?_)
              obtain ⟨ez20, eM21⟩ := ez20
              subst ez20
              rw [eM21] at hG
              refine j_isub hx hb dX11_date_84 ?_
              refine lv_iconst (v := J 1) hx hb dX11_date_85 (by decide) ?_
              refine j_iadd hx hb dX11_date_86 ?_
              rw [hQf]
              exact j_ireti hx hb hr hlocks hG h (by decide) dX11_date_87
            · rcases em_eqI (a2) 5 with c7 | c7_5
              · refine j_tsw hx hb dX11_date_19 g6 (k := 5) (tgt := 88) c7 ⟨by decide, by decide, rfl⟩ (by decide) ?_
                have h := h.2.2.2.2.2.1 c7
                refine lv_iload_n hx hb dX11_date_88 rfl (lv_at hl 1 rfl) ?_
                refine j_conti (va_runS (As := [.int (J a1)]) (rest := []) ⟨hx, hb, hml, hown, hts⟩ (A_X11_dayOfMonth l h) (va_cwS 1 hts (gj_S ml_RX11_117 i_X11_dayOfMonth n_RX11 k_X11_dayOfMonth) rfl rfl rfl (by decide +kernel) ⟨by exact Nat.le_of_ble_eq_true rfl, by exact Nat.le_of_ble_eq_true rfl⟩) (j_preS hK hSX hG) rfl rfl hl.1 rfl (lv_room (Nat.le_of_ble_eq_true rfl)) dX11_date_89 ⟨by exact Nat.le_of_ble_eq_true rfl, by exact Nat.le_of_ble_eq_true rfl⟩) hG (c2 := 0) (s2 := 0) ⟨by exact Nat.le_of_ble_eq_true rfl, by exact Nat.le_of_ble_eq_true rfl⟩ (fun z22 M23 h H locs hG => ?_)
                obtain ⟨h, eM23⟩ := h
                rw [eM23] at hG
                refine lv_iconst (v := J 1) hx hb dX11_date_92 (by decide) ?_
                refine j_isub hx hb dX11_date_93 ?_
                refine lv_bipush (v := J 7) hx hb dX11_date_94 (by decide) ?_
                obtain ⟨g24, h⟩ := h
                refine j_idiv hx hb dX11_date_96 g24 (by decide) ?_
                refine lv_iconst (v := J 1) hx hb dX11_date_97 (by decide) ?_
                refine j_iadd hx hb dX11_date_98 ?_
                rw [hQf]
                exact j_ireti hx hb hr hlocks hG h (by decide) dX11_date_99
              · have c7 : a2 ≠ 0 ∧ a2 ≠ 1 ∧ a2 ≠ 2 ∧ a2 ≠ 3 ∧ a2 ≠ 4 ∧ a2 ≠ 5 := ⟨c7_0, c7_1, c7_2, c7_3, c7_4, c7_5⟩
                have h := h.2.2.2.2.2.2 c7
                refine j_tswd hx hb dX11_date_19 g6 (tgt := 100) (by omega) (by decide) ?_
                refine lv_aload_n hx hb dX11_date_100 rfl (lv_at hl 0 rfl) ?_
                refine lv_iconst (v := J 2) hx hb dX11_date_101 (by decide) ?_
                refine j_conti (va_runV (As := [.int (J 2)]) (rest := []) ⟨hx, hb, hml, hown, hts⟩ (A_X11_raises l ka0 h) (cwV 1 hts (gj_V ml_RX11_110 i_X11_raises s_X11_raises n_RX11 k_X11_raises) rfl rfl rfl (by decide +kernel) ⟨by exact Nat.le_of_ble_eq_true rfl, by exact Nat.le_of_ble_eq_true rfl⟩) (j_preV hK hSX hG (ci := 10) rfl ka0 (by decide)) rfl rfl hl.1 rfl (lv_room (Nat.le_of_ble_eq_true rfl)) dX11_date_102 ⟨by exact Nat.le_of_ble_eq_true rfl, by exact Nat.le_of_ble_eq_true rfl⟩) hG (c2 := 0) (s2 := 0) ⟨by exact Nat.le_of_ble_eq_true rfl, by exact Nat.le_of_ble_eq_true rfl⟩ (fun z25 M26 h H locs hG => ?_)
                rw [hQf]
                exact j_ireti hx hb hr hlocks hG h (by decide) dX11_date_105
  · have h := h.2 c5
    refine lv_aload_n hx hb dX11_date_12 rfl (lv_at hl 0 rfl) ?_
    refine lv_iconst (v := J 1) hx hb dX11_date_13 (by decide) ?_
    refine j_conti (va_runV (As := [.int (J 1)]) (rest := []) ⟨hx, hb, hml, hown, hts⟩ (A_X11_raises l ka0 h) (cwV 1 hts (gj_V ml_RX11_110 i_X11_raises s_X11_raises n_RX11 k_X11_raises) rfl rfl rfl (by decide +kernel) ⟨by exact Nat.le_of_ble_eq_true rfl, by exact Nat.le_of_ble_eq_true rfl⟩) (j_preV hK hSX hG (ci := 10) rfl ka0 (by decide)) rfl rfl hl.1 rfl (lv_room (Nat.le_of_ble_eq_true rfl)) dX11_date_14 ⟨by exact Nat.le_of_ble_eq_true rfl, by exact Nat.le_of_ble_eq_true rfl⟩) hG (c2 := 0) (s2 := 0) ⟨by exact Nat.le_of_ble_eq_true rfl, by exact Nat.le_of_ble_eq_true rfl⟩ (fun z27 M28 h H locs hG => ?_)
    rw [hQf]
    exact j_ireti hx hb hr hlocks hG h (by decide) dX11_date_17

abbrev rm_X11_isDate : Room := { frames := 1, cells := 0, slots := 0, locals := 22 }
set_option maxRecDepth 100000 in
set_option maxHeartbeats 4000000 in
theorem A_X11_isDate (l : Launch) {D : va_G} {cy : Nat → ClassId} {o : Nat} {sK sV : Nat → Nat} {M : jT} {a0 : Int} (h : pg_X11_isDate a0) : CoI l yX11_isDate (wj yX11_isDate cX11_isDate 1 (some .boolean)) rm_X11_isDate D cy o sK sV M [.int (J a0)] (fun z M9 => z = b2i (pb_X11_isDate a0) ∧ M9 = M) := by
  refine j_ofW (cc := cX11_isDate) (maxL := 1) (ret := (some .boolean)) (by decide) rfl (Nat.le_of_ble_eq_true rfl) ?_
  intro p e s m args below meth c hx hb hr hlocks hml hown hts hK hSX H locs hG ls hl Qf hQf
  have hown : s.vm.findClass RX11 = some m.cls := hown
  have hl : lv_has ls 1 [(0, .int (J a0))] := hl
  unfold pg_X11_isDate at h
  refine lv_iload_n hx hb dX11_isDate_0 rfl (lv_at hl 0 rfl) ?_
  refine lv_iconst (v := J 1) hx hb dX11_isDate_1 (by decide) ?_
  refine lv_bipush (v := J 31) hx hb dX11_isDate_2 (by decide) ?_
  obtain ⟨g1, h⟩ := h
  refine j_conti (va_runS (As := [.int (J a0), .int (J 1), .int (J 31)]) (rest := []) ⟨hx, hb, hml, hown, hts⟩ (A_X11_in l g1) (va_cwS 3 hts (gj_S ml_RX11_106 i_X11_in n_RX11 k_X11_in) rfl rfl rfl (by decide +kernel) ⟨by exact Nat.le_of_ble_eq_true rfl, by exact Nat.le_of_ble_eq_true rfl⟩) (j_preS hK hSX hG) rfl rfl hl.1 rfl (lv_room (Nat.le_of_ble_eq_true rfl)) dX11_isDate_4 ⟨by exact Nat.le_of_ble_eq_true rfl, by exact Nat.le_of_ble_eq_true rfl⟩) hG (c2 := 0) (s2 := 0) ⟨by exact Nat.le_of_ble_eq_true rfl, by exact Nat.le_of_ble_eq_true rfl⟩ (fun z2 M3 ez2 H locs hG => ?_)
  obtain ⟨ez2, eM3⟩ := ez2
  subst ez2
  rw [eM3] at hG
  refine j_if_eq_b (tgt := 12) hx hb dX11_isDate_7 (by decide) (fun c4 => ?_) (fun c4 => ?_)
  · have h := h.1 c4
    refine lv_iload_n hx hb dX11_isDate_12 rfl (lv_at hl 0 rfl) ?_
    refine lv_bipush (v := J 100) hx hb dX11_isDate_13 (by decide) ?_
    refine lv_sipush (v := J 599) hx hb dX11_isDate_15 (by decide) ?_
    obtain ⟨g5, h⟩ := h
    refine j_conti (va_runS (As := [.int (J a0), .int (J 100), .int (J 599)]) (rest := []) ⟨hx, hb, hml, hown, hts⟩ (A_X11_in l g5) (va_cwS 3 hts (gj_S ml_RX11_106 i_X11_in n_RX11 k_X11_in) rfl rfl rfl (by decide +kernel) ⟨by exact Nat.le_of_ble_eq_true rfl, by exact Nat.le_of_ble_eq_true rfl⟩) (j_preS hK hSX hG) rfl rfl hl.1 rfl (lv_room (Nat.le_of_ble_eq_true rfl)) dX11_isDate_18 ⟨by exact Nat.le_of_ble_eq_true rfl, by exact Nat.le_of_ble_eq_true rfl⟩) hG (c2 := 0) (s2 := 0) ⟨by exact Nat.le_of_ble_eq_true rfl, by exact Nat.le_of_ble_eq_true rfl⟩ (fun z6 M7 ez6 H locs hG => ?_)
    obtain ⟨ez6, eM7⟩ := ez6
    subst ez6
    rw [eM7] at hG
    refine j_if_eq_b (tgt := 39) hx hb dX11_isDate_21 (by decide) (fun c8 => ?_) (fun c8 => ?_)
    · have h := h.1 c8
      refine lv_iload_n hx hb dX11_isDate_39 rfl (lv_at hl 0 rfl) ?_
      refine lv_sipush (v := J 1010) hx hb dX11_isDate_40 (by decide) ?_
      refine lv_sipush (v := J 1319) hx hb dX11_isDate_43 (by decide) ?_
      obtain ⟨g9, h⟩ := h
      refine j_conti (va_runS (As := [.int (J a0), .int (J 1010), .int (J 1319)]) (rest := []) ⟨hx, hb, hml, hown, hts⟩ (A_X11_in l g9) (va_cwS 3 hts (gj_S ml_RX11_106 i_X11_in n_RX11 k_X11_in) rfl rfl rfl (by decide +kernel) ⟨by exact Nat.le_of_ble_eq_true rfl, by exact Nat.le_of_ble_eq_true rfl⟩) (j_preS hK hSX hG) rfl rfl hl.1 rfl (lv_room (Nat.le_of_ble_eq_true rfl)) dX11_isDate_46 ⟨by exact Nat.le_of_ble_eq_true rfl, by exact Nat.le_of_ble_eq_true rfl⟩) hG (c2 := 0) (s2 := 0) ⟨by exact Nat.le_of_ble_eq_true rfl, by exact Nat.le_of_ble_eq_true rfl⟩ (fun z10 M11 ez10 H locs hG => ?_)
      obtain ⟨ez10, eM11⟩ := ez10
      subst ez10
      rw [eM11] at hG
      refine j_if_eq_b (tgt := 65) hx hb dX11_isDate_49 (by decide) (fun c12 => ?_) (fun c12 => ?_)
      · have h := h.1 c12
        refine lv_iconst (v := J 0) hx hb dX11_isDate_65 (by decide) ?_
        rw [hQf]
        exact j_iretn hx hb hr hlocks (nar_b (by decide)) hG ⟨(b2i_iff0 ((or_iff_right c4).trans ((pj_t c8 c8).trans (iff_of_false (fun q8 => c12 q8.1) id)))), rfl⟩ (by decide) dX11_isDate_66
      · have h := h.2 c12
        refine lv_iload_n hx hb dX11_isDate_52 rfl (lv_at hl 0 rfl) ?_
        refine lv_bipush (v := J 10) hx hb dX11_isDate_53 (by decide) ?_
        obtain ⟨g13, h⟩ := h
        refine j_irem hx hb dX11_isDate_55 g13 (by decide) ?_
        refine lv_bipush (v := J 6) hx hb dX11_isDate_56 (by decide) ?_
        obtain ⟨g15, h⟩ := h
        refine j_icmp_gt (tgt := 65) hx hb dX11_isDate_58 (by decide) g15 (by decide) (fun c14 => ?_) (fun c14 => ?_)
        · have h := h.1 c14
          refine lv_iconst (v := J 0) hx hb dX11_isDate_65 (by decide) ?_
          rw [hQf]
          exact j_iretn hx hb hr hlocks (nar_b (by decide)) hG ⟨(b2i_iff0 ((or_iff_right c4).trans ((pj_t c8 c8).trans ((and_iff_right c12).trans (iff_of_false (show ¬ (a0 % 10 ≤ 6) from by omega) id))))), rfl⟩ (by decide) dX11_isDate_66
        · have h := h.2 c14
          refine lv_iconst (v := J 1) hx hb dX11_isDate_61 (by decide) ?_
          refine lv_goto (tgt := 66) hx hb dX11_isDate_62 (by decide) ?_
          rw [hQf]
          exact j_iretn hx hb hr hlocks (nar_b (by decide)) hG ⟨(b2i_iff1 ((or_iff_right c4).trans ((pj_t c8 c8).trans ((and_iff_right c12).trans (iff_of_true c14 trivial))))), rfl⟩ (by decide) dX11_isDate_66
    · have h := h.2 c8
      refine lv_iload_n hx hb dX11_isDate_24 rfl (lv_at hl 0 rfl) ?_
      refine lv_bipush (v := J 100) hx hb dX11_isDate_25 (by decide) ?_
      obtain ⟨g16, h⟩ := h
      refine j_irem hx hb dX11_isDate_27 g16 (by decide) ?_
      refine lv_bipush (v := J 6) hx hb dX11_isDate_28 (by decide) ?_
      obtain ⟨g18, h⟩ := h
      refine j_icmp_gt (tgt := 37) hx hb dX11_isDate_30 (by decide) g18 (by decide) (fun c17 => ?_) (fun c17 => ?_)
      · have h := h.1 c17
        refine lv_iconst (v := J 0) hx hb dX11_isDate_37 (by decide) ?_
        rw [hQf]
        exact j_iretn hx hb hr hlocks (nar_b (by decide)) hG ⟨(b2i_iff0 ((or_iff_right c4).trans ((pj_f (fun q9 => q9 c8) c8).trans (iff_of_false (show ¬ (a0 % 100 ≤ 6) from by omega) id)))), rfl⟩ (by decide) dX11_isDate_38
      · have h := h.2 c17
        refine lv_iconst (v := J 1) hx hb dX11_isDate_33 (by decide) ?_
        refine lv_goto (tgt := 38) hx hb dX11_isDate_34 (by decide) ?_
        rw [hQf]
        exact j_iretn hx hb hr hlocks (nar_b (by decide)) hG ⟨(b2i_iff1 ((or_iff_right c4).trans ((pj_f (fun q9 => q9 c8) c8).trans (iff_of_true c17 trivial)))), rfl⟩ (by decide) dX11_isDate_38
  · have h := h.2 c4
    refine lv_iconst (v := J 1) hx hb dX11_isDate_10 (by decide) ?_
    rw [hQf]
    exact j_iretn hx hb hr hlocks (nar_b (by decide)) hG ⟨(b2i_iff1 (iff_of_true (Or.inl c4) trivial)), rfl⟩ (by decide) dX11_isDate_11

abbrev rm_X11_dayBy : Room := { frames := 2, cells := 0, slots := 0, locals := 44 }
set_option maxRecDepth 100000 in
set_option maxHeartbeats 4000000 in
theorem A_X11_dayBy (l : Launch) {D : va_G} {cy : Nat → ClassId} {o : Nat} {sK sV : Nat → Nat} {M : jT} {a0 : Int} {a1 : Int} {a2 : Int} {Q : Int → Prop} (h : wp_X11_dayBy M a0 a1 a2 Q) : CoI l yX11_dayBy (wj yX11_dayBy cX11_dayBy 8 (some .int)) rm_X11_dayBy D cy o sK sV M [.int (J a0), .int (J a1), .int (J a2)] (fun z M9 => Q z ∧ M9 = M) := by
  refine j_ofW (cc := cX11_dayBy) (maxL := 8) (ret := (some .int)) (by decide) rfl (Nat.le_of_ble_eq_true rfl) ?_
  intro p e s m args below meth c hx hb hr hlocks hml hown hts hK hSX H locs hG ls hl Qf hQf
  have hown : s.vm.findClass RX11 = some m.cls := hown
  have hl : lv_has ls 8 [(0, .int (J a0)), (1, .int (J a1)), (2, .int (J a2))] := hl
  unfold wp_X11_dayBy at h
  refine lv_iload_n hx hb dX11_dayBy_0 rfl (lv_at hl 1 rfl) ?_
  refine lv_iload_n hx hb dX11_dayBy_1 rfl (lv_at hl 2 rfl) ?_
  refine j_conti (va_runS (As := [.int (J a1), .int (J a2)]) (rest := []) ⟨hx, hb, hml, hown, hts⟩ (A_X11_monthDay l h) (va_cwS 2 hts (gj_S ml_RX11_100 i_X11_monthDay n_RX11 k_X11_monthDay) rfl rfl rfl (by decide +kernel) ⟨by exact Nat.le_of_ble_eq_true rfl, by exact Nat.le_of_ble_eq_true rfl⟩) (j_preS hK hSX hG) rfl rfl hl.1 rfl (lv_room (Nat.le_of_ble_eq_true rfl)) dX11_dayBy_2 ⟨by exact Nat.le_of_ble_eq_true rfl, by exact Nat.le_of_ble_eq_true rfl⟩) hG (c2 := 0) (s2 := 0) ⟨by exact Nat.le_of_ble_eq_true rfl, by exact Nat.le_of_ble_eq_true rfl⟩ (fun z1 M2 h H locs hG => ?_)
  obtain ⟨h, eM2⟩ := h
  rw [eM2] at hG
  refine lv_istore_n (lv' := [(3, .int (J z1)), (0, .int (J a0)), (1, .int (J a1)), (2, .int (J a2))]) hx hb dX11_dayBy_5 rfl hl (by decide) rfl (fun ls hl => ?_)
  refine lv_iload_n hx hb dX11_dayBy_6 rfl (lv_at hl 2 rfl) ?_
  refine lv_iload_n hx hb dX11_dayBy_7 rfl (lv_at hl 3 rfl) ?_
  obtain ⟨g3, h⟩ := h
  refine j_conti (va_runS (As := [.int (J a1), .int (J a2)]) (rest := []) ⟨hx, hb, hml, hown, hts⟩ (A_X11_monthLength l g3) (va_cwS 2 hts (gj_S ml_RX11_93 i_X11_monthLength n_RX11 k_X11_monthLength) rfl rfl rfl (by decide +kernel) ⟨by exact Nat.le_of_ble_eq_true rfl, by exact Nat.le_of_ble_eq_true rfl⟩) (j_preS hK hSX hG) rfl rfl hl.1 rfl (lv_room (Nat.le_of_ble_eq_true rfl)) dX11_dayBy_8 ⟨by exact Nat.le_of_ble_eq_true rfl, by exact Nat.le_of_ble_eq_true rfl⟩) hG (c2 := 0) (s2 := 0) ⟨by exact Nat.le_of_ble_eq_true rfl, by exact Nat.le_of_ble_eq_true rfl⟩ (fun z4 M5 ez4 H locs hG => ?_)
  obtain ⟨ez4, eM5⟩ := ez4
  subst ez4
  rw [eM5] at hG
  refine j_topi (fun x6 ex6 => ?_)
  have h := h x6 ex6
  refine lv_istore (lv' := [(4, .int (J x6)), (3, .int (J z1)), (0, .int (J a0)), (1, .int (J a1)), (2, .int (J a2))]) hx hb dX11_dayBy_11 hl (by decide) rfl (fun ls hl => ?_)
  refine lv_iload_n hx hb dX11_dayBy_13 rfl (lv_at hl 2 rfl) ?_
  refine lv_bipush (v := J 31) hx hb dX11_dayBy_14 (by decide) ?_
  obtain ⟨g8, h⟩ := h
  refine j_icmp_gt (tgt := 35) hx hb dX11_dayBy_16 (by decide) g8 (by decide) (fun c7 => ?_) (fun c7 => ?_)
  · have h := h.1 c7
    refine lv_iload_n hx hb dX11_dayBy_35 rfl (lv_at hl 2 rfl) ?_
    refine lv_sipush (v := J 1000) hx hb dX11_dayBy_36 (by decide) ?_
    obtain ⟨hg, h⟩ := h
    have jK13 : ∀ x12 : Int, (1000 ≤ a0 → x12 = a0 % 10) → (a0 < 1000 → x12 = a0 % 100) → ∀ (H : Heap) (locs : List Loc), GM D cy o M s.heap H locs → ∀ ls : Array Slot, lv_has ls 8 [(0, .int (J a0)), (3, .int (J z1)), (4, .int (J x6))] → W p l e rm_X11_dayBy s m args below meth c H locs 0 0 Qf (F0 m 53 ls [.int (J x12)]) := by
      intro x12 qx12_0 qx12_1 H locs hG ls hl
      have h := h x12 qx12_0 qx12_1
      refine lv_istore (lv' := [(5, .int (J x12)), (0, .int (J a0)), (3, .int (J z1)), (4, .int (J x6))]) hx hb dX11_dayBy_53 hl (by decide) rfl (fun ls hl => ?_)
      refine lv_iconst (v := J 1) hx hb dX11_dayBy_55 (by decide) ?_
      refine lv_istore (lv' := [(6, .int (J 1)), (5, .int (J x12)), (0, .int (J a0)), (3, .int (J z1)), (4, .int (J x6))]) hx hb dX11_dayBy_56 hl (by decide) rfl (fun ls hl => ?_)
      refine lv_iload_n hx hb dX11_dayBy_58 rfl (lv_at hl 2 rfl) ?_
      refine lv_sipush (v := J 1000) hx hb dX11_dayBy_59 (by decide) ?_
      obtain ⟨hg, h⟩ := h
      have jK21 : ∀ x20 : Int, (a0 < 1000 ∧ a0 < 500 → x20 = 1) → (a0 < 1000 ∧ 500 ≤ a0 → x20 = x6 - 6) → (1000 ≤ a0 → x20 = (a0 - 1000) / 10) → ∀ (H : Heap) (locs : List Loc), GM D cy o M s.heap H locs → ∀ ls : Array Slot, lv_has ls 8 [(0, .int (J a0)), (3, .int (J z1)), (4, .int (J x6)), (5, .int (J x12)), (6, .int (J x20))] → W p l e rm_X11_dayBy s m args below meth c H locs 0 0 Qf (F0 m 92 ls []) := by
        intro x20 qx20_0 qx20_1 qx20_2 H locs hG ls hl
        have h := h x20 qx20_0 qx20_1 qx20_2
        refine lv_iload hx hb dX11_dayBy_92 (lv_at hl 4 rfl) ?_
        refine lv_iload hx hb dX11_dayBy_94 (lv_at hl 2 rfl) ?_
        obtain ⟨g26, h⟩ := h
        obtain ⟨g27, h⟩ := h
        refine j_icmp_le (tgt := 101) hx hb dX11_dayBy_96 (by decide) g26 g27 (fun c25 => ?_) (fun c25 => ?_)
        · have h := h.1 c25
          refine lv_iload hx hb dX11_dayBy_101 (lv_at hl 4 rfl) ?_
          refine lv_iload hx hb dX11_dayBy_103 (lv_at hl 3 rfl) ?_
          refine lv_iload_n hx hb dX11_dayBy_105 rfl (lv_at hl 1 rfl) ?_
          refine lv_iload hx hb dX11_dayBy_106 (lv_at hl 4 rfl) ?_
          refine j_iadd hx hb dX11_dayBy_108 ?_
          refine lv_iconst (v := J 1) hx hb dX11_dayBy_109 (by decide) ?_
          refine j_isub hx hb dX11_dayBy_110 ?_
          obtain ⟨g28, h⟩ := h
          refine j_conti (va_runS (As := [.int (J ((z1 + x20) - 1))]) (rest := [.int (J x12), .int (J x20)]) ⟨hx, hb, hml, hown, hts⟩ (A_X11_weekday l g28) (va_cwS 1 hts (gj_S ml_RX11_120 i_X11_weekday n_RX11 k_X11_weekday) rfl rfl rfl (by decide +kernel) ⟨by exact Nat.le_of_ble_eq_true rfl, by exact Nat.le_of_ble_eq_true rfl⟩) (j_preS hK hSX hG) rfl rfl hl.1 rfl (lv_room (Nat.le_of_ble_eq_true rfl)) dX11_dayBy_111 ⟨by exact Nat.le_of_ble_eq_true rfl, by exact Nat.le_of_ble_eq_true rfl⟩) hG (c2 := 0) (s2 := 0) ⟨by exact Nat.le_of_ble_eq_true rfl, by exact Nat.le_of_ble_eq_true rfl⟩ (fun z29 M30 ez29 H locs hG => ?_)
          obtain ⟨ez29, eM30⟩ := ez29
          subst ez29
          rw [eM30] at hG
          refine j_isub hx hb dX11_dayBy_114 ?_
          refine lv_bipush (v := J 7) hx hb dX11_dayBy_115 (by decide) ?_
          refine j_iadd hx hb dX11_dayBy_117 ?_
          refine lv_bipush (v := J 7) hx hb dX11_dayBy_118 (by decide) ?_
          obtain ⟨g31, h⟩ := h
          refine j_irem hx hb dX11_dayBy_120 g31 (by decide) ?_
          refine j_iadd hx hb dX11_dayBy_121 ?_
          refine j_topi (fun x32 ex32 => ?_)
          have h := h x32 ex32
          refine lv_istore (lv' := [(7, .int (J x32)), (0, .int (J a0)), (3, .int (J z1)), (4, .int (J x6)), (5, .int (J x12)), (6, .int (J x20))]) hx hb dX11_dayBy_122 hl (by decide) rfl (fun ls hl => ?_)
          refine lv_iload_n hx hb dX11_dayBy_124 rfl (lv_at hl 1 rfl) ?_
          refine lv_sipush (v := J 500) hx hb dX11_dayBy_125 (by decide) ?_
          obtain ⟨hg, h⟩ := h
          have jK36 : ∀ x35 : Int, (500 ≤ a0 → x35 = x32) → (a0 < 500 → x35 = x32 + (7 * ((a0 / 100) - 1))) → ∀ (H : Heap) (locs : List Loc), GM D cy o M s.heap H locs → ∀ ls : Array Slot, lv_has ls 8 [(3, .int (J z1)), (4, .int (J x6)), (7, .int (J x35))] → W p l e rm_X11_dayBy s m args below meth c H locs 0 0 Qf (F0 m 145 ls []) := by
            intro x35 qx35_0 qx35_1 H locs hG ls hl
            have h := h x35 qx35_0 qx35_1
            refine lv_iload hx hb dX11_dayBy_145 (lv_at hl 2 rfl) ?_
            refine lv_iload hx hb dX11_dayBy_147 (lv_at hl 1 rfl) ?_
            obtain ⟨hg, h⟩ := h
            have jK42 : ∀ x41 : Int, (x6 < x35 → x41 = (-1)) → (x35 ≤ x6 → x41 = (z1 + x35) - 1) → ∀ (H : Heap) (locs : List Loc), GM D cy o M s.heap H locs → ∀ ls : Array Slot, lv_has ls 8 [] → W p l e rm_X11_dayBy s m args below meth c H locs 0 0 Qf (F0 m 162 ls [.int (J x41)]) := by
              intro x41 qx41_0 qx41_1 H locs hG ls hl
              have h := h x41 qx41_0 qx41_1
              rw [hQf]
              exact j_ireti hx hb hr hlocks hG ⟨h, rfl⟩ (by decide) dX11_dayBy_162
            have h := hg
            obtain ⟨g44, h⟩ := h
            refine j_icmp_gt (tgt := 161) hx hb dX11_dayBy_149 (by decide) g44 g27 (fun c43 => ?_) (fun c43 => ?_)
            · have h := h.1 c43
              refine lv_iconst (v := J (-1)) hx hb dX11_dayBy_161 (by decide) ?_
              exact jK42 ((-1)) (fun _ => rfl) (fun q => absurd q (by omega)) H locs hG ls (lv_sub hl [] rfl)
            · have h := h.2 c43
              refine lv_iload_n hx hb dX11_dayBy_152 rfl (lv_at hl 0 rfl) ?_
              refine lv_iload hx hb dX11_dayBy_153 (lv_at hl 2 rfl) ?_
              refine j_iadd hx hb dX11_dayBy_155 ?_
              refine lv_iconst (v := J 1) hx hb dX11_dayBy_156 (by decide) ?_
              refine j_isub hx hb dX11_dayBy_157 ?_
              refine lv_goto (tgt := 162) hx hb dX11_dayBy_158 (by decide) ?_
              exact jK42 ((z1 + x35) - 1) (fun q => absurd q (by omega)) (fun _ => rfl) H locs hG ls (lv_sub hl [] rfl)
          have h := hg
          refine j_icmp_ge (tgt := 145) hx hb dX11_dayBy_128 (by decide) g8 (by decide) (fun c37 => ?_) (fun c37 => ?_)
          · have h := h.1 c37
            exact jK36 x32 (fun _ => rfl) (fun q => absurd q (by omega)) H locs hG ls (lv_sub hl [2, 3, 0] rfl)
          · have h := h.2 c37
            refine lv_iload hx hb dX11_dayBy_131 (lv_at hl 0 rfl) ?_
            refine lv_bipush (v := J 7) hx hb dX11_dayBy_133 (by decide) ?_
            refine lv_iload_n hx hb dX11_dayBy_135 rfl (lv_at hl 1 rfl) ?_
            refine lv_bipush (v := J 100) hx hb dX11_dayBy_136 (by decide) ?_
            obtain ⟨g38, h⟩ := h
            refine j_idiv hx hb dX11_dayBy_138 g38 (by decide) ?_
            refine lv_iconst (v := J 1) hx hb dX11_dayBy_139 (by decide) ?_
            refine j_isub hx hb dX11_dayBy_140 ?_
            refine j_imul hx hb dX11_dayBy_141 ?_
            refine j_iadd hx hb dX11_dayBy_142 ?_
            refine lv_istore (lv' := [(7, .int (J (x32 + (7 * ((a0 / 100) - 1))))), (0, .int (J a0)), (3, .int (J z1)), (4, .int (J x6)), (5, .int (J x12)), (6, .int (J x20))]) hx hb dX11_dayBy_143 hl (by decide) rfl (fun ls hl => ?_)
            exact jK36 (x32 + (7 * ((a0 / 100) - 1))) (fun q => absurd q (by omega)) (fun _ => rfl) H locs hG ls (lv_sub hl [2, 3, 0] rfl)
        · have h := h.2 c25
          refine lv_iconst (v := J (-1)) hx hb dX11_dayBy_99 (by decide) ?_
          rw [hQf]
          exact j_ireti hx hb hr hlocks hG ⟨h, rfl⟩ (by decide) dX11_dayBy_100
      have h := hg
      refine j_icmp_lt (tgt := 78) hx hb dX11_dayBy_62 (by decide) g8 (by decide) (fun c22 => ?_) (fun c22 => ?_)
      · have h := h.1 c22
        refine lv_iload_n hx hb dX11_dayBy_78 rfl (lv_at hl 2 rfl) ?_
        refine lv_sipush (v := J 500) hx hb dX11_dayBy_79 (by decide) ?_
        refine j_icmp_lt (tgt := 92) hx hb dX11_dayBy_82 (by decide) g8 (by decide) (fun c23 => ?_) (fun c23 => ?_)
        · have h := h.1 c23
          exact jK21 1 (fun _ => rfl) (fun q => absurd q.2 (by omega)) (fun q => absurd q (by omega)) H locs hG ls (lv_sub hl [2, 3, 4, 1, 0] rfl)
        · have h := h.2 c23
          refine lv_iload hx hb dX11_dayBy_85 (lv_at hl 4 rfl) ?_
          refine lv_bipush (v := J 6) hx hb dX11_dayBy_87 (by decide) ?_
          refine j_isub hx hb dX11_dayBy_89 ?_
          refine lv_istore (lv' := [(6, .int (J (x6 - 6))), (5, .int (J x12)), (0, .int (J a0)), (3, .int (J z1)), (4, .int (J x6))]) hx hb dX11_dayBy_90 hl (by decide) rfl (fun ls hl => ?_)
          exact jK21 (x6 - 6) (fun q => absurd q.2 (by omega)) (fun _ => rfl) (fun q => absurd q (by omega)) H locs hG ls (lv_sub hl [2, 3, 4, 1, 0] rfl)
      · have h := h.2 c22
        refine lv_iload_n hx hb dX11_dayBy_65 rfl (lv_at hl 2 rfl) ?_
        refine lv_sipush (v := J 1000) hx hb dX11_dayBy_66 (by decide) ?_
        refine j_isub hx hb dX11_dayBy_69 ?_
        refine lv_bipush (v := J 10) hx hb dX11_dayBy_70 (by decide) ?_
        obtain ⟨g24, h⟩ := h
        refine j_idiv hx hb dX11_dayBy_72 g24 (by decide) ?_
        refine lv_istore (lv' := [(6, .int (J ((a0 - 1000) / 10))), (5, .int (J x12)), (0, .int (J a0)), (3, .int (J z1)), (4, .int (J x6))]) hx hb dX11_dayBy_73 hl (by decide) rfl (fun ls hl => ?_)
        refine lv_goto (tgt := 92) hx hb dX11_dayBy_75 (by decide) ?_
        exact jK21 ((a0 - 1000) / 10) (fun q => absurd q.1 (by omega)) (fun q => absurd q.1 (by omega)) (fun _ => rfl) H locs hG ls (lv_sub hl [2, 3, 4, 1, 0] rfl)
    have h := hg
    refine j_icmp_ge (tgt := 49) hx hb dX11_dayBy_39 (by decide) g8 (by decide) (fun c14 => ?_) (fun c14 => ?_)
    · have h := h.1 c14
      refine lv_iload_n hx hb dX11_dayBy_49 rfl (lv_at hl 2 rfl) ?_
      refine lv_bipush (v := J 10) hx hb dX11_dayBy_50 (by decide) ?_
      obtain ⟨g15, h⟩ := h
      refine j_irem hx hb dX11_dayBy_52 g15 (by decide) ?_
      exact jK13 (a0 % 10) (fun _ => rfl) (fun q => absurd q (by omega)) H locs hG ls (lv_sub hl [2, 1, 0] rfl)
    · have h := h.2 c14
      refine lv_iload_n hx hb dX11_dayBy_42 rfl (lv_at hl 2 rfl) ?_
      refine lv_bipush (v := J 100) hx hb dX11_dayBy_43 (by decide) ?_
      obtain ⟨g16, h⟩ := h
      refine j_irem hx hb dX11_dayBy_45 g16 (by decide) ?_
      refine lv_goto (tgt := 53) hx hb dX11_dayBy_46 (by decide) ?_
      exact jK13 (a0 % 100) (fun q => absurd q (by omega)) (fun _ => rfl) H locs hG ls (lv_sub hl [2, 1, 0] rfl)
  · have h := h.2 c7
    refine lv_iload_n hx hb dX11_dayBy_19 rfl (lv_at hl 2 rfl) ?_
    refine lv_iload hx hb dX11_dayBy_20 (lv_at hl 0 rfl) ?_
    obtain ⟨hg, h⟩ := h
    have jK48 : ∀ x47 : Int, (x6 < a0 → x47 = (-1)) → (a0 ≤ x6 → x47 = (z1 + a0) - 1) → ∀ (H : Heap) (locs : List Loc), GM D cy o M s.heap H locs → ∀ ls : Array Slot, lv_has ls 8 [] → W p l e rm_X11_dayBy s m args below meth c H locs 0 0 Qf (F0 m 34 ls [.int (J x47)]) := by
      intro x47 qx47_0 qx47_1 H locs hG ls hl
      have h := h x47 qx47_0 qx47_1
      rw [hQf]
      exact j_ireti hx hb hr hlocks hG ⟨h, rfl⟩ (by decide) dX11_dayBy_34
    have h := hg
    obtain ⟨g50, h⟩ := h
    refine j_icmp_gt (tgt := 33) hx hb dX11_dayBy_22 (by decide) g8 g50 (fun c49 => ?_) (fun c49 => ?_)
    · have h := h.1 c49
      refine lv_iconst (v := J (-1)) hx hb dX11_dayBy_33 (by decide) ?_
      exact jK48 ((-1)) (fun _ => rfl) (fun q => absurd q (by omega)) H locs hG ls (lv_sub hl [] rfl)
    · have h := h.2 c49
      refine lv_iload_n hx hb dX11_dayBy_25 rfl (lv_at hl 1 rfl) ?_
      refine lv_iload_n hx hb dX11_dayBy_26 rfl (lv_at hl 2 rfl) ?_
      refine j_iadd hx hb dX11_dayBy_27 ?_
      refine lv_iconst (v := J 1) hx hb dX11_dayBy_28 (by decide) ?_
      refine j_isub hx hb dX11_dayBy_29 ?_
      refine lv_goto (tgt := 34) hx hb dX11_dayBy_30 (by decide) ?_
      exact jK48 ((z1 + a0) - 1) (fun q => absurd q (by omega)) (fun _ => rfl) H locs hG ls (lv_sub hl [] rfl)

abbrev rm_X11_isZone : Room := { frames := 1, cells := 0, slots := 0, locals := 22 }
set_option maxRecDepth 100000 in
set_option maxHeartbeats 4000000 in
theorem A_X11_isZone (l : Launch) {D : va_G} {cy : Nat → ClassId} {o : Nat} {sK sV : Nat → Nat} {M : jT} {a0 : Int} {a1 : Int} (ka0 : kd a0 = 11) (h : pg_X11_isZone M a0 a1) : CoI l yX11_isZone (wj yX11_isZone cX11_isZone 2 (some .boolean)) rm_X11_isZone D cy o sK sV M [.ref (rA o a0), .int (J a1)] (fun z M9 => z = b2i (pb_X11_isZone M a0 a1) ∧ M9 = M) := by
  refine j_ofW (cc := cX11_isZone) (maxL := 2) (ret := (some .boolean)) (by decide) rfl (Nat.le_of_ble_eq_true rfl) ?_
  intro p e s m args below meth c hx hb hr hlocks hml hown hts hK hSX H locs hG ls hl Qf hQf
  have hown : s.vm.findClass RX11 = some m.cls := hown
  have hl : lv_has ls 2 [(0, .ref (rA o a0)), (1, .int (J a1))] := hl
  have w_fl_RX11_9 := hts _ (List.mem_cons_of_mem _ fl_RX11_9)
  unfold pg_X11_isZone at h
  refine lv_iload_n hx hb dX11_isZone_0 rfl (lv_at hl 1 rfl) ?_
  refine lv_iconst (v := J 0) hx hb dX11_isZone_1 (by decide) ?_
  refine lv_aload_n hx hb dX11_isZone_2 rfl (lv_at hl 0 rfl) ?_
  refine j_getr hx hb hts hown hK hG (k := a0) (fun w h => List.mem_cons_of_mem _ (u_X11 w h)) (ci := 10) rfl ka0 1 (k2 := a0 + 1) (by decide) (by show a0 + (1 : Int) = a0 + 1; omega) w_fl_RX11_9 dX11_isZone_3 ?_
  refine lv_iconst (v := J 0) hx hb dX11_isZone_6 (by decide) ?_
  refine j_iald hx hb hK hG (n := 1294) (kf_11_1 ka0) (by decide) (by decide) dX11_isZone_7 ?_
  refine lv_iconst (v := J 1) hx hb dX11_isZone_8 (by decide) ?_
  refine j_isub hx hb dX11_isZone_9 ?_
  obtain ⟨g1, h⟩ := h
  refine j_conti (va_runS (As := [.int (J a1), .int (J 0), .int (J ((M (a0 + 1) 0) - 1))]) (rest := []) ⟨hx, hb, hml, hown, hts⟩ (A_X11_in l g1) (va_cwS 3 hts (gj_S ml_RX11_106 i_X11_in n_RX11 k_X11_in) rfl rfl rfl (by decide +kernel) ⟨by exact Nat.le_of_ble_eq_true rfl, by exact Nat.le_of_ble_eq_true rfl⟩) (j_preS hK hSX hG) rfl rfl hl.1 rfl (lv_room (Nat.le_of_ble_eq_true rfl)) dX11_isZone_10 ⟨by exact Nat.le_of_ble_eq_true rfl, by exact Nat.le_of_ble_eq_true rfl⟩) hG (c2 := 0) (s2 := 0) ⟨by exact Nat.le_of_ble_eq_true rfl, by exact Nat.le_of_ble_eq_true rfl⟩ (fun z2 M3 ez2 H locs hG => ?_)
  obtain ⟨ez2, eM3⟩ := ez2
  subst ez2
  rw [eM3] at hG
  rw [hQf]
  exact j_iretn hx hb hr hlocks (nar_b (b2i_rng _)) hG ⟨(b2i_iff Iff.rfl), rfl⟩ (by decide) dX11_isZone_13

abbrev rm_X11_zoneAt : Room := { frames := 0, cells := 0, slots := 0, locals := 0 }
set_option maxRecDepth 100000 in
set_option maxHeartbeats 4000000 in
theorem A_X11_zoneAt (l : Launch) {D : va_G} {cy : Nat → ClassId} {o : Nat} {sK sV : Nat → Nat} {M : jT} {a0 : Int} : CoI l yX11_zoneAt (wj yX11_zoneAt cX11_zoneAt 1 (some .int)) rm_X11_zoneAt D cy o sK sV M [.int (J a0)] (fun z M9 => z = pf_X11_zoneAt a0 ∧ M9 = M) := by
  refine j_ofW (cc := cX11_zoneAt) (maxL := 1) (ret := (some .int)) (by decide) rfl (Nat.le_of_ble_eq_true rfl) ?_
  intro p e s m args below meth c hx hb hr hlocks hml hown hts hK hSX H locs hG ls hl Qf hQf
  have hown : s.vm.findClass RX11 = some m.cls := hown
  have hl : lv_has ls 1 [(0, .int (J a0))] := hl
  refine lv_iconst (v := J 2) hx hb dX11_zoneAt_0 (by decide) ?_
  refine lv_bipush (v := J 67) hx hb dX11_zoneAt_1 (by decide) ?_
  refine lv_iload_n hx hb dX11_zoneAt_3 rfl (lv_at hl 0 rfl) ?_
  refine j_imul hx hb dX11_zoneAt_4 ?_
  refine j_iadd hx hb dX11_zoneAt_5 ?_
  rw [hQf]
  exact j_ireti hx hb hr hlocks hG ⟨rfl, rfl⟩ (by decide) dX11_zoneAt_6

abbrev rm_X11_ruleAt : Room := { frames := 1, cells := 0, slots := 0, locals := 20 }
set_option maxRecDepth 100000 in
set_option maxHeartbeats 4000000 in
theorem A_X11_ruleAt (l : Launch) {D : va_G} {cy : Nat → ClassId} {o : Nat} {sK sV : Nat → Nat} {M : jT} {a0 : Int} {a1 : Int} : CoI l yX11_ruleAt (wj yX11_ruleAt cX11_ruleAt 2 (some .int)) rm_X11_ruleAt D cy o sK sV M [.int (J a0), .int (J a1)] (fun z M9 => z = pf_X11_ruleAt a0 a1 ∧ M9 = M) := by
  refine j_ofW (cc := cX11_ruleAt) (maxL := 2) (ret := (some .int)) (by decide) rfl (Nat.le_of_ble_eq_true rfl) ?_
  intro p e s m args below meth c hx hb hr hlocks hml hown hts hK hSX H locs hG ls hl Qf hQf
  have hown : s.vm.findClass RX11 = some m.cls := hown
  have hl : lv_has ls 2 [(0, .int (J a0)), (1, .int (J a1))] := hl
  refine lv_iload_n hx hb dX11_ruleAt_0 rfl (lv_at hl 0 rfl) ?_
  refine j_conti (va_runS (As := [.int (J a0)]) (rest := []) ⟨hx, hb, hml, hown, hts⟩ (A_X11_zoneAt l) (va_cwS 1 hts (gj_S ml_RX11_123 i_X11_zoneAt n_RX11 k_X11_zoneAt) rfl rfl rfl (by decide +kernel) ⟨by exact Nat.le_of_ble_eq_true rfl, by exact Nat.le_of_ble_eq_true rfl⟩) (j_preS hK hSX hG) rfl rfl hl.1 rfl (lv_room (Nat.le_of_ble_eq_true rfl)) dX11_ruleAt_1 ⟨by exact Nat.le_of_ble_eq_true rfl, by exact Nat.le_of_ble_eq_true rfl⟩) hG (c2 := 0) (s2 := 0) ⟨by exact Nat.le_of_ble_eq_true rfl, by exact Nat.le_of_ble_eq_true rfl⟩ (fun z1 M2 ez1 H locs hG => ?_)
  obtain ⟨ez1, eM2⟩ := ez1
  subst ez1
  rw [eM2] at hG
  refine lv_iconst (v := J 3) hx hb dX11_ruleAt_4 (by decide) ?_
  refine j_iadd hx hb dX11_ruleAt_5 ?_
  refine lv_bipush (v := J 7) hx hb dX11_ruleAt_6 (by decide) ?_
  refine lv_iload_n hx hb dX11_ruleAt_8 rfl (lv_at hl 1 rfl) ?_
  refine j_imul hx hb dX11_ruleAt_9 ?_
  refine j_iadd hx hb dX11_ruleAt_10 ?_
  rw [hQf]
  exact j_ireti hx hb hr hlocks hG ⟨rfl, rfl⟩ (by decide) dX11_ruleAt_11

abbrev rm_X11_isRule : Room := { frames := 2, cells := 0, slots := 0, locals := 43 }
set_option maxRecDepth 100000 in
set_option maxHeartbeats 4000000 in
theorem A_X11_isRule (l : Launch) {D : va_G} {cy : Nat → ClassId} {o : Nat} {sK sV : Nat → Nat} {M : jT} {a0 : Int} {a1 : Int} {a2 : Int} (ka0 : kd a0 = 11) (h : pg_X11_isRule M a0 a1 a2) : CoI l yX11_isRule (wj yX11_isRule cX11_isRule 3 (some .boolean)) rm_X11_isRule D cy o sK sV M [.ref (rA o a0), .int (J a1), .int (J a2)] (fun z M9 => z = b2i (pb_X11_isRule M a0 a1 a2) ∧ M9 = M) := by
  refine j_ofW (cc := cX11_isRule) (maxL := 3) (ret := (some .boolean)) (by decide) rfl (Nat.le_of_ble_eq_true rfl) ?_
  intro p e s m args below meth c hx hb hr hlocks hml hown hts hK hSX H locs hG ls hl Qf hQf
  have hown : s.vm.findClass RX11 = some m.cls := hown
  have hl : lv_has ls 3 [(0, .ref (rA o a0)), (1, .int (J a1)), (2, .int (J a2))] := hl
  have w_fl_RX11_9 := hts _ (List.mem_cons_of_mem _ fl_RX11_9)
  unfold pg_X11_isRule at h
  refine lv_aload_n hx hb dX11_isRule_0 rfl (lv_at hl 0 rfl) ?_
  refine lv_iload_n hx hb dX11_isRule_1 rfl (lv_at hl 1 rfl) ?_
  obtain ⟨g1, h⟩ := h
  refine j_conti (va_runV (As := [.int (J a1)]) (rest := []) ⟨hx, hb, hml, hown, hts⟩ (A_X11_isZone l ka0 g1) (cwV 1 hts (gj_V ml_RX11_126 i_X11_isZone s_X11_isZone n_RX11 k_X11_isZone) rfl rfl rfl (by decide +kernel) ⟨by exact Nat.le_of_ble_eq_true rfl, by exact Nat.le_of_ble_eq_true rfl⟩) (j_preV hK hSX hG (ci := 10) rfl ka0 (by decide)) rfl rfl hl.1 rfl (lv_room (Nat.le_of_ble_eq_true rfl)) dX11_isRule_2 ⟨by exact Nat.le_of_ble_eq_true rfl, by exact Nat.le_of_ble_eq_true rfl⟩) hG (c2 := 0) (s2 := 0) ⟨by exact Nat.le_of_ble_eq_true rfl, by exact Nat.le_of_ble_eq_true rfl⟩ (fun z2 M3 ez2 H locs hG => ?_)
  obtain ⟨ez2, eM3⟩ := ez2
  subst ez2
  rw [eM3] at hG
  refine j_if_eq_b (tgt := 33) hx hb dX11_isRule_5 (by decide) (fun c4 => ?_) (fun c4 => ?_)
  · have h := h.1 c4
    refine lv_iconst (v := J 0) hx hb dX11_isRule_33 (by decide) ?_
    rw [hQf]
    exact j_iretn hx hb hr hlocks (nar_b (by decide)) hG ⟨(b2i_iff0 (iff_of_false (fun q8 => c4 q8.1) id)), rfl⟩ (by decide) dX11_isRule_34
  · have h := h.2 c4
    refine lv_iload_n hx hb dX11_isRule_8 rfl (lv_at hl 2 rfl) ?_
    refine lv_iconst (v := J 0) hx hb dX11_isRule_9 (by decide) ?_
    refine lv_aload_n hx hb dX11_isRule_10 rfl (lv_at hl 0 rfl) ?_
    refine j_getr hx hb hts hown hK hG (k := a0) (fun w h => List.mem_cons_of_mem _ (u_X11 w h)) (ci := 10) rfl ka0 1 (k2 := a0 + 1) (by decide) (by show a0 + (1 : Int) = a0 + 1; omega) w_fl_RX11_9 dX11_isRule_11 ?_
    refine lv_iload_n hx hb dX11_isRule_14 rfl (lv_at hl 1 rfl) ?_
    refine j_conti (va_runS (As := [.int (J a1)]) (rest := [.ref (rA o (a0 + 1)), .int (J 0), .int (J a2)]) ⟨hx, hb, hml, hown, hts⟩ (A_X11_zoneAt l) (va_cwS 1 hts (gj_S ml_RX11_123 i_X11_zoneAt n_RX11 k_X11_zoneAt) rfl rfl rfl (by decide +kernel) ⟨by exact Nat.le_of_ble_eq_true rfl, by exact Nat.le_of_ble_eq_true rfl⟩) (j_preS hK hSX hG) rfl rfl hl.1 rfl (lv_room (Nat.le_of_ble_eq_true rfl)) dX11_isRule_15 ⟨by exact Nat.le_of_ble_eq_true rfl, by exact Nat.le_of_ble_eq_true rfl⟩) hG (c2 := 0) (s2 := 0) ⟨by exact Nat.le_of_ble_eq_true rfl, by exact Nat.le_of_ble_eq_true rfl⟩ (fun z5 M6 ez5 H locs hG => ?_)
    obtain ⟨ez5, eM6⟩ := ez5
    subst ez5
    rw [eM6] at hG
    refine lv_iconst (v := J 1) hx hb dX11_isRule_18 (by decide) ?_
    refine j_iadd hx hb dX11_isRule_19 ?_
    obtain ⟨g7, h⟩ := h
    refine j_iald hx hb hK hG (n := 1294) (kf_11_1 ka0) (by decide) g7 dX11_isRule_20 ?_
    refine lv_iconst (v := J 1) hx hb dX11_isRule_21 (by decide) ?_
    refine j_isub hx hb dX11_isRule_22 ?_
    obtain ⟨g8, h⟩ := h
    refine j_conti (va_runS (As := [.int (J a2), .int (J 0), .int (J ((M (a0 + 1) ((pf_X11_zoneAt a1) + 1)) - 1))]) (rest := []) ⟨hx, hb, hml, hown, hts⟩ (A_X11_in l g8) (va_cwS 3 hts (gj_S ml_RX11_106 i_X11_in n_RX11 k_X11_in) rfl rfl rfl (by decide +kernel) ⟨by exact Nat.le_of_ble_eq_true rfl, by exact Nat.le_of_ble_eq_true rfl⟩) (j_preS hK hSX hG) rfl rfl hl.1 rfl (lv_room (Nat.le_of_ble_eq_true rfl)) dX11_isRule_23 ⟨by exact Nat.le_of_ble_eq_true rfl, by exact Nat.le_of_ble_eq_true rfl⟩) hG (c2 := 0) (s2 := 0) ⟨by exact Nat.le_of_ble_eq_true rfl, by exact Nat.le_of_ble_eq_true rfl⟩ (fun z9 M10 ez9 H locs hG => ?_)
    obtain ⟨ez9, eM10⟩ := ez9
    subst ez9
    rw [eM10] at hG
    refine j_if_eq_b (tgt := 33) hx hb dX11_isRule_26 (by decide) (fun c11 => ?_) (fun c11 => ?_)
    · have h := h.1 c11
      refine lv_iconst (v := J 0) hx hb dX11_isRule_33 (by decide) ?_
      rw [hQf]
      exact j_iretn hx hb hr hlocks (nar_b (by decide)) hG ⟨(b2i_iff0 ((and_iff_right c4).trans (iff_of_false c11 id))), rfl⟩ (by decide) dX11_isRule_34
    · have h := h.2 c11
      refine lv_iconst (v := J 1) hx hb dX11_isRule_29 (by decide) ?_
      refine lv_goto (tgt := 34) hx hb dX11_isRule_30 (by decide) ?_
      rw [hQf]
      exact j_iretn hx hb hr hlocks (nar_b (by decide)) hG ⟨(b2i_iff1 ((and_iff_right c4).trans (iff_of_true c11 trivial))), rfl⟩ (by decide) dX11_isRule_34

abbrev rm_X11_isBase : Room := { frames := 1, cells := 0, slots := 0, locals := 22 }
set_option maxRecDepth 100000 in
set_option maxHeartbeats 4000000 in
theorem A_X11_isBase (l : Launch) {D : va_G} {cy : Nat → ClassId} {o : Nat} {sK sV : Nat → Nat} {M : jT} {a0 : Int} (h : pg_X11_isBase a0) : CoI l yX11_isBase (wj yX11_isBase cX11_isBase 1 (some .boolean)) rm_X11_isBase D cy o sK sV M [.int (J a0)] (fun z M9 => z = b2i (pb_X11_isBase a0) ∧ M9 = M) := by
  refine j_ofW (cc := cX11_isBase) (maxL := 1) (ret := (some .boolean)) (by decide) rfl (Nat.le_of_ble_eq_true rfl) ?_
  intro p e s m args below meth c hx hb hr hlocks hml hown hts hK hSX H locs hG ls hl Qf hQf
  have hown : s.vm.findClass RX11 = some m.cls := hown
  have hl : lv_has ls 1 [(0, .int (J a0))] := hl
  unfold pg_X11_isBase at h
  refine lv_iload_n hx hb dX11_isBase_0 rfl (lv_at hl 0 rfl) ?_
  refine lv_sipush (v := J (-720)) hx hb dX11_isBase_1 (by decide) ?_
  refine lv_sipush (v := J 840) hx hb dX11_isBase_4 (by decide) ?_
  obtain ⟨g1, h⟩ := h
  refine j_conti (va_runS (As := [.int (J a0), .int (J ((-720))), .int (J 840)]) (rest := []) ⟨hx, hb, hml, hown, hts⟩ (A_X11_in l g1) (va_cwS 3 hts (gj_S ml_RX11_106 i_X11_in n_RX11 k_X11_in) rfl rfl rfl (by decide +kernel) ⟨by exact Nat.le_of_ble_eq_true rfl, by exact Nat.le_of_ble_eq_true rfl⟩) (j_preS hK hSX hG) rfl rfl hl.1 rfl (lv_room (Nat.le_of_ble_eq_true rfl)) dX11_isBase_7 ⟨by exact Nat.le_of_ble_eq_true rfl, by exact Nat.le_of_ble_eq_true rfl⟩) hG (c2 := 0) (s2 := 0) ⟨by exact Nat.le_of_ble_eq_true rfl, by exact Nat.le_of_ble_eq_true rfl⟩ (fun z2 M3 ez2 H locs hG => ?_)
  obtain ⟨ez2, eM3⟩ := ez2
  subst ez2
  rw [eM3] at hG
  rw [hQf]
  exact j_iretn hx hb hr hlocks (nar_b (b2i_rng _)) hG ⟨(b2i_iff Iff.rfl), rfl⟩ (by decide) dX11_isBase_10

abbrev rm_X11_zoneBy : Room := { frames := 2, cells := 0, slots := 0, locals := 42 }
set_option maxRecDepth 100000 in
set_option maxHeartbeats 4000000 in
theorem A_X11_zoneBy (l : Launch) {D : va_G} {cy : Nat → ClassId} {o : Nat} {sK sV : Nat → Nat} {M : jT} {a0 : Int} {a1 : Int} (ka0 : kd a0 = 11) {Q : Int → jT → Prop} (h : wp_X11_zoneBy M a0 a1 Q) : CoI l yX11_zoneBy (wj yX11_zoneBy cX11_zoneBy 3 (some .int)) rm_X11_zoneBy D cy o sK sV M [.ref (rA o a0), .int (J a1)] Q := by
  refine j_ofW (cc := cX11_zoneBy) (maxL := 3) (ret := (some .int)) (by decide) rfl (Nat.le_of_ble_eq_true rfl) ?_
  intro p e s m args below meth c hx hb hr hlocks hml hown hts hK hSX H locs hG ls hl Qf hQf
  have hown : s.vm.findClass RX11 = some m.cls := hown
  have hl : lv_has ls 3 [(0, .ref (rA o a0)), (1, .int (J a1))] := hl
  have w_fl_RX11_9 := hts _ (List.mem_cons_of_mem _ fl_RX11_9)
  unfold wp_X11_zoneBy at h
  refine lv_iload_n hx hb dX11_zoneBy_0 rfl (lv_at hl 1 rfl) ?_
  obtain ⟨g1, h⟩ := h
  refine j_conti (va_runS (As := [.int (J a1)]) (rest := []) ⟨hx, hb, hml, hown, hts⟩ (A_X11_isBase l g1) (va_cwS 1 hts (gj_S ml_RX11_129 i_X11_isBase n_RX11 k_X11_isBase) rfl rfl rfl (by decide +kernel) ⟨by exact Nat.le_of_ble_eq_true rfl, by exact Nat.le_of_ble_eq_true rfl⟩) (j_preS hK hSX hG) rfl rfl hl.1 rfl (lv_room (Nat.le_of_ble_eq_true rfl)) dX11_zoneBy_1 ⟨by exact Nat.le_of_ble_eq_true rfl, by exact Nat.le_of_ble_eq_true rfl⟩) hG (c2 := 0) (s2 := 0) ⟨by exact Nat.le_of_ble_eq_true rfl, by exact Nat.le_of_ble_eq_true rfl⟩ (fun z2 M3 ez2 H locs hG => ?_)
  obtain ⟨ez2, eM3⟩ := ez2
  subst ez2
  rw [eM3] at hG
  refine j_if_ne_b (tgt := 9) hx hb dX11_zoneBy_4 (by decide) (fun c4 => ?_) (fun c4 => ?_)
  · have h := h.1 c4
    refine lv_aload_n hx hb dX11_zoneBy_9 rfl (lv_at hl 0 rfl) ?_
    refine j_getr hx hb hts hown hK hG (k := a0) (fun w h => List.mem_cons_of_mem _ (u_X11 w h)) (ci := 10) rfl ka0 1 (k2 := a0 + 1) (by decide) (by show a0 + (1 : Int) = a0 + 1; omega) w_fl_RX11_9 dX11_zoneBy_10 ?_
    refine lv_iconst (v := J 0) hx hb dX11_zoneBy_13 (by decide) ?_
    refine j_iald hx hb hK hG (n := 1294) (kf_11_1 ka0) (by decide) (by decide) dX11_zoneBy_14 ?_
    refine lv_bipush (v := J 6) hx hb dX11_zoneBy_15 (by decide) ?_
    obtain ⟨g6, h⟩ := h
    refine j_icmp_ne (tgt := 23) hx hb dX11_zoneBy_17 (by decide) g6 (by decide) (fun c5 => ?_) (fun c5 => ?_)
    · have h := h.1 c5
      refine lv_iconst (v := J 0) hx hb dX11_zoneBy_23 (by decide) ?_
      refine lv_istore_n (lv' := [(2, .int (J 0)), (0, .ref (rA o a0)), (1, .int (J a1))]) hx hb dX11_zoneBy_24 rfl hl (by decide) rfl (fun ls hl => ?_)
      obtain ⟨I9, ⟨n10s, iI9⟩, qI9⟩ := h
      have lI9 : ∀ (n10 : Nat) (x7 : Int) (M8 : jT), I9 n10 x7 M8 → ∀ (H : Heap) (locs : List Loc), GM D cy o M8 s.heap H locs → ∀ ls : Array Slot, lv_has ls 3 [(0, .ref (rA o a0)), (1, .int (J a1)), (2, .int (J x7))] → W p l e rm_X11_zoneBy s m args below meth c H locs 0 0 Qf (F0 m 25 ls []) := by
        intro n10
        induction n10 using Nat.strongRecOn with
        | ind n10 rI9 =>
          intro x7 M8 iI9 H locs hG ls hl
          have h := qI9 n10 x7 M8 iI9
          refine lv_iload_n hx hb dX11_zoneBy_25 rfl (lv_at hl 2 rfl) ?_
          refine lv_bipush (v := J 67) hx hb dX11_zoneBy_26 (by decide) ?_
          obtain ⟨g12, h⟩ := h
          refine j_icmp_ge (tgt := 54) hx hb dX11_zoneBy_28 (by decide) g12 (by decide) (fun c11 => ?_) (fun c11 => ?_)
          · have h := h.1 c11
            refine lv_aload_n hx hb dX11_zoneBy_54 rfl (lv_at hl 0 rfl) ?_
            refine j_getr hx hb hts hown hK hG (k := a0) (fun w h => List.mem_cons_of_mem _ (u_X11 w h)) (ci := 10) rfl ka0 1 (k2 := a0 + 1) (by decide) (by show a0 + (1 : Int) = a0 + 1; omega) w_fl_RX11_9 dX11_zoneBy_55 ?_
            refine lv_aload_n hx hb dX11_zoneBy_58 rfl (lv_at hl 0 rfl) ?_
            refine j_getr hx hb hts hown hK hG (k := a0) (fun w h => List.mem_cons_of_mem _ (u_X11 w h)) (ci := 10) rfl ka0 1 (k2 := a0 + 1) (by decide) (by show a0 + (1 : Int) = a0 + 1; omega) w_fl_RX11_9 dX11_zoneBy_59 ?_
            refine lv_iconst (v := J 0) hx hb dX11_zoneBy_62 (by decide) ?_
            refine j_iald hx hb hK hG (n := 1294) (kf_11_1 ka0) (by decide) (by decide) dX11_zoneBy_63 ?_
            refine j_conti (va_runS (As := [.int (J (M8 (a0 + 1) 0))]) (rest := [.ref (rA o (a0 + 1))]) ⟨hx, hb, hml, hown, hts⟩ (A_X11_zoneAt l) (va_cwS 1 hts (gj_S ml_RX11_123 i_X11_zoneAt n_RX11 k_X11_zoneAt) rfl rfl rfl (by decide +kernel) ⟨by exact Nat.le_of_ble_eq_true rfl, by exact Nat.le_of_ble_eq_true rfl⟩) (j_preS hK hSX hG) rfl rfl hl.1 rfl (lv_room (Nat.le_of_ble_eq_true rfl)) dX11_zoneBy_64 ⟨by exact Nat.le_of_ble_eq_true rfl, by exact Nat.le_of_ble_eq_true rfl⟩) hG (c2 := 0) (s2 := 0) ⟨by exact Nat.le_of_ble_eq_true rfl, by exact Nat.le_of_ble_eq_true rfl⟩ (fun z13 M14 ez13 H locs hG => ?_)
            obtain ⟨ez13, eM14⟩ := ez13
            subst ez13
            rw [eM14] at hG
            refine lv_iload_n hx hb dX11_zoneBy_67 rfl (lv_at hl 1 rfl) ?_
            obtain ⟨g15, h⟩ := h
            refine j_iast hx hb hK hG (n := 1294) (kf_11_1 ka0) (by decide) g15 dX11_zoneBy_68 (fun M16 eM16 H locs hG => ?_)
            have h := h M16 eM16
            refine lv_aload_n hx hb dX11_zoneBy_69 rfl (lv_at hl 0 rfl) ?_
            refine j_getr hx hb hts hown hK hG (k := a0) (fun w h => List.mem_cons_of_mem _ (u_X11 w h)) (ci := 10) rfl ka0 1 (k2 := a0 + 1) (by decide) (by show a0 + (1 : Int) = a0 + 1; omega) w_fl_RX11_9 dX11_zoneBy_70 ?_
            refine lv_iconst (v := J 0) hx hb dX11_zoneBy_73 (by decide) ?_
            refine lv_dup2_11 hx hb dX11_zoneBy_74 rfl rfl ?_
            refine j_iald hx hb hK hG (n := 1294) (kf_11_1 ka0) (by decide) (by decide) dX11_zoneBy_75 ?_
            refine lv_dup_x2 hx hb dX11_zoneBy_76 rfl rfl rfl ?_
            refine lv_iconst (v := J 1) hx hb dX11_zoneBy_77 (by decide) ?_
            refine j_iadd hx hb dX11_zoneBy_78 ?_
            refine j_iast hx hb hK hG (n := 1294) (kf_11_1 ka0) (by decide) (by decide) dX11_zoneBy_79 (fun M17 eM17 H locs hG => ?_)
            have h := h M17 eM17
            rw [hQf]
            exact j_ireti hx hb hr hlocks hG h (by decide) dX11_zoneBy_80
          · have h := h.2 c11
            refine lv_aload_n hx hb dX11_zoneBy_31 rfl (lv_at hl 0 rfl) ?_
            refine j_getr hx hb hts hown hK hG (k := a0) (fun w h => List.mem_cons_of_mem _ (u_X11 w h)) (ci := 10) rfl ka0 1 (k2 := a0 + 1) (by decide) (by show a0 + (1 : Int) = a0 + 1; omega) w_fl_RX11_9 dX11_zoneBy_32 ?_
            refine lv_aload_n hx hb dX11_zoneBy_35 rfl (lv_at hl 0 rfl) ?_
            refine j_getr hx hb hts hown hK hG (k := a0) (fun w h => List.mem_cons_of_mem _ (u_X11 w h)) (ci := 10) rfl ka0 1 (k2 := a0 + 1) (by decide) (by show a0 + (1 : Int) = a0 + 1; omega) w_fl_RX11_9 dX11_zoneBy_36 ?_
            refine lv_iconst (v := J 0) hx hb dX11_zoneBy_39 (by decide) ?_
            refine j_iald hx hb hK hG (n := 1294) (kf_11_1 ka0) (by decide) (by decide) dX11_zoneBy_40 ?_
            refine j_conti (va_runS (As := [.int (J (M8 (a0 + 1) 0))]) (rest := [.ref (rA o (a0 + 1))]) ⟨hx, hb, hml, hown, hts⟩ (A_X11_zoneAt l) (va_cwS 1 hts (gj_S ml_RX11_123 i_X11_zoneAt n_RX11 k_X11_zoneAt) rfl rfl rfl (by decide +kernel) ⟨by exact Nat.le_of_ble_eq_true rfl, by exact Nat.le_of_ble_eq_true rfl⟩) (j_preS hK hSX hG) rfl rfl hl.1 rfl (lv_room (Nat.le_of_ble_eq_true rfl)) dX11_zoneBy_41 ⟨by exact Nat.le_of_ble_eq_true rfl, by exact Nat.le_of_ble_eq_true rfl⟩) hG (c2 := 0) (s2 := 0) ⟨by exact Nat.le_of_ble_eq_true rfl, by exact Nat.le_of_ble_eq_true rfl⟩ (fun z18 M19 ez18 H locs hG => ?_)
            obtain ⟨ez18, eM19⟩ := ez18
            subst ez18
            rw [eM19] at hG
            refine lv_iload_n hx hb dX11_zoneBy_44 rfl (lv_at hl 2 rfl) ?_
            refine j_iadd hx hb dX11_zoneBy_45 ?_
            refine lv_iconst (v := J 0) hx hb dX11_zoneBy_46 (by decide) ?_
            obtain ⟨g20, h⟩ := h
            refine j_iast hx hb hK hG (n := 1294) (kf_11_1 ka0) (by decide) g20 dX11_zoneBy_47 (fun M21 eM21 H locs hG => ?_)
            have h := h M21 eM21
            refine j_iinc hx hb dX11_zoneBy_48 hl (k := 2) rfl (by decide) (fun x22 ex22 ls hl => ?_)
            have h := h x22 ex22
            have hl : lv_has ls 3 [(2, .int (J x22)), (0, .ref (rA o a0)), (1, .int (J a1))] := hl
            refine lv_goto (tgt := 25) hx hb dX11_zoneBy_51 (by decide) ?_
            obtain ⟨n23, ln23, iI9⟩ := h
            exact rI9 n23 ln23 x22 M21 iI9 H locs hG ls (lv_sub hl [1, 2, 0] rfl)
      exact lI9 n10s 0 M iI9 H locs hG ls (lv_sub hl [1, 2, 0] rfl)
    · have h := h.2 c5
      refine lv_bipush (v := J (-2)) hx hb dX11_zoneBy_20 (by decide) ?_
      rw [hQf]
      exact j_ireti hx hb hr hlocks hG h (by decide) dX11_zoneBy_22
  · have h := h.2 c4
    refine lv_iconst (v := J (-1)) hx hb dX11_zoneBy_7 (by decide) ?_
    rw [hQf]
    exact j_ireti hx hb hr hlocks hG h (by decide) dX11_zoneBy_8

abbrev rm_X11_baseBy : Room := { frames := 2, cells := 0, slots := 0, locals := 43 }
set_option maxRecDepth 100000 in
set_option maxHeartbeats 4000000 in
theorem A_X11_baseBy (l : Launch) {D : va_G} {cy : Nat → ClassId} {o : Nat} {sK sV : Nat → Nat} {M : jT} {a0 : Int} {a1 : Int} {a2 : Int} {a3 : Int} (ka0 : kd a0 = 11) {Q : Int → jT → Prop} (h : wp_X11_baseBy M a0 a1 a2 a3 Q) : CoI l yX11_baseBy (wj yX11_baseBy cX11_baseBy 5 (some .int)) rm_X11_baseBy D cy o sK sV M [.ref (rA o a0), .int (J a1), .int (J a2), .int (J a3)] Q := by
  refine j_ofW (cc := cX11_baseBy) (maxL := 5) (ret := (some .int)) (by decide) rfl (Nat.le_of_ble_eq_true rfl) ?_
  intro p e s m args below meth c hx hb hr hlocks hml hown hts hK hSX H locs hG ls hl Qf hQf
  have hown : s.vm.findClass RX11 = some m.cls := hown
  have hl : lv_has ls 5 [(0, .ref (rA o a0)), (1, .int (J a1)), (2, .int (J a2)), (3, .int (J a3))] := hl
  have w_fl_RX11_9 := hts _ (List.mem_cons_of_mem _ fl_RX11_9)
  unfold wp_X11_baseBy at h
  refine lv_aload_n hx hb dX11_baseBy_0 rfl (lv_at hl 0 rfl) ?_
  refine lv_iload_n hx hb dX11_baseBy_1 rfl (lv_at hl 1 rfl) ?_
  obtain ⟨g1, h⟩ := h
  refine j_conti (va_runV (As := [.int (J a1)]) (rest := []) ⟨hx, hb, hml, hown, hts⟩ (A_X11_isZone l ka0 g1) (cwV 1 hts (gj_V ml_RX11_126 i_X11_isZone s_X11_isZone n_RX11 k_X11_isZone) rfl rfl rfl (by decide +kernel) ⟨by exact Nat.le_of_ble_eq_true rfl, by exact Nat.le_of_ble_eq_true rfl⟩) (j_preV hK hSX hG (ci := 10) rfl ka0 (by decide)) rfl rfl hl.1 rfl (lv_room (Nat.le_of_ble_eq_true rfl)) dX11_baseBy_2 ⟨by exact Nat.le_of_ble_eq_true rfl, by exact Nat.le_of_ble_eq_true rfl⟩) hG (c2 := 0) (s2 := 0) ⟨by exact Nat.le_of_ble_eq_true rfl, by exact Nat.le_of_ble_eq_true rfl⟩ (fun z2 M3 ez2 H locs hG => ?_)
  obtain ⟨ez2, eM3⟩ := ez2
  subst ez2
  rw [eM3] at hG
  refine j_if_ne_b (tgt := 10) hx hb dX11_baseBy_5 (by decide) (fun c4 => ?_) (fun c4 => ?_)
  · have h := h.1 c4
    refine lv_iload_n hx hb dX11_baseBy_10 rfl (lv_at hl 2 rfl) ?_
    obtain ⟨g5, h⟩ := h
    refine j_conti (va_runS (As := [.int (J a2)]) (rest := []) ⟨hx, hb, hml, hown, hts⟩ (A_X11_isDay l g5) (va_cwS 1 hts (gj_S ml_RX11_113 i_X11_isDay n_RX11 k_X11_isDay) rfl rfl rfl (by decide +kernel) ⟨by exact Nat.le_of_ble_eq_true rfl, by exact Nat.le_of_ble_eq_true rfl⟩) (j_preS hK hSX hG) rfl rfl hl.1 rfl (lv_room (Nat.le_of_ble_eq_true rfl)) dX11_baseBy_11 ⟨by exact Nat.le_of_ble_eq_true rfl, by exact Nat.le_of_ble_eq_true rfl⟩) hG (c2 := 0) (s2 := 0) ⟨by exact Nat.le_of_ble_eq_true rfl, by exact Nat.le_of_ble_eq_true rfl⟩ (fun z6 M7 ez6 H locs hG => ?_)
    obtain ⟨ez6, eM7⟩ := ez6
    subst ez6
    rw [eM7] at hG
    obtain ⟨K24, hK24, h⟩ := h
    have jK24 : K24 → ∀ (H : Heap) (locs : List Loc), GM D cy o M s.heap H locs → ∀ ls : Array Slot, lv_has ls 5 [] → W p l e rm_X11_baseBy s m args below meth c H locs 0 0 Qf (F0 m 24 ls []) := by
      intro hcK24 H locs hG ls hl
      have h := hK24 hcK24
      refine lv_bipush (v := J (-2)) hx hb dX11_baseBy_24 (by decide) ?_
      rw [hQf]
      exact j_ireti hx hb hr hlocks hG h (by decide) dX11_baseBy_26
    refine j_if_eq_b (tgt := 24) hx hb dX11_baseBy_14 (by decide) (fun c25 => ?_) (fun c25 => ?_)
    · have h := h.1 c25
      exact jK24 h H locs hG ls (lv_sub hl [] rfl)
    · have h := h.2 c25
      refine lv_iload_n hx hb dX11_baseBy_17 rfl (lv_at hl 3 rfl) ?_
      obtain ⟨g26, h⟩ := h
      refine j_conti (va_runS (As := [.int (J a3)]) (rest := []) ⟨hx, hb, hml, hown, hts⟩ (A_X11_isBase l g26) (va_cwS 1 hts (gj_S ml_RX11_129 i_X11_isBase n_RX11 k_X11_isBase) rfl rfl rfl (by decide +kernel) ⟨by exact Nat.le_of_ble_eq_true rfl, by exact Nat.le_of_ble_eq_true rfl⟩) (j_preS hK hSX hG) rfl rfl hl.1 rfl (lv_room (Nat.le_of_ble_eq_true rfl)) dX11_baseBy_18 ⟨by exact Nat.le_of_ble_eq_true rfl, by exact Nat.le_of_ble_eq_true rfl⟩) hG (c2 := 0) (s2 := 0) ⟨by exact Nat.le_of_ble_eq_true rfl, by exact Nat.le_of_ble_eq_true rfl⟩ (fun z27 M28 ez27 H locs hG => ?_)
      obtain ⟨ez27, eM28⟩ := ez27
      subst ez27
      rw [eM28] at hG
      refine j_if_ne_b (tgt := 27) hx hb dX11_baseBy_21 (by decide) (fun c29 => ?_) (fun c29 => ?_)
      · have h := h.1 c29
        refine lv_iload_n hx hb dX11_baseBy_27 rfl (lv_at hl 1 rfl) ?_
        refine j_conti (va_runS (As := [.int (J a1)]) (rest := []) ⟨hx, hb, hml, hown, hts⟩ (A_X11_zoneAt l) (va_cwS 1 hts (gj_S ml_RX11_123 i_X11_zoneAt n_RX11 k_X11_zoneAt) rfl rfl rfl (by decide +kernel) ⟨by exact Nat.le_of_ble_eq_true rfl, by exact Nat.le_of_ble_eq_true rfl⟩) (j_preS hK hSX hG) rfl rfl hl.1 rfl (lv_room (Nat.le_of_ble_eq_true rfl)) dX11_baseBy_28 ⟨by exact Nat.le_of_ble_eq_true rfl, by exact Nat.le_of_ble_eq_true rfl⟩) hG (c2 := 0) (s2 := 0) ⟨by exact Nat.le_of_ble_eq_true rfl, by exact Nat.le_of_ble_eq_true rfl⟩ (fun z30 M31 ez30 H locs hG => ?_)
        obtain ⟨ez30, eM31⟩ := ez30
        subst ez30
        rw [eM31] at hG
        refine j_topi (fun x32 ex32 => ?_)
        have h := h x32 ex32
        refine lv_istore (lv' := [(4, .int (J x32)), (0, .ref (rA o a0)), (1, .int (J a1)), (2, .int (J a2)), (3, .int (J a3))]) hx hb dX11_baseBy_31 hl (by decide) rfl (fun ls hl => ?_)
        refine lv_aload_n hx hb dX11_baseBy_33 rfl (lv_at hl 1 rfl) ?_
        refine j_getr hx hb hts hown hK hG (k := a0) (fun w h => List.mem_cons_of_mem _ (u_X11 w h)) (ci := 10) rfl ka0 1 (k2 := a0 + 1) (by decide) (by show a0 + (1 : Int) = a0 + 1; omega) w_fl_RX11_9 dX11_baseBy_34 ?_
        refine lv_iload hx hb dX11_baseBy_37 (lv_at hl 0 rfl) ?_
        refine lv_iconst (v := J 2) hx hb dX11_baseBy_39 (by decide) ?_
        refine j_iadd hx hb dX11_baseBy_40 ?_
        obtain ⟨g33, h⟩ := h
        refine j_iald hx hb hK hG (n := 1294) (kf_11_1 ka0) (by decide) g33 dX11_baseBy_41 ?_
        refine lv_iconst (v := J 4) hx hb dX11_baseBy_42 (by decide) ?_
        obtain ⟨g35, h⟩ := h
        refine j_icmp_ne (tgt := 49) hx hb dX11_baseBy_43 (by decide) g35 (by decide) (fun c34 => ?_) (fun c34 => ?_)
        · have h := h.1 c34
          refine lv_aload_n hx hb dX11_baseBy_49 rfl (lv_at hl 1 rfl) ?_
          refine j_getr hx hb hts hown hK hG (k := a0) (fun w h => List.mem_cons_of_mem _ (u_X11 w h)) (ci := 10) rfl ka0 1 (k2 := a0 + 1) (by decide) (by show a0 + (1 : Int) = a0 + 1; omega) w_fl_RX11_9 dX11_baseBy_50 ?_
          refine lv_iload hx hb dX11_baseBy_53 (lv_at hl 0 rfl) ?_
          refine lv_bipush (v := J 59) hx hb dX11_baseBy_55 (by decide) ?_
          refine j_iadd hx hb dX11_baseBy_57 ?_
          refine lv_iconst (v := J 2) hx hb dX11_baseBy_58 (by decide) ?_
          refine lv_aload_n hx hb dX11_baseBy_59 rfl (lv_at hl 1 rfl) ?_
          refine j_getr hx hb hts hown hK hG (k := a0) (fun w h => List.mem_cons_of_mem _ (u_X11 w h)) (ci := 10) rfl ka0 1 (k2 := a0 + 1) (by decide) (by show a0 + (1 : Int) = a0 + 1; omega) w_fl_RX11_9 dX11_baseBy_60 ?_
          refine lv_iload hx hb dX11_baseBy_63 (lv_at hl 0 rfl) ?_
          refine lv_iconst (v := J 2) hx hb dX11_baseBy_65 (by decide) ?_
          refine j_iadd hx hb dX11_baseBy_66 ?_
          refine j_iald hx hb hK hG (n := 1294) (kf_11_1 ka0) (by decide) g33 dX11_baseBy_67 ?_
          refine j_imul hx hb dX11_baseBy_68 ?_
          refine j_iadd hx hb dX11_baseBy_69 ?_
          refine lv_iload_n hx hb dX11_baseBy_70 rfl (lv_at hl 3 rfl) ?_
          obtain ⟨g36, h⟩ := h
          refine j_iast hx hb hK hG (n := 1294) (kf_11_1 ka0) (by decide) g36 dX11_baseBy_71 (fun M37 eM37 H locs hG => ?_)
          have h := h M37 eM37
          refine lv_aload_n hx hb dX11_baseBy_72 rfl (lv_at hl 1 rfl) ?_
          refine j_getr hx hb hts hown hK hG (k := a0) (fun w h => List.mem_cons_of_mem _ (u_X11 w h)) (ci := 10) rfl ka0 1 (k2 := a0 + 1) (by decide) (by show a0 + (1 : Int) = a0 + 1; omega) w_fl_RX11_9 dX11_baseBy_73 ?_
          refine lv_iload hx hb dX11_baseBy_76 (lv_at hl 0 rfl) ?_
          refine lv_bipush (v := J 59) hx hb dX11_baseBy_78 (by decide) ?_
          refine j_iadd hx hb dX11_baseBy_80 ?_
          refine lv_iconst (v := J 2) hx hb dX11_baseBy_81 (by decide) ?_
          refine lv_aload_n hx hb dX11_baseBy_82 rfl (lv_at hl 1 rfl) ?_
          refine j_getr hx hb hts hown hK hG (k := a0) (fun w h => List.mem_cons_of_mem _ (u_X11 w h)) (ci := 10) rfl ka0 1 (k2 := a0 + 1) (by decide) (by show a0 + (1 : Int) = a0 + 1; omega) w_fl_RX11_9 dX11_baseBy_83 ?_
          refine lv_iload hx hb dX11_baseBy_86 (lv_at hl 0 rfl) ?_
          refine lv_iconst (v := J 2) hx hb dX11_baseBy_88 (by decide) ?_
          refine j_iadd hx hb dX11_baseBy_89 ?_
          refine j_iald hx hb hK hG (n := 1294) (kf_11_1 ka0) (by decide) g33 dX11_baseBy_90 ?_
          refine j_imul hx hb dX11_baseBy_91 ?_
          refine j_iadd hx hb dX11_baseBy_92 ?_
          refine lv_iconst (v := J 1) hx hb dX11_baseBy_93 (by decide) ?_
          refine j_iadd hx hb dX11_baseBy_94 ?_
          refine lv_iload_n hx hb dX11_baseBy_95 rfl (lv_at hl 4 rfl) ?_
          obtain ⟨g38, h⟩ := h
          refine j_iast hx hb hK hG (n := 1294) (kf_11_1 ka0) (by decide) g38 dX11_baseBy_96 (fun M39 eM39 H locs hG => ?_)
          have h := h M39 eM39
          refine lv_aload_n hx hb dX11_baseBy_97 rfl (lv_at hl 1 rfl) ?_
          refine j_getr hx hb hts hown hK hG (k := a0) (fun w h => List.mem_cons_of_mem _ (u_X11 w h)) (ci := 10) rfl ka0 1 (k2 := a0 + 1) (by decide) (by show a0 + (1 : Int) = a0 + 1; omega) w_fl_RX11_9 dX11_baseBy_98 ?_
          refine lv_iload hx hb dX11_baseBy_101 (lv_at hl 0 rfl) ?_
          refine lv_iconst (v := J 2) hx hb dX11_baseBy_103 (by decide) ?_
          refine j_iadd hx hb dX11_baseBy_104 ?_
          refine lv_dup2_11 hx hb dX11_baseBy_105 rfl rfl ?_
          refine j_iald hx hb hK hG (n := 1294) (kf_11_1 ka0) (by decide) g33 dX11_baseBy_106 ?_
          refine lv_dup_x2 hx hb dX11_baseBy_107 rfl rfl rfl ?_
          refine lv_iconst (v := J 1) hx hb dX11_baseBy_108 (by decide) ?_
          refine j_iadd hx hb dX11_baseBy_109 ?_
          refine j_iast hx hb hK hG (n := 1294) (kf_11_1 ka0) (by decide) g33 dX11_baseBy_110 (fun M40 eM40 H locs hG => ?_)
          have h := h M40 eM40
          rw [hQf]
          exact j_ireti hx hb hr hlocks hG h (by decide) dX11_baseBy_111
        · have h := h.2 c34
          refine lv_bipush (v := J (-3)) hx hb dX11_baseBy_46 (by decide) ?_
          rw [hQf]
          exact j_ireti hx hb hr hlocks hG h (by decide) dX11_baseBy_48
      · have h := h.2 c29
        exact jK24 h H locs hG ls (lv_sub hl [] rfl)
  · have h := h.2 c4
    refine lv_iconst (v := J (-1)) hx hb dX11_baseBy_8 (by decide) ?_
    rw [hQf]
    exact j_ireti hx hb hr hlocks hG h (by decide) dX11_baseBy_9
