abbrev rm_X11_ruleBy : Room := { frames := 2, cells := 0, slots := 0, locals := 43 }
set_option maxRecDepth 100000 in
set_option maxHeartbeats 4000000 in
theorem A_X11_ruleBy (l : Launch) {D : va_G} {cy : Nat → ClassId} {o : Nat} {sK sV : Nat → Nat} {M : jT} {a0 : Int} {a1 : Int} {a2 : Int} {a3 : Int} {a4 : Int} {a5 : Int} {a6 : Int} (ka0 : kd a0 = 11) {Q : Int → jT → Prop} (h : wp_X11_ruleBy M a0 a1 a2 a3 a4 a5 a6 Q) : CoI l yX11_ruleBy (wj yX11_ruleBy cX11_ruleBy 11 (some .int)) rm_X11_ruleBy D cy o sK sV M [.ref (rA o a0), .int (J a1), .int (J a2), .int (J a3), .int (J a4), .int (J a5), .int (J a6)] Q := by
  refine j_ofW (cc := cX11_ruleBy) (maxL := 11) (ret := (some .int)) (by decide) rfl (Nat.le_of_ble_eq_true rfl) ?_
  intro p e s m args below meth c hx hb hr hlocks hml hown hts hK hSX H locs hG ls hl Qf hQf
  have hown : s.vm.findClass RX11 = some m.cls := hown
  have hl : lv_has ls 11 [(0, .ref (rA o a0)), (1, .int (J a1)), (2, .int (J a2)), (3, .int (J a3)), (4, .int (J a4)), (5, .int (J a5)), (6, .int (J a6))] := hl
  have w_fl_RX11_9 := hts _ (List.mem_cons_of_mem _ fl_RX11_9)
  unfold wp_X11_ruleBy at h
  refine lv_aload_n hx hb dX11_ruleBy_0 rfl (lv_at hl 0 rfl) ?_
  refine lv_iload_n hx hb dX11_ruleBy_1 rfl (lv_at hl 1 rfl) ?_
  obtain ⟨g1, h⟩ := h
  refine j_conti (va_runV (As := [.int (J a1)]) (rest := []) ⟨hx, hb, hml, hown, hts⟩ (A_X11_isZone l ka0 g1) (cwV 1 hts (gj_V ml_RX11_126 i_X11_isZone s_X11_isZone n_RX11 k_X11_isZone) rfl rfl rfl (by decide +kernel) ⟨by exact Nat.le_of_ble_eq_true rfl, by exact Nat.le_of_ble_eq_true rfl⟩) (j_preV hK hSX hG (ci := 10) rfl ka0 (by decide)) rfl rfl hl.1 rfl (lv_room (Nat.le_of_ble_eq_true rfl)) dX11_ruleBy_2 ⟨by exact Nat.le_of_ble_eq_true rfl, by exact Nat.le_of_ble_eq_true rfl⟩) hG (c2 := 0) (s2 := 0) ⟨by exact Nat.le_of_ble_eq_true rfl, by exact Nat.le_of_ble_eq_true rfl⟩ (fun z2 M3 ez2 H locs hG => ?_)
  obtain ⟨ez2, eM3⟩ := ez2
  subst ez2
  rw [eM3] at hG
  refine j_if_ne_b (tgt := 10) hx hb dX11_ruleBy_5 (by decide) (fun c4 => ?_) (fun c4 => ?_)
  · have h := h.1 c4
    refine lv_iload_n hx hb dX11_ruleBy_10 rfl (lv_at hl 2 rfl) ?_
    obtain ⟨K103, hK103, h⟩ := h
    have jK103 : K103 → ∀ (H : Heap) (locs : List Loc), GM D cy o M s.heap H locs → ∀ ls : Array Slot, lv_has ls 11 [] → W p l e rm_X11_ruleBy s m args below meth c H locs 0 0 Qf (F0 m 19 ls []) := by
      intro hcK103 H locs hG ls hl
      have h := hK103 hcK103
      refine lv_bipush (v := J (-2)) hx hb dX11_ruleBy_19 (by decide) ?_
      rw [hQf]
      exact j_ireti hx hb hr hlocks hG h (by decide) dX11_ruleBy_21
    obtain ⟨g105, h⟩ := h
    refine j_if_lt (tgt := 19) hx hb dX11_ruleBy_11 (by decide) g105 (fun c104 => ?_) (fun c104 => ?_)
    · have h := h.1 c104
      exact jK103 h H locs hG ls (lv_sub hl [] rfl)
    · have h := h.2 c104
      refine lv_iload hx hb dX11_ruleBy_14 (lv_at hl 5 rfl) ?_
      obtain ⟨g107, h⟩ := h
      refine j_if_ge (tgt := 22) hx hb dX11_ruleBy_16 (by decide) g107 (fun c106 => ?_) (fun c106 => ?_)
      · have h := h.1 c106
        refine lv_iload_n hx hb dX11_ruleBy_22 rfl (lv_at hl 2 rfl) ?_
        refine lv_bipush (v := J 100) hx hb dX11_ruleBy_23 (by decide) ?_
        obtain ⟨g108, h⟩ := h
        refine j_idiv hx hb dX11_ruleBy_25 g108 (by decide) ?_
        refine j_topi (fun x109 ex109 => ?_)
        have h := h x109 ex109
        refine lv_istore (lv' := [(7, .int (J x109)), (0, .ref (rA o a0)), (1, .int (J a1)), (2, .int (J a2)), (3, .int (J a3)), (4, .int (J a4)), (5, .int (J a5)), (6, .int (J a6))]) hx hb dX11_ruleBy_26 hl (by decide) rfl (fun ls hl => ?_)
        refine lv_iload_n hx hb dX11_ruleBy_28 rfl (lv_at hl 3 rfl) ?_
        refine lv_bipush (v := J 100) hx hb dX11_ruleBy_29 (by decide) ?_
        refine j_irem hx hb dX11_ruleBy_31 g108 (by decide) ?_
        refine j_topi (fun x110 ex110 => ?_)
        have h := h x110 ex110
        refine lv_istore (lv' := [(8, .int (J x110)), (7, .int (J x109)), (0, .ref (rA o a0)), (1, .int (J a1)), (2, .int (J a2)), (3, .int (J a3)), (4, .int (J a4)), (5, .int (J a5)), (6, .int (J a6))]) hx hb dX11_ruleBy_32 hl (by decide) rfl (fun ls hl => ?_)
        refine lv_iload hx hb dX11_ruleBy_34 (lv_at hl 1 rfl) ?_
        refine lv_iload hx hb dX11_ruleBy_36 (lv_at hl 0 rfl) ?_
        obtain ⟨K156, hK156, h⟩ := h
        have jK156 : K156 → ∀ (H : Heap) (locs : List Loc), GM D cy o M s.heap H locs → ∀ ls : Array Slot, lv_has ls 11 [] → W p l e rm_X11_ruleBy s m args below meth c H locs 0 0 Qf (F0 m 97 ls []) := by
          intro hcK156 H locs hG ls hl
          have h := hK156 hcK156
          refine lv_bipush (v := J (-2)) hx hb dX11_ruleBy_97 (by decide) ?_
          rw [hQf]
          exact j_ireti hx hb hr hlocks hG h (by decide) dX11_ruleBy_99
        obtain ⟨g158, h⟩ := h
        obtain ⟨g159, h⟩ := h
        refine j_icmp_gt (tgt := 97) hx hb dX11_ruleBy_38 (by decide) g158 g159 (fun c157 => ?_) (fun c157 => ?_)
        · have h := h.1 c157
          exact jK156 h H locs hG ls (lv_sub hl [] rfl)
        · have h := h.2 c157
          refine lv_iload hx hb dX11_ruleBy_41 (lv_at hl 0 rfl) ?_
          refine lv_bipush (v := J 31) hx hb dX11_ruleBy_43 (by decide) ?_
          refine j_icmp_gt (tgt := 97) hx hb dX11_ruleBy_45 (by decide) g159 (by decide) (fun c160 => ?_) (fun c160 => ?_)
          · have h := h.1 c160
            exact jK156 h H locs hG ls (lv_sub hl [] rfl)
          · have h := h.2 c160
            refine lv_iload_n hx hb dX11_ruleBy_48 rfl (lv_at hl 5 rfl) ?_
            refine lv_iconst (v := J 1) hx hb dX11_ruleBy_49 (by decide) ?_
            refine lv_bipush (v := J 12) hx hb dX11_ruleBy_50 (by decide) ?_
            obtain ⟨g161, h⟩ := h
            refine j_conti (va_runS (As := [.int (J a3), .int (J 1), .int (J 12)]) (rest := []) ⟨hx, hb, hml, hown, hts⟩ (A_X11_in l g161) (va_cwS 3 hts (gj_S ml_RX11_106 i_X11_in n_RX11 k_X11_in) rfl rfl rfl (by decide +kernel) ⟨by exact Nat.le_of_ble_eq_true rfl, by exact Nat.le_of_ble_eq_true rfl⟩) (j_preS hK hSX hG) rfl rfl hl.1 rfl (lv_room (Nat.le_of_ble_eq_true rfl)) dX11_ruleBy_52 ⟨by exact Nat.le_of_ble_eq_true rfl, by exact Nat.le_of_ble_eq_true rfl⟩) hG (c2 := 0) (s2 := 0) ⟨by exact Nat.le_of_ble_eq_true rfl, by exact Nat.le_of_ble_eq_true rfl⟩ (fun z162 M163 ez162 H locs hG => ?_)
            obtain ⟨ez162, eM163⟩ := ez162
            subst ez162
            rw [eM163] at hG
            refine j_if_eq_b (tgt := 97) hx hb dX11_ruleBy_55 (by decide) (fun c164 => ?_) (fun c164 => ?_)
            · have h := h.1 c164
              exact jK156 h H locs hG ls (lv_sub hl [] rfl)
            · have h := h.2 c164
              refine lv_iload hx hb dX11_ruleBy_58 (lv_at hl 6 rfl) ?_
              obtain ⟨g165, h⟩ := h
              refine j_conti (va_runS (As := [.int (J a4)]) (rest := []) ⟨hx, hb, hml, hown, hts⟩ (A_X11_isDate l g165) (va_cwS 1 hts (gj_S ml_RX11_132 i_X11_isDate n_RX11 k_X11_isDate) rfl rfl rfl (by decide +kernel) ⟨by exact Nat.le_of_ble_eq_true rfl, by exact Nat.le_of_ble_eq_true rfl⟩) (j_preS hK hSX hG) rfl rfl hl.1 rfl (lv_room (Nat.le_of_ble_eq_true rfl)) dX11_ruleBy_60 ⟨by exact Nat.le_of_ble_eq_true rfl, by exact Nat.le_of_ble_eq_true rfl⟩) hG (c2 := 0) (s2 := 0) ⟨by exact Nat.le_of_ble_eq_true rfl, by exact Nat.le_of_ble_eq_true rfl⟩ (fun z166 M167 ez166 H locs hG => ?_)
              obtain ⟨ez166, eM167⟩ := ez166
              subst ez166
              rw [eM167] at hG
              refine j_if_eq_b (tgt := 97) hx hb dX11_ruleBy_63 (by decide) (fun c168 => ?_) (fun c168 => ?_)
              · have h := h.1 c168
                exact jK156 h H locs hG ls (lv_sub hl [] rfl)
              · have h := h.2 c168
                refine lv_iload hx hb dX11_ruleBy_66 (lv_at hl 7 rfl) ?_
                refine lv_bipush (v := J 10) hx hb dX11_ruleBy_68 (by decide) ?_
                obtain ⟨g169, h⟩ := h
                refine j_idiv hx hb dX11_ruleBy_70 g169 (by decide) ?_
                refine lv_sipush (v := J 1439) hx hb dX11_ruleBy_71 (by decide) ?_
                obtain ⟨g171, h⟩ := h
                refine j_icmp_gt (tgt := 97) hx hb dX11_ruleBy_74 (by decide) g171 (by decide) (fun c170 => ?_) (fun c170 => ?_)
                · have h := h.1 c170
                  exact jK156 h H locs hG ls (lv_sub hl [] rfl)
                · have h := h.2 c170
                  refine lv_iload hx hb dX11_ruleBy_77 (lv_at hl 7 rfl) ?_
                  refine lv_bipush (v := J 10) hx hb dX11_ruleBy_79 (by decide) ?_
                  refine j_irem hx hb dX11_ruleBy_81 g169 (by decide) ?_
                  refine lv_iconst (v := J 2) hx hb dX11_ruleBy_82 (by decide) ?_
                  obtain ⟨g173, h⟩ := h
                  refine j_icmp_gt (tgt := 97) hx hb dX11_ruleBy_83 (by decide) g173 (by decide) (fun c172 => ?_) (fun c172 => ?_)
                  · have h := h.1 c172
                    exact jK156 h H locs hG ls (lv_sub hl [] rfl)
                  · have h := h.2 c172
                    refine lv_iload hx hb dX11_ruleBy_86 (lv_at hl 8 rfl) ?_
                    refine lv_iconst (v := J 0) hx hb dX11_ruleBy_88 (by decide) ?_
                    refine lv_bipush (v := J 120) hx hb dX11_ruleBy_89 (by decide) ?_
                    obtain ⟨g174, h⟩ := h
                    refine j_conti (va_runS (As := [.int (J a6), .int (J 0), .int (J 120)]) (rest := []) ⟨hx, hb, hml, hown, hts⟩ (A_X11_in l g174) (va_cwS 3 hts (gj_S ml_RX11_106 i_X11_in n_RX11 k_X11_in) rfl rfl rfl (by decide +kernel) ⟨by exact Nat.le_of_ble_eq_true rfl, by exact Nat.le_of_ble_eq_true rfl⟩) (j_preS hK hSX hG) rfl rfl hl.1 rfl (lv_room (Nat.le_of_ble_eq_true rfl)) dX11_ruleBy_91 ⟨by exact Nat.le_of_ble_eq_true rfl, by exact Nat.le_of_ble_eq_true rfl⟩) hG (c2 := 0) (s2 := 0) ⟨by exact Nat.le_of_ble_eq_true rfl, by exact Nat.le_of_ble_eq_true rfl⟩ (fun z175 M176 ez175 H locs hG => ?_)
                    obtain ⟨ez175, eM176⟩ := ez175
                    subst ez175
                    rw [eM176] at hG
                    refine j_if_ne_b (tgt := 100) hx hb dX11_ruleBy_94 (by decide) (fun c177 => ?_) (fun c177 => ?_)
                    · have h := h.1 c177
                      refine lv_iload_n hx hb dX11_ruleBy_100 rfl (lv_at hl 3 rfl) ?_
                      refine j_conti (va_runS (As := [.int (J a1)]) (rest := []) ⟨hx, hb, hml, hown, hts⟩ (A_X11_zoneAt l) (va_cwS 1 hts (gj_S ml_RX11_123 i_X11_zoneAt n_RX11 k_X11_zoneAt) rfl rfl rfl (by decide +kernel) ⟨by exact Nat.le_of_ble_eq_true rfl, by exact Nat.le_of_ble_eq_true rfl⟩) (j_preS hK hSX hG) rfl rfl hl.1 rfl (lv_room (Nat.le_of_ble_eq_true rfl)) dX11_ruleBy_101 ⟨by exact Nat.le_of_ble_eq_true rfl, by exact Nat.le_of_ble_eq_true rfl⟩) hG (c2 := 0) (s2 := 0) ⟨by exact Nat.le_of_ble_eq_true rfl, by exact Nat.le_of_ble_eq_true rfl⟩ (fun z178 M179 ez178 H locs hG => ?_)
                      obtain ⟨ez178, eM179⟩ := ez178
                      subst ez178
                      rw [eM179] at hG
                      refine j_topi (fun x180 ex180 => ?_)
                      have h := h x180 ex180
                      refine lv_istore (lv' := [(9, .int (J x180)), (8, .int (J x110)), (7, .int (J x109)), (0, .ref (rA o a0)), (1, .int (J a1)), (2, .int (J a2)), (3, .int (J a3)), (4, .int (J a4)), (5, .int (J a5)), (6, .int (J a6))]) hx hb dX11_ruleBy_104 hl (by decide) rfl (fun ls hl => ?_)
                      refine lv_aload_n hx hb dX11_ruleBy_106 rfl (lv_at hl 3 rfl) ?_
                      refine j_getr hx hb hts hown hK hG (k := a0) (fun w h => List.mem_cons_of_mem _ (u_X11 w h)) (ci := 10) rfl ka0 1 (k2 := a0 + 1) (by decide) (by show a0 + (1 : Int) = a0 + 1; omega) w_fl_RX11_9 dX11_ruleBy_107 ?_
                      refine lv_iload hx hb dX11_ruleBy_110 (lv_at hl 0 rfl) ?_
                      refine lv_iconst (v := J 1) hx hb dX11_ruleBy_112 (by decide) ?_
                      refine j_iadd hx hb dX11_ruleBy_113 ?_
                      obtain ⟨g181, h⟩ := h
                      refine j_iald hx hb hK hG (n := 1294) (kf_11_1 ka0) (by decide) g181 dX11_ruleBy_114 ?_
                      refine lv_bipush (v := J 8) hx hb dX11_ruleBy_115 (by decide) ?_
                      obtain ⟨g183, h⟩ := h
                      refine j_icmp_ne (tgt := 123) hx hb dX11_ruleBy_117 (by decide) g183 (by decide) (fun c182 => ?_) (fun c182 => ?_)
                      · have h := h.1 c182
                        refine lv_iload_n hx hb dX11_ruleBy_123 rfl (lv_at hl 4 rfl) ?_
                        refine lv_aload_n hx hb dX11_ruleBy_124 rfl (lv_at hl 3 rfl) ?_
                        refine j_getr hx hb hts hown hK hG (k := a0) (fun w h => List.mem_cons_of_mem _ (u_X11 w h)) (ci := 10) rfl ka0 1 (k2 := a0 + 1) (by decide) (by show a0 + (1 : Int) = a0 + 1; omega) w_fl_RX11_9 dX11_ruleBy_125 ?_
                        refine lv_iload hx hb dX11_ruleBy_128 (lv_at hl 0 rfl) ?_
                        refine lv_iconst (v := J 1) hx hb dX11_ruleBy_130 (by decide) ?_
                        refine j_iadd hx hb dX11_ruleBy_131 ?_
                        refine j_iald hx hb hK hG (n := 1294) (kf_11_1 ka0) (by decide) g181 dX11_ruleBy_132 ?_
                        refine j_conti (va_runS (As := [.int (J a1), .int (J (M (a0 + 1) (x180 + 1)))]) (rest := []) ⟨hx, hb, hml, hown, hts⟩ (A_X11_ruleAt l) (va_cwS 2 hts (gj_S ml_RX11_135 i_X11_ruleAt n_RX11 k_X11_ruleAt) rfl rfl rfl (by decide +kernel) ⟨by exact Nat.le_of_ble_eq_true rfl, by exact Nat.le_of_ble_eq_true rfl⟩) (j_preS hK hSX hG) rfl rfl hl.1 rfl (lv_room (Nat.le_of_ble_eq_true rfl)) dX11_ruleBy_133 ⟨by exact Nat.le_of_ble_eq_true rfl, by exact Nat.le_of_ble_eq_true rfl⟩) hG (c2 := 0) (s2 := 0) ⟨by exact Nat.le_of_ble_eq_true rfl, by exact Nat.le_of_ble_eq_true rfl⟩ (fun z184 M185 ez184 H locs hG => ?_)
                        obtain ⟨ez184, eM185⟩ := ez184
                        subst ez184
                        rw [eM185] at hG
                        refine j_topi (fun x186 ex186 => ?_)
                        have h := h x186 ex186
                        refine lv_istore (lv' := [(10, .int (J x186)), (9, .int (J x180)), (8, .int (J x110)), (7, .int (J x109)), (0, .ref (rA o a0)), (1, .int (J a1)), (2, .int (J a2)), (3, .int (J a3)), (4, .int (J a4)), (5, .int (J a5)), (6, .int (J a6))]) hx hb dX11_ruleBy_136 hl (by decide) rfl (fun ls hl => ?_)
                        refine lv_aload_n hx hb dX11_ruleBy_138 rfl (lv_at hl 4 rfl) ?_
                        refine j_getr hx hb hts hown hK hG (k := a0) (fun w h => List.mem_cons_of_mem _ (u_X11 w h)) (ci := 10) rfl ka0 1 (k2 := a0 + 1) (by decide) (by show a0 + (1 : Int) = a0 + 1; omega) w_fl_RX11_9 dX11_ruleBy_139 ?_
                        refine lv_iload hx hb dX11_ruleBy_142 (lv_at hl 0 rfl) ?_
                        refine lv_iload hx hb dX11_ruleBy_144 (lv_at hl 3 rfl) ?_
                        obtain ⟨g187, h⟩ := h
                        refine j_iast hx hb hK hG (n := 1294) (kf_11_1 ka0) (by decide) g187 dX11_ruleBy_146 (fun M188 eM188 H locs hG => ?_)
                        have h := h M188 eM188
                        refine lv_aload_n hx hb dX11_ruleBy_147 rfl (lv_at hl 4 rfl) ?_
                        refine j_getr hx hb hts hown hK hG (k := a0) (fun w h => List.mem_cons_of_mem _ (u_X11 w h)) (ci := 10) rfl ka0 1 (k2 := a0 + 1) (by decide) (by show a0 + (1 : Int) = a0 + 1; omega) w_fl_RX11_9 dX11_ruleBy_148 ?_
                        refine lv_iload hx hb dX11_ruleBy_151 (lv_at hl 0 rfl) ?_
                        refine lv_iconst (v := J 1) hx hb dX11_ruleBy_153 (by decide) ?_
                        refine j_iadd hx hb dX11_ruleBy_154 ?_
                        refine lv_iload hx hb dX11_ruleBy_155 (lv_at hl 2 rfl) ?_
                        obtain ⟨g189, h⟩ := h
                        refine j_iast hx hb hK hG (n := 1294) (kf_11_1 ka0) (by decide) g189 dX11_ruleBy_157 (fun M190 eM190 H locs hG => ?_)
                        have h := h M190 eM190
                        refine lv_aload_n hx hb dX11_ruleBy_158 rfl (lv_at hl 4 rfl) ?_
                        refine j_getr hx hb hts hown hK hG (k := a0) (fun w h => List.mem_cons_of_mem _ (u_X11 w h)) (ci := 10) rfl ka0 1 (k2 := a0 + 1) (by decide) (by show a0 + (1 : Int) = a0 + 1; omega) w_fl_RX11_9 dX11_ruleBy_159 ?_
                        refine lv_iload hx hb dX11_ruleBy_162 (lv_at hl 0 rfl) ?_
                        refine lv_iconst (v := J 2) hx hb dX11_ruleBy_164 (by decide) ?_
                        refine j_iadd hx hb dX11_ruleBy_165 ?_
                        refine lv_iload_n hx hb dX11_ruleBy_166 rfl (lv_at hl 7 rfl) ?_
                        obtain ⟨g191, h⟩ := h
                        refine j_iast hx hb hK hG (n := 1294) (kf_11_1 ka0) (by decide) g191 dX11_ruleBy_167 (fun M192 eM192 H locs hG => ?_)
                        have h := h M192 eM192
                        refine lv_aload_n hx hb dX11_ruleBy_168 rfl (lv_at hl 4 rfl) ?_
                        refine j_getr hx hb hts hown hK hG (k := a0) (fun w h => List.mem_cons_of_mem _ (u_X11 w h)) (ci := 10) rfl ka0 1 (k2 := a0 + 1) (by decide) (by show a0 + (1 : Int) = a0 + 1; omega) w_fl_RX11_9 dX11_ruleBy_169 ?_
                        refine lv_iload hx hb dX11_ruleBy_172 (lv_at hl 0 rfl) ?_
                        refine lv_iconst (v := J 3) hx hb dX11_ruleBy_174 (by decide) ?_
                        refine j_iadd hx hb dX11_ruleBy_175 ?_
                        refine lv_iload hx hb dX11_ruleBy_176 (lv_at hl 8 rfl) ?_
                        obtain ⟨g193, h⟩ := h
                        refine j_iast hx hb hK hG (n := 1294) (kf_11_1 ka0) (by decide) g193 dX11_ruleBy_178 (fun M194 eM194 H locs hG => ?_)
                        have h := h M194 eM194
                        refine lv_aload_n hx hb dX11_ruleBy_179 rfl (lv_at hl 4 rfl) ?_
                        refine j_getr hx hb hts hown hK hG (k := a0) (fun w h => List.mem_cons_of_mem _ (u_X11 w h)) (ci := 10) rfl ka0 1 (k2 := a0 + 1) (by decide) (by show a0 + (1 : Int) = a0 + 1; omega) w_fl_RX11_9 dX11_ruleBy_180 ?_
                        refine lv_iload hx hb dX11_ruleBy_183 (lv_at hl 0 rfl) ?_
                        refine lv_iconst (v := J 4) hx hb dX11_ruleBy_185 (by decide) ?_
                        refine j_iadd hx hb dX11_ruleBy_186 ?_
                        refine lv_iload hx hb dX11_ruleBy_187 (lv_at hl 9 rfl) ?_
                        refine lv_bipush (v := J 10) hx hb dX11_ruleBy_189 (by decide) ?_
                        refine j_idiv hx hb dX11_ruleBy_191 g169 (by decide) ?_
                        obtain ⟨g195, h⟩ := h
                        refine j_iast hx hb hK hG (n := 1294) (kf_11_1 ka0) (by decide) g195 dX11_ruleBy_192 (fun M196 eM196 H locs hG => ?_)
                        have h := h M196 eM196
                        refine lv_aload_n hx hb dX11_ruleBy_193 rfl (lv_at hl 4 rfl) ?_
                        refine j_getr hx hb hts hown hK hG (k := a0) (fun w h => List.mem_cons_of_mem _ (u_X11 w h)) (ci := 10) rfl ka0 1 (k2 := a0 + 1) (by decide) (by show a0 + (1 : Int) = a0 + 1; omega) w_fl_RX11_9 dX11_ruleBy_194 ?_
                        refine lv_iload hx hb dX11_ruleBy_197 (lv_at hl 0 rfl) ?_
                        refine lv_iconst (v := J 5) hx hb dX11_ruleBy_199 (by decide) ?_
                        refine j_iadd hx hb dX11_ruleBy_200 ?_
                        refine lv_iload hx hb dX11_ruleBy_201 (lv_at hl 9 rfl) ?_
                        refine lv_bipush (v := J 10) hx hb dX11_ruleBy_203 (by decide) ?_
                        refine j_irem hx hb dX11_ruleBy_205 g169 (by decide) ?_
                        obtain ⟨g197, h⟩ := h
                        refine j_iast hx hb hK hG (n := 1294) (kf_11_1 ka0) (by decide) g197 dX11_ruleBy_206 (fun M198 eM198 H locs hG => ?_)
                        have h := h M198 eM198
                        refine lv_aload_n hx hb dX11_ruleBy_207 rfl (lv_at hl 4 rfl) ?_
                        refine j_getr hx hb hts hown hK hG (k := a0) (fun w h => List.mem_cons_of_mem _ (u_X11 w h)) (ci := 10) rfl ka0 1 (k2 := a0 + 1) (by decide) (by show a0 + (1 : Int) = a0 + 1; omega) w_fl_RX11_9 dX11_ruleBy_208 ?_
                        refine lv_iload hx hb dX11_ruleBy_211 (lv_at hl 0 rfl) ?_
                        refine lv_bipush (v := J 6) hx hb dX11_ruleBy_213 (by decide) ?_
                        refine j_iadd hx hb dX11_ruleBy_215 ?_
                        refine lv_iload hx hb dX11_ruleBy_216 (lv_at hl 10 rfl) ?_
                        obtain ⟨g199, h⟩ := h
                        refine j_iast hx hb hK hG (n := 1294) (kf_11_1 ka0) (by decide) g199 dX11_ruleBy_218 (fun M200 eM200 H locs hG => ?_)
                        have h := h M200 eM200
                        refine lv_aload_n hx hb dX11_ruleBy_219 rfl (lv_at hl 4 rfl) ?_
                        refine j_getr hx hb hts hown hK hG (k := a0) (fun w h => List.mem_cons_of_mem _ (u_X11 w h)) (ci := 10) rfl ka0 1 (k2 := a0 + 1) (by decide) (by show a0 + (1 : Int) = a0 + 1; omega) w_fl_RX11_9 dX11_ruleBy_220 ?_
                        refine lv_iload hx hb dX11_ruleBy_223 (lv_at hl 1 rfl) ?_
                        refine lv_iconst (v := J 1) hx hb dX11_ruleBy_225 (by decide) ?_
                        refine j_iadd hx hb dX11_ruleBy_226 ?_
                        refine lv_dup2_11 hx hb dX11_ruleBy_227 rfl rfl ?_
                        refine j_iald hx hb hK hG (n := 1294) (kf_11_1 ka0) (by decide) g181 dX11_ruleBy_228 ?_
                        refine lv_dup_x2 hx hb dX11_ruleBy_229 rfl rfl rfl ?_
                        refine lv_iconst (v := J 1) hx hb dX11_ruleBy_230 (by decide) ?_
                        refine j_iadd hx hb dX11_ruleBy_231 ?_
                        refine j_iast hx hb hK hG (n := 1294) (kf_11_1 ka0) (by decide) g181 dX11_ruleBy_232 (fun M201 eM201 H locs hG => ?_)
                        have h := h M201 eM201
                        rw [hQf]
                        exact j_ireti hx hb hr hlocks hG h (by decide) dX11_ruleBy_233
                      · have h := h.2 c182
                        refine lv_bipush (v := J (-3)) hx hb dX11_ruleBy_120 (by decide) ?_
                        rw [hQf]
                        exact j_ireti hx hb hr hlocks hG h (by decide) dX11_ruleBy_122
                    · have h := h.2 c177
                      exact jK156 h H locs hG ls (lv_sub hl [] rfl)
      · have h := h.2 c106
        exact jK103 h H locs hG ls (lv_sub hl [] rfl)
  · have h := h.2 c4
    refine lv_iconst (v := J (-1)) hx hb dX11_ruleBy_8 (by decide) ?_
    rw [hQf]
    exact j_ireti hx hb hr hlocks hG h (by decide) dX11_ruleBy_9

abbrev rm_X11_dropBy : Room := { frames := 3, cells := 0, slots := 0, locals := 65 }
set_option maxRecDepth 100000 in
set_option maxHeartbeats 4000000 in
theorem A_X11_dropBy (l : Launch) {D : va_G} {cy : Nat → ClassId} {o : Nat} {sK sV : Nat → Nat} {M : jT} {a0 : Int} {a1 : Int} {a2 : Int} (ka0 : kd a0 = 11) {Q : Int → jT → Prop} (h : wp_X11_dropBy M a0 a1 a2 Q) : CoI l yX11_dropBy (wj yX11_dropBy cX11_dropBy 5 (some .int)) rm_X11_dropBy D cy o sK sV M [.ref (rA o a0), .int (J a1), .int (J a2)] Q := by
  refine j_ofW (cc := cX11_dropBy) (maxL := 5) (ret := (some .int)) (by decide) rfl (Nat.le_of_ble_eq_true rfl) ?_
  intro p e s m args below meth c hx hb hr hlocks hml hown hts hK hSX H locs hG ls hl Qf hQf
  have hown : s.vm.findClass RX11 = some m.cls := hown
  have hl : lv_has ls 5 [(0, .ref (rA o a0)), (1, .int (J a1)), (2, .int (J a2))] := hl
  have w_fl_RX11_9 := hts _ (List.mem_cons_of_mem _ fl_RX11_9)
  unfold wp_X11_dropBy at h
  refine lv_aload_n hx hb dX11_dropBy_0 rfl (lv_at hl 0 rfl) ?_
  refine lv_iload_n hx hb dX11_dropBy_1 rfl (lv_at hl 1 rfl) ?_
  refine lv_iload_n hx hb dX11_dropBy_2 rfl (lv_at hl 2 rfl) ?_
  obtain ⟨g1, h⟩ := h
  refine j_conti (va_runV (As := [.int (J a1), .int (J a2)]) (rest := []) ⟨hx, hb, hml, hown, hts⟩ (A_X11_isRule l ka0 g1) (cwV 2 hts (gj_V ml_RX11_138 i_X11_isRule s_X11_isRule n_RX11 k_X11_isRule) rfl rfl rfl (by decide +kernel) ⟨by exact Nat.le_of_ble_eq_true rfl, by exact Nat.le_of_ble_eq_true rfl⟩) (j_preV hK hSX hG (ci := 10) rfl ka0 (by decide)) rfl rfl hl.1 rfl (lv_room (Nat.le_of_ble_eq_true rfl)) dX11_dropBy_3 ⟨by exact Nat.le_of_ble_eq_true rfl, by exact Nat.le_of_ble_eq_true rfl⟩) hG (c2 := 0) (s2 := 0) ⟨by exact Nat.le_of_ble_eq_true rfl, by exact Nat.le_of_ble_eq_true rfl⟩ (fun z2 M3 ez2 H locs hG => ?_)
  obtain ⟨ez2, eM3⟩ := ez2
  subst ez2
  rw [eM3] at hG
  refine j_if_ne_b (tgt := 11) hx hb dX11_dropBy_6 (by decide) (fun c4 => ?_) (fun c4 => ?_)
  · have h := h.1 c4
    refine lv_iload_n hx hb dX11_dropBy_11 rfl (lv_at hl 1 rfl) ?_
    refine j_conti (va_runS (As := [.int (J a1)]) (rest := []) ⟨hx, hb, hml, hown, hts⟩ (A_X11_zoneAt l) (va_cwS 1 hts (gj_S ml_RX11_123 i_X11_zoneAt n_RX11 k_X11_zoneAt) rfl rfl rfl (by decide +kernel) ⟨by exact Nat.le_of_ble_eq_true rfl, by exact Nat.le_of_ble_eq_true rfl⟩) (j_preS hK hSX hG) rfl rfl hl.1 rfl (lv_room (Nat.le_of_ble_eq_true rfl)) dX11_dropBy_12 ⟨by exact Nat.le_of_ble_eq_true rfl, by exact Nat.le_of_ble_eq_true rfl⟩) hG (c2 := 0) (s2 := 0) ⟨by exact Nat.le_of_ble_eq_true rfl, by exact Nat.le_of_ble_eq_true rfl⟩ (fun z5 M6 ez5 H locs hG => ?_)
    obtain ⟨ez5, eM6⟩ := ez5
    subst ez5
    rw [eM6] at hG
    refine j_topi (fun x7 ex7 => ?_)
    have h := h x7 ex7
    refine lv_istore_n (lv' := [(3, .int (J x7)), (0, .ref (rA o a0)), (1, .int (J a1)), (2, .int (J a2))]) hx hb dX11_dropBy_15 rfl hl (by decide) rfl (fun ls hl => ?_)
    refine lv_iload_n hx hb dX11_dropBy_16 rfl (lv_at hl 2 rfl) ?_
    refine lv_iload_n hx hb dX11_dropBy_17 rfl (lv_at hl 3 rfl) ?_
    refine j_conti (va_runS (As := [.int (J a1), .int (J a2)]) (rest := []) ⟨hx, hb, hml, hown, hts⟩ (A_X11_ruleAt l) (va_cwS 2 hts (gj_S ml_RX11_135 i_X11_ruleAt n_RX11 k_X11_ruleAt) rfl rfl rfl (by decide +kernel) ⟨by exact Nat.le_of_ble_eq_true rfl, by exact Nat.le_of_ble_eq_true rfl⟩) (j_preS hK hSX hG) rfl rfl hl.1 rfl (lv_room (Nat.le_of_ble_eq_true rfl)) dX11_dropBy_18 ⟨by exact Nat.le_of_ble_eq_true rfl, by exact Nat.le_of_ble_eq_true rfl⟩) hG (c2 := 0) (s2 := 0) ⟨by exact Nat.le_of_ble_eq_true rfl, by exact Nat.le_of_ble_eq_true rfl⟩ (fun z8 M9 ez8 H locs hG => ?_)
    obtain ⟨ez8, eM9⟩ := ez8
    subst ez8
    rw [eM9] at hG
    refine j_topi (fun x10 ex10 => ?_)
    have h := h x10 ex10
    refine lv_istore (lv' := [(4, .int (J x10)), (3, .int (J x7)), (0, .ref (rA o a0)), (1, .int (J a1)), (2, .int (J a2))]) hx hb dX11_dropBy_21 hl (by decide) rfl (fun ls hl => ?_)
    obtain ⟨I13, ⟨n14s, iI13⟩, qI13⟩ := h
    have lI13 : ∀ (n14 : Nat) (x11 : Int) (M12 : jT), I13 n14 x11 M12 → ∀ (H : Heap) (locs : List Loc), GM D cy o M12 s.heap H locs → ∀ ls : Array Slot, lv_has ls 5 [(0, .ref (rA o a0)), (1, .int (J a1)), (3, .int (J x7)), (4, .int (J x11))] → W p l e rm_X11_dropBy s m args below meth c H locs 0 0 Qf (F0 m 23 ls []) := by
      intro n14
      induction n14 using Nat.strongRecOn with
      | ind n14 rI13 =>
        intro x11 M12 iI13 H locs hG ls hl
        have h := qI13 n14 x11 M12 iI13
        refine lv_iload hx hb dX11_dropBy_23 (lv_at hl 3 rfl) ?_
        refine lv_iload_n hx hb dX11_dropBy_25 rfl (lv_at hl 1 rfl) ?_
        refine lv_aload_n hx hb dX11_dropBy_26 rfl (lv_at hl 0 rfl) ?_
        refine j_getr hx hb hts hown hK hG (k := a0) (fun w h => List.mem_cons_of_mem _ (u_X11 w h)) (ci := 10) rfl ka0 1 (k2 := a0 + 1) (by decide) (by show a0 + (1 : Int) = a0 + 1; omega) w_fl_RX11_9 dX11_dropBy_27 ?_
        refine lv_iload_n hx hb dX11_dropBy_30 rfl (lv_at hl 2 rfl) ?_
        refine lv_iconst (v := J 1) hx hb dX11_dropBy_31 (by decide) ?_
        refine j_iadd hx hb dX11_dropBy_32 ?_
        obtain ⟨g15, h⟩ := h
        refine j_iald hx hb hK hG (n := 1294) (kf_11_1 ka0) (by decide) g15 dX11_dropBy_33 ?_
        refine lv_iconst (v := J 1) hx hb dX11_dropBy_34 (by decide) ?_
        refine j_isub hx hb dX11_dropBy_35 ?_
        refine j_conti (va_runS (As := [.int (J a1), .int (J ((M12 (a0 + 1) (x7 + 1)) - 1))]) (rest := [.int (J x11)]) ⟨hx, hb, hml, hown, hts⟩ (A_X11_ruleAt l) (va_cwS 2 hts (gj_S ml_RX11_135 i_X11_ruleAt n_RX11 k_X11_ruleAt) rfl rfl rfl (by decide +kernel) ⟨by exact Nat.le_of_ble_eq_true rfl, by exact Nat.le_of_ble_eq_true rfl⟩) (j_preS hK hSX hG) rfl rfl hl.1 rfl (lv_room (Nat.le_of_ble_eq_true rfl)) dX11_dropBy_36 ⟨by exact Nat.le_of_ble_eq_true rfl, by exact Nat.le_of_ble_eq_true rfl⟩) hG (c2 := 0) (s2 := 0) ⟨by exact Nat.le_of_ble_eq_true rfl, by exact Nat.le_of_ble_eq_true rfl⟩ (fun z16 M17 ez16 H locs hG => ?_)
        obtain ⟨ez16, eM17⟩ := ez16
        subst ez16
        rw [eM17] at hG
        obtain ⟨g19, h⟩ := h
        obtain ⟨g20, h⟩ := h
        refine j_icmp_ge (tgt := 65) hx hb dX11_dropBy_39 (by decide) g19 g20 (fun c18 => ?_) (fun c18 => ?_)
        · have h := h.1 c18
          refine lv_aload_n hx hb dX11_dropBy_65 rfl (lv_at hl 0 rfl) ?_
          refine j_getr hx hb hts hown hK hG (k := a0) (fun w h => List.mem_cons_of_mem _ (u_X11 w h)) (ci := 10) rfl ka0 1 (k2 := a0 + 1) (by decide) (by show a0 + (1 : Int) = a0 + 1; omega) w_fl_RX11_9 dX11_dropBy_66 ?_
          refine lv_iload_n hx hb dX11_dropBy_69 rfl (lv_at hl 2 rfl) ?_
          refine lv_iconst (v := J 1) hx hb dX11_dropBy_70 (by decide) ?_
          refine j_iadd hx hb dX11_dropBy_71 ?_
          refine lv_dup2_11 hx hb dX11_dropBy_72 rfl rfl ?_
          refine j_iald hx hb hK hG (n := 1294) (kf_11_1 ka0) (by decide) g15 dX11_dropBy_73 ?_
          refine lv_iconst (v := J 1) hx hb dX11_dropBy_74 (by decide) ?_
          refine j_isub hx hb dX11_dropBy_75 ?_
          refine lv_dup_x2 hx hb dX11_dropBy_76 rfl rfl rfl ?_
          refine j_iast hx hb hK hG (n := 1294) (kf_11_1 ka0) (by decide) g15 dX11_dropBy_77 (fun M21 eM21 H locs hG => ?_)
          have h := h M21 eM21
          rw [hQf]
          exact j_ireti hx hb hr hlocks hG h (by decide) dX11_dropBy_78
        · have h := h.2 c18
          refine lv_aload_n hx hb dX11_dropBy_42 rfl (lv_at hl 0 rfl) ?_
          refine j_getr hx hb hts hown hK hG (k := a0) (fun w h => List.mem_cons_of_mem _ (u_X11 w h)) (ci := 10) rfl ka0 1 (k2 := a0 + 1) (by decide) (by show a0 + (1 : Int) = a0 + 1; omega) w_fl_RX11_9 dX11_dropBy_43 ?_
          refine lv_iload hx hb dX11_dropBy_46 (lv_at hl 3 rfl) ?_
          refine lv_aload_n hx hb dX11_dropBy_48 rfl (lv_at hl 0 rfl) ?_
          refine j_getr hx hb hts hown hK hG (k := a0) (fun w h => List.mem_cons_of_mem _ (u_X11 w h)) (ci := 10) rfl ka0 1 (k2 := a0 + 1) (by decide) (by show a0 + (1 : Int) = a0 + 1; omega) w_fl_RX11_9 dX11_dropBy_49 ?_
          refine lv_iload hx hb dX11_dropBy_52 (lv_at hl 3 rfl) ?_
          refine lv_bipush (v := J 7) hx hb dX11_dropBy_54 (by decide) ?_
          refine j_iadd hx hb dX11_dropBy_56 ?_
          obtain ⟨g22, h⟩ := h
          refine j_iald hx hb hK hG (n := 1294) (kf_11_1 ka0) (by decide) g22 dX11_dropBy_57 ?_
          obtain ⟨g23, h⟩ := h
          refine j_iast hx hb hK hG (n := 1294) (kf_11_1 ka0) (by decide) g23 dX11_dropBy_58 (fun M24 eM24 H locs hG => ?_)
          have h := h M24 eM24
          refine j_iinc hx hb dX11_dropBy_59 hl (k := 3) rfl (by decide) (fun x25 ex25 ls hl => ?_)
          have h := h x25 ex25
          have hl : lv_has ls 5 [(4, .int (J x25)), (0, .ref (rA o a0)), (1, .int (J a1)), (3, .int (J x7))] := hl
          refine lv_goto (tgt := 23) hx hb dX11_dropBy_62 (by decide) ?_
          obtain ⟨n26, ln26, iI13⟩ := h
          exact rI13 n26 ln26 x25 M24 iI13 H locs hG ls (lv_sub hl [1, 2, 3, 0] rfl)
    exact lI13 n14s x10 M iI13 H locs hG ls (lv_sub hl [2, 3, 1, 0] rfl)
  · have h := h.2 c4
    refine lv_iconst (v := J (-1)) hx hb dX11_dropBy_9 (by decide) ?_
    rw [hQf]
    exact j_ireti hx hb hr hlocks hG h (by decide) dX11_dropBy_10

abbrev rm_X11_isMeeting : Room := { frames := 1, cells := 0, slots := 0, locals := 22 }
set_option maxRecDepth 100000 in
set_option maxHeartbeats 4000000 in
theorem A_X11_isMeeting (l : Launch) {D : va_G} {cy : Nat → ClassId} {o : Nat} {sK sV : Nat → Nat} {M : jT} {a0 : Int} {a1 : Int} (ka0 : kd a0 = 11) (h : pg_X11_isMeeting M a0 a1) : CoI l yX11_isMeeting (wj yX11_isMeeting cX11_isMeeting 2 (some .boolean)) rm_X11_isMeeting D cy o sK sV M [.ref (rA o a0), .int (J a1)] (fun z M9 => z = b2i (pb_X11_isMeeting M a0 a1) ∧ M9 = M) := by
  refine j_ofW (cc := cX11_isMeeting) (maxL := 2) (ret := (some .boolean)) (by decide) rfl (Nat.le_of_ble_eq_true rfl) ?_
  intro p e s m args below meth c hx hb hr hlocks hml hown hts hK hSX H locs hG ls hl Qf hQf
  have hown : s.vm.findClass RX11 = some m.cls := hown
  have hl : lv_has ls 2 [(0, .ref (rA o a0)), (1, .int (J a1))] := hl
  have w_fl_RX11_9 := hts _ (List.mem_cons_of_mem _ fl_RX11_9)
  unfold pg_X11_isMeeting at h
  refine lv_iload_n hx hb dX11_isMeeting_0 rfl (lv_at hl 1 rfl) ?_
  refine lv_iconst (v := J 0) hx hb dX11_isMeeting_1 (by decide) ?_
  refine lv_aload_n hx hb dX11_isMeeting_2 rfl (lv_at hl 0 rfl) ?_
  refine j_getr hx hb hts hown hK hG (k := a0) (fun w h => List.mem_cons_of_mem _ (u_X11 w h)) (ci := 10) rfl ka0 1 (k2 := a0 + 1) (by decide) (by show a0 + (1 : Int) = a0 + 1; omega) w_fl_RX11_9 dX11_isMeeting_3 ?_
  refine lv_iconst (v := J 1) hx hb dX11_isMeeting_6 (by decide) ?_
  refine j_iald hx hb hK hG (n := 1294) (kf_11_1 ka0) (by decide) (by decide) dX11_isMeeting_7 ?_
  refine lv_iconst (v := J 1) hx hb dX11_isMeeting_8 (by decide) ?_
  refine j_isub hx hb dX11_isMeeting_9 ?_
  obtain ⟨g1, h⟩ := h
  refine j_conti (va_runS (As := [.int (J a1), .int (J 0), .int (J ((M (a0 + 1) 1) - 1))]) (rest := []) ⟨hx, hb, hml, hown, hts⟩ (A_X11_in l g1) (va_cwS 3 hts (gj_S ml_RX11_106 i_X11_in n_RX11 k_X11_in) rfl rfl rfl (by decide +kernel) ⟨by exact Nat.le_of_ble_eq_true rfl, by exact Nat.le_of_ble_eq_true rfl⟩) (j_preS hK hSX hG) rfl rfl hl.1 rfl (lv_room (Nat.le_of_ble_eq_true rfl)) dX11_isMeeting_10 ⟨by exact Nat.le_of_ble_eq_true rfl, by exact Nat.le_of_ble_eq_true rfl⟩) hG (c2 := 0) (s2 := 0) ⟨by exact Nat.le_of_ble_eq_true rfl, by exact Nat.le_of_ble_eq_true rfl⟩ (fun z2 M3 ez2 H locs hG => ?_)
  obtain ⟨ez2, eM3⟩ := ez2
  subst ez2
  rw [eM3] at hG
  rw [hQf]
  exact j_iretn hx hb hr hlocks (nar_b (b2i_rng _)) hG ⟨(b2i_iff Iff.rfl), rfl⟩ (by decide) dX11_isMeeting_13

abbrev rm_X11_meetingAt : Room := { frames := 0, cells := 0, slots := 0, locals := 0 }
set_option maxRecDepth 100000 in
set_option maxHeartbeats 4000000 in
theorem A_X11_meetingAt (l : Launch) {D : va_G} {cy : Nat → ClassId} {o : Nat} {sK sV : Nat → Nat} {M : jT} {a0 : Int} : CoI l yX11_meetingAt (wj yX11_meetingAt cX11_meetingAt 1 (some .int)) rm_X11_meetingAt D cy o sK sV M [.int (J a0)] (fun z M9 => z = pf_X11_meetingAt a0 ∧ M9 = M) := by
  refine j_ofW (cc := cX11_meetingAt) (maxL := 1) (ret := (some .int)) (by decide) rfl (Nat.le_of_ble_eq_true rfl) ?_
  intro p e s m args below meth c hx hb hr hlocks hml hown hts hK hSX H locs hG ls hl Qf hQf
  have hown : s.vm.findClass RX11 = some m.cls := hown
  have hl : lv_has ls 1 [(0, .int (J a0))] := hl
  refine lv_sipush (v := J 404) hx hb dX11_meetingAt_0 (by decide) ?_
  refine lv_bipush (v := J 89) hx hb dX11_meetingAt_3 (by decide) ?_
  refine lv_iload_n hx hb dX11_meetingAt_5 rfl (lv_at hl 0 rfl) ?_
  refine j_imul hx hb dX11_meetingAt_6 ?_
  refine j_iadd hx hb dX11_meetingAt_7 ?_
  rw [hQf]
  exact j_ireti hx hb hr hlocks hG ⟨rfl, rfl⟩ (by decide) dX11_meetingAt_8

abbrev rm_X11_fifth : Room := { frames := 3, cells := 0, slots := 0, locals := 71 }
set_option maxRecDepth 100000 in
set_option maxHeartbeats 4000000 in
theorem A_X11_fifth (l : Launch) {D : va_G} {cy : Nat → ClassId} {o : Nat} {sK sV : Nat → Nat} {M : jT} {a0 : Int} {a1 : Int} {Q : Int → Prop} (h : wp_X11_fifth M a0 a1 Q) : CoI l yX11_fifth (wj yX11_fifth cX11_fifth 3 (some .int)) rm_X11_fifth D cy o sK sV M [.int (J a0), .int (J a1)] (fun z M9 => Q z ∧ M9 = M) := by
  refine j_ofW (cc := cX11_fifth) (maxL := 3) (ret := (some .int)) (by decide) rfl (Nat.le_of_ble_eq_true rfl) ?_
  intro p e s m args below meth c hx hb hr hlocks hml hown hts hK hSX H locs hG ls hl Qf hQf
  have hown : s.vm.findClass RX11 = some m.cls := hown
  have hl : lv_has ls 3 [(0, .int (J a0)), (1, .int (J a1))] := hl
  unfold wp_X11_fifth at h
  refine lv_sipush (v := J 400) hx hb dX11_fifth_0 (by decide) ?_
  refine lv_iload_n hx hb dX11_fifth_3 rfl (lv_at hl 1 rfl) ?_
  refine j_iadd hx hb dX11_fifth_4 ?_
  refine lv_iload_n hx hb dX11_fifth_5 rfl (lv_at hl 0 rfl) ?_
  refine lv_bipush (v := J 12) hx hb dX11_fifth_6 (by decide) ?_
  obtain ⟨g1, h⟩ := h
  refine j_idiv hx hb dX11_fifth_8 g1 (by decide) ?_
  refine lv_iload_n hx hb dX11_fifth_9 rfl (lv_at hl 0 rfl) ?_
  refine lv_bipush (v := J 12) hx hb dX11_fifth_10 (by decide) ?_
  refine j_irem hx hb dX11_fifth_12 g1 (by decide) ?_
  refine lv_iconst (v := J 1) hx hb dX11_fifth_13 (by decide) ?_
  refine j_iadd hx hb dX11_fifth_14 ?_
  refine j_conti (va_runS (As := [.int (J (400 + a1)), .int (J (a0 / 12)), .int (J ((a0 % 12) + 1))]) (rest := []) ⟨hx, hb, hml, hown, hts⟩ (A_X11_dayBy l h) (va_cwS 3 hts (gj_S ml_RX11_174 i_X11_dayBy n_RX11 k_X11_dayBy) rfl rfl rfl (by decide +kernel) ⟨by exact Nat.le_of_ble_eq_true rfl, by exact Nat.le_of_ble_eq_true rfl⟩) (j_preS hK hSX hG) rfl rfl hl.1 rfl (lv_room (Nat.le_of_ble_eq_true rfl)) dX11_fifth_15 ⟨by exact Nat.le_of_ble_eq_true rfl, by exact Nat.le_of_ble_eq_true rfl⟩) hG (c2 := 0) (s2 := 0) ⟨by exact Nat.le_of_ble_eq_true rfl, by exact Nat.le_of_ble_eq_true rfl⟩ (fun z2 M3 h H locs hG => ?_)
  obtain ⟨h, eM3⟩ := h
  rw [eM3] at hG
  refine lv_bipush (v := J 7) hx hb dX11_fifth_18 (by decide) ?_
  refine j_iadd hx hb dX11_fifth_20 ?_
  refine j_topi (fun x4 ex4 => ?_)
  have h := h x4 ex4
  refine lv_istore_n (lv' := [(2, .int (J x4)), (0, .int (J a0)), (1, .int (J a1))]) hx hb dX11_fifth_21 rfl hl (by decide) rfl (fun ls hl => ?_)
  refine lv_iload_n hx hb dX11_fifth_22 rfl (lv_at hl 0 rfl) ?_
  refine lv_iload_n hx hb dX11_fifth_23 rfl (lv_at hl 1 rfl) ?_
  refine lv_bipush (v := J 12) hx hb dX11_fifth_24 (by decide) ?_
  refine j_idiv hx hb dX11_fifth_26 g1 (by decide) ?_
  refine lv_iload_n hx hb dX11_fifth_27 rfl (lv_at hl 1 rfl) ?_
  refine lv_bipush (v := J 12) hx hb dX11_fifth_28 (by decide) ?_
  refine j_irem hx hb dX11_fifth_30 g1 (by decide) ?_
  refine lv_iconst (v := J 1) hx hb dX11_fifth_31 (by decide) ?_
  refine j_iadd hx hb dX11_fifth_32 ?_
  refine j_conti (va_runS (As := [.int (J (a0 / 12)), .int (J ((a0 % 12) + 1))]) (rest := [.int (J x4)]) ⟨hx, hb, hml, hown, hts⟩ (A_X11_monthDay l h) (va_cwS 2 hts (gj_S ml_RX11_100 i_X11_monthDay n_RX11 k_X11_monthDay) rfl rfl rfl (by decide +kernel) ⟨by exact Nat.le_of_ble_eq_true rfl, by exact Nat.le_of_ble_eq_true rfl⟩) (j_preS hK hSX hG) rfl rfl hl.1 rfl (lv_room (Nat.le_of_ble_eq_true rfl)) dX11_fifth_33 ⟨by exact Nat.le_of_ble_eq_true rfl, by exact Nat.le_of_ble_eq_true rfl⟩) hG (c2 := 0) (s2 := 0) ⟨by exact Nat.le_of_ble_eq_true rfl, by exact Nat.le_of_ble_eq_true rfl⟩ (fun z5 M6 h H locs hG => ?_)
  obtain ⟨h, eM6⟩ := h
  rw [eM6] at hG
  refine j_isub hx hb dX11_fifth_36 ?_
  refine lv_iload_n hx hb dX11_fifth_37 rfl (lv_at hl 1 rfl) ?_
  refine lv_bipush (v := J 12) hx hb dX11_fifth_38 (by decide) ?_
  refine j_idiv hx hb dX11_fifth_40 g1 (by decide) ?_
  refine lv_iload_n hx hb dX11_fifth_41 rfl (lv_at hl 1 rfl) ?_
  refine lv_bipush (v := J 12) hx hb dX11_fifth_42 (by decide) ?_
  refine j_irem hx hb dX11_fifth_44 g1 (by decide) ?_
  refine lv_iconst (v := J 1) hx hb dX11_fifth_45 (by decide) ?_
  refine j_iadd hx hb dX11_fifth_46 ?_
  obtain ⟨g7, h⟩ := h
  refine j_conti (va_runS (As := [.int (J (a0 / 12)), .int (J ((a0 % 12) + 1))]) (rest := [.int (J (x4 - z5))]) ⟨hx, hb, hml, hown, hts⟩ (A_X11_monthLength l g7) (va_cwS 2 hts (gj_S ml_RX11_93 i_X11_monthLength n_RX11 k_X11_monthLength) rfl rfl rfl (by decide +kernel) ⟨by exact Nat.le_of_ble_eq_true rfl, by exact Nat.le_of_ble_eq_true rfl⟩) (j_preS hK hSX hG) rfl rfl hl.1 rfl (lv_room (Nat.le_of_ble_eq_true rfl)) dX11_fifth_47 ⟨by exact Nat.le_of_ble_eq_true rfl, by exact Nat.le_of_ble_eq_true rfl⟩) hG (c2 := 0) (s2 := 0) ⟨by exact Nat.le_of_ble_eq_true rfl, by exact Nat.le_of_ble_eq_true rfl⟩ (fun z8 M9 ez8 H locs hG => ?_)
  obtain ⟨ez8, eM9⟩ := ez8
  subst ez8
  rw [eM9] at hG
  obtain ⟨hg, h⟩ := h
  have jK14 : ∀ x13 : Int, (pf_X11_monthLength (a0 / 12) ((a0 % 12) + 1) ≤ x4 - z5 → x13 = (-1)) → (x4 - z5 < pf_X11_monthLength (a0 / 12) ((a0 % 12) + 1) → x13 = x4) → ∀ (H : Heap) (locs : List Loc), GM D cy o M s.heap H locs → ∀ ls : Array Slot, lv_has ls 3 [] → W p l e rm_X11_fifth s m args below meth c H locs 0 0 Qf (F0 m 58 ls [.int (J x13)]) := by
    intro x13 qx13_0 qx13_1 H locs hG ls hl
    have h := h x13 qx13_0 qx13_1
    rw [hQf]
    exact j_ireti hx hb hr hlocks hG ⟨h, rfl⟩ (by decide) dX11_fifth_58
  have h := hg
  obtain ⟨g16, h⟩ := h
  obtain ⟨g17, h⟩ := h
  refine j_icmp_ge (tgt := 57) hx hb dX11_fifth_50 (by decide) g16 g17 (fun c15 => ?_) (fun c15 => ?_)
  · have h := h.1 c15
    refine lv_iconst (v := J (-1)) hx hb dX11_fifth_57 (by decide) ?_
    exact jK14 ((-1)) (fun _ => rfl) (fun q => absurd q (by omega)) H locs hG ls (lv_sub hl [] rfl)
  · have h := h.2 c15
    refine lv_iload_n hx hb dX11_fifth_53 rfl (lv_at hl 0 rfl) ?_
    refine lv_goto (tgt := 58) hx hb dX11_fifth_54 (by decide) ?_
    exact jK14 x4 (fun q => absurd q (by omega)) (fun _ => rfl) H locs hG ls (lv_sub hl [] rfl)

abbrev rm_X11_lists : Room := { frames := 4, cells := 0, slots := 0, locals := 93 }
set_option maxRecDepth 100000 in
set_option maxHeartbeats 4000000 in
theorem A_X11_lists (l : Launch) {D : va_G} {cy : Nat → ClassId} {o : Nat} {sK sV : Nat → Nat} {M : jT} {a0 : Int} {a1 : Int} (ka0 : kd a0 = 11) {Q : jT → Prop} (h : wp_X11_lists M a0 a1 Q) : CoV l yX11_lists (wj yX11_lists cX11_lists 9 none) rm_X11_lists D cy o sK sV M [.ref (rA o a0), .int (J a1)] Q := by
  refine j_ofW (cc := cX11_lists) (maxL := 9) (ret := none) (by decide) rfl (Nat.le_of_ble_eq_true rfl) ?_
  intro p e s m args below meth c hx hb hr hlocks hml hown hts hK hSX H locs hG ls hl Qf hQf
  have hown : s.vm.findClass RX11 = some m.cls := hown
  have hl : lv_has ls 9 [(0, .ref (rA o a0)), (1, .int (J a1))] := hl
  have w_fl_RX11_9 := hts _ (List.mem_cons_of_mem _ fl_RX11_9)
  have w_fl_RX11_244 := hts _ (List.mem_cons_of_mem _ fl_RX11_244)
  have w_fl_RX11_71 := hts _ (List.mem_cons_of_mem _ fl_RX11_71)
  unfold wp_X11_lists at h
  refine lv_iload_n hx hb dX11_lists_0 rfl (lv_at hl 1 rfl) ?_
  refine j_conti (va_runS (As := [.int (J a1)]) (rest := []) ⟨hx, hb, hml, hown, hts⟩ (A_X11_meetingAt l) (va_cwS 1 hts (gj_S ml_RX11_145 i_X11_meetingAt n_RX11 k_X11_meetingAt) rfl rfl rfl (by decide +kernel) ⟨by exact Nat.le_of_ble_eq_true rfl, by exact Nat.le_of_ble_eq_true rfl⟩) (j_preS hK hSX hG) rfl rfl hl.1 rfl (lv_room (Nat.le_of_ble_eq_true rfl)) dX11_lists_1 ⟨by exact Nat.le_of_ble_eq_true rfl, by exact Nat.le_of_ble_eq_true rfl⟩) hG (c2 := 0) (s2 := 0) ⟨by exact Nat.le_of_ble_eq_true rfl, by exact Nat.le_of_ble_eq_true rfl⟩ (fun z1 M2 ez1 H locs hG => ?_)
  obtain ⟨ez1, eM2⟩ := ez1
  subst ez1
  rw [eM2] at hG
  refine j_topi (fun x3 ex3 => ?_)
  have h := h x3 ex3
  refine lv_istore_n (lv' := [(2, .int (J x3)), (0, .ref (rA o a0)), (1, .int (J a1))]) hx hb dX11_lists_4 rfl hl (by decide) rfl (fun ls hl => ?_)
  refine lv_aload_n hx hb dX11_lists_5 rfl (lv_at hl 1 rfl) ?_
  refine j_getr hx hb hts hown hK hG (k := a0) (fun w h => List.mem_cons_of_mem _ (u_X11 w h)) (ci := 10) rfl ka0 1 (k2 := a0 + 1) (by decide) (by show a0 + (1 : Int) = a0 + 1; omega) w_fl_RX11_9 dX11_lists_6 ?_
  refine lv_iload_n hx hb dX11_lists_9 rfl (lv_at hl 0 rfl) ?_
  refine lv_iconst (v := J 1) hx hb dX11_lists_10 (by decide) ?_
  refine j_iadd hx hb dX11_lists_11 ?_
  obtain ⟨g4, h⟩ := h
  refine j_iald hx hb hK hG (n := 1294) (kf_11_1 ka0) (by decide) g4 dX11_lists_12 ?_
  refine j_topi (fun x5 ex5 => ?_)
  have h := h x5 ex5
  refine lv_istore_n (lv' := [(3, .int (J x5)), (2, .int (J x3)), (0, .ref (rA o a0)), (1, .int (J a1))]) hx hb dX11_lists_13 rfl hl (by decide) rfl (fun ls hl => ?_)
  refine lv_aload_n hx hb dX11_lists_14 rfl (lv_at hl 2 rfl) ?_
  refine j_getr hx hb hts hown hK hG (k := a0) (fun w h => List.mem_cons_of_mem _ (u_X11 w h)) (ci := 10) rfl ka0 1 (k2 := a0 + 1) (by decide) (by show a0 + (1 : Int) = a0 + 1; omega) w_fl_RX11_9 dX11_lists_15 ?_
  refine lv_iload_n hx hb dX11_lists_18 rfl (lv_at hl 1 rfl) ?_
  refine lv_iconst (v := J 5) hx hb dX11_lists_19 (by decide) ?_
  refine j_iadd hx hb dX11_lists_20 ?_
  obtain ⟨g6, h⟩ := h
  refine j_iald hx hb hK hG (n := 1294) (kf_11_1 ka0) (by decide) g6 dX11_lists_21 ?_
  refine j_topi (fun x7 ex7 => ?_)
  have h := h x7 ex7
  refine lv_istore (lv' := [(4, .int (J x7)), (3, .int (J x5)), (2, .int (J x3)), (0, .ref (rA o a0)), (1, .int (J a1))]) hx hb dX11_lists_22 hl (by decide) rfl (fun ls hl => ?_)
  refine lv_aload_n hx hb dX11_lists_24 rfl (lv_at hl 3 rfl) ?_
  refine j_getr hx hb hts hown hK hG (k := a0) (fun w h => List.mem_cons_of_mem _ (u_X11 w h)) (ci := 10) rfl ka0 1 (k2 := a0 + 1) (by decide) (by show a0 + (1 : Int) = a0 + 1; omega) w_fl_RX11_9 dX11_lists_25 ?_
  refine lv_iload_n hx hb dX11_lists_28 rfl (lv_at hl 2 rfl) ?_
  refine lv_bipush (v := J 7) hx hb dX11_lists_29 (by decide) ?_
  refine j_iadd hx hb dX11_lists_31 ?_
  obtain ⟨g8, h⟩ := h
  refine j_iald hx hb hK hG (n := 1294) (kf_11_1 ka0) (by decide) g8 dX11_lists_32 ?_
  refine j_topi (fun x9 ex9 => ?_)
  have h := h x9 ex9
  refine lv_istore (lv' := [(5, .int (J x9)), (4, .int (J x7)), (3, .int (J x5)), (2, .int (J x3)), (0, .ref (rA o a0)), (1, .int (J a1))]) hx hb dX11_lists_33 hl (by decide) rfl (fun ls hl => ?_)
  refine lv_aload_n hx hb dX11_lists_35 rfl (lv_at hl 4 rfl) ?_
  refine lv_iconst (v := J 0) hx hb dX11_lists_36 (by decide) ?_
  refine j_puti hx hb hts hown hK hG (k := a0) (fun w h => List.mem_cons_of_mem _ (u_X11 w h)) tyX11 tyX11_ok nmX11 (ci := 10) rfl ka0 33 (by decide) (jz := 33) rfl w_fl_RX11_244 (hd := rfl) (hn := rfl) (hfit := rfl) (hdg := dX11_lists_37) (fun M10 eM10 H locs hG => ?_)
  have h := h M10 eM10
  refine lv_aload_n hx hb dX11_lists_40 rfl (lv_at hl 4 rfl) ?_
  refine j_getr hx hb hts hown hK hG (k := a0) (fun w h => List.mem_cons_of_mem _ (u_X11 w h)) (ci := 10) rfl ka0 1 (k2 := a0 + 1) (by decide) (by show a0 + (1 : Int) = a0 + 1; omega) w_fl_RX11_9 dX11_lists_41 ?_
  refine lv_iload_n hx hb dX11_lists_44 rfl (lv_at hl 3 rfl) ?_
  refine lv_bipush (v := J 6) hx hb dX11_lists_45 (by decide) ?_
  refine j_iadd hx hb dX11_lists_47 ?_
  obtain ⟨g11, h⟩ := h
  refine j_iald hx hb hK hG (n := 1294) (kf_11_1 ka0) (by decide) g11 dX11_lists_48 ?_
  obtain ⟨g12, h⟩ := h
  rcases em_eqI (M10 (a0 + 1) (x3 + 6)) 0 with c13 | c13_0
  · refine j_lsw hx hb dX11_lists_49 g12 (k := 0) (tgt := 76) c13 rfl (by decide) (by decide) ?_
    have h := h.1 c13
    refine lv_iload_n hx hb dX11_lists_76 rfl (lv_at hl 2 rfl) ?_
    refine lv_istore (lv' := [(6, .int (J x5)), (5, .int (J x9)), (4, .int (J x7)), (3, .int (J x5)), (2, .int (J x3)), (0, .ref (rA o a0)), (1, .int (J a1))]) hx hb dX11_lists_77 hl (by decide) rfl (fun ls hl => ?_)
    obtain ⟨I16, ⟨n17s, iI16⟩, qI16⟩ := h
    have lI16 : ∀ (n17 : Nat) (x14 : Int) (M15 : jT), I16 n17 x14 M15 → ∀ (H : Heap) (locs : List Loc), GM D cy o M15 s.heap H locs → ∀ ls : Array Slot, lv_has ls 9 [(0, .ref (rA o a0)), (4, .int (J x7)), (5, .int (J x9)), (6, .int (J x14))] → W p l e rm_X11_lists s m args below meth c H locs 0 0 Qf (F0 m 79 ls []) := by
      intro n17
      induction n17 using Nat.strongRecOn with
      | ind n17 rI16 =>
        intro x14 M15 iI16 H locs hG ls hl
        have h := qI16 n17 x14 M15 iI16
        refine lv_iload hx hb dX11_lists_79 (lv_at hl 3 rfl) ?_
        refine lv_sipush (v := J 11688) hx hb dX11_lists_81 (by decide) ?_
        obtain ⟨K28, hK28, h⟩ := h
        have jK28 : K28 → ∀ (H : Heap) (locs : List Loc), GM D cy o M15 s.heap H locs → ∀ ls : Array Slot, lv_has ls 9 [] → W p l e rm_X11_lists s m args below meth c H locs 0 0 Qf (F0 m 124 ls []) := by
          intro hcK28 H locs hG ls hl
          have h := hK28 hcK28
          rw [hQf]
          exact j_vret hx hb hr hlocks hG h (by decide) dX11_lists_124
        obtain ⟨g30, h⟩ := h
        refine j_icmp_ge (tgt := 124) hx hb dX11_lists_84 (by decide) g30 (by decide) (fun c29 => ?_) (fun c29 => ?_)
        · have h := h.1 c29
          exact jK28 h H locs hG ls (lv_sub hl [] rfl)
        · have h := h.2 c29
          refine lv_aload_n hx hb dX11_lists_87 rfl (lv_at hl 0 rfl) ?_
          refine j_geti hx hb hts hown hK hG (k := a0) (fun w h => List.mem_cons_of_mem _ (u_X11 w h)) (ci := 10) rfl ka0 33 (by decide) (jz := 33) rfl w_fl_RX11_244 dX11_lists_88 ?_
          refine lv_iload hx hb dX11_lists_91 (lv_at hl 1 rfl) ?_
          obtain ⟨g32, h⟩ := h
          obtain ⟨g33, h⟩ := h
          refine j_icmp_ge (tgt := 124) hx hb dX11_lists_93 (by decide) g32 g33 (fun c31 => ?_) (fun c31 => ?_)
          · have h := h.1 c31
            exact jK28 h H locs hG ls (lv_sub hl [] rfl)
          · have h := h.2 c31
            refine lv_aload_n hx hb dX11_lists_96 rfl (lv_at hl 0 rfl) ?_
            refine j_getr hx hb hts hown hK hG (k := a0) (fun w h => List.mem_cons_of_mem _ (u_X11 w h)) (ci := 10) rfl ka0 32 (k2 := a0 + 19) (by decide) (by show a0 + (19 : Int) = a0 + 19; omega) w_fl_RX11_71 dX11_lists_97 ?_
            refine lv_aload_n hx hb dX11_lists_100 rfl (lv_at hl 0 rfl) ?_
            refine lv_dup hx hb dX11_lists_101 rfl ?_
            refine j_geti hx hb hts hown hK hG (k := a0) (fun w h => List.mem_cons_of_mem _ (u_X11 w h)) (ci := 10) rfl ka0 33 (by decide) (jz := 33) rfl w_fl_RX11_244 dX11_lists_102 ?_
            refine lv_dup_x1 hx hb dX11_lists_105 rfl rfl ?_
            refine lv_iconst (v := J 1) hx hb dX11_lists_106 (by decide) ?_
            refine j_iadd hx hb dX11_lists_107 ?_
            refine j_puti hx hb hts hown hK hG (k := a0) (fun w h => List.mem_cons_of_mem _ (u_X11 w h)) tyX11 tyX11_ok nmX11 (ci := 10) rfl ka0 33 (by decide) (jz := 33) rfl w_fl_RX11_244 (hd := rfl) (hn := rfl) (hfit := rfl) (hdg := dX11_lists_108) (fun M34 eM34 H locs hG => ?_)
            have h := h M34 eM34
            refine lv_iload hx hb dX11_lists_111 (lv_at hl 3 rfl) ?_
            obtain ⟨g35, h⟩ := h
            refine j_iast hx hb hK hG (n := 40) (kf_11_32 ka0) (by decide) g35 dX11_lists_113 (fun M36 eM36 H locs hG => ?_)
            have h := h M36 eM36
            refine lv_iload hx hb dX11_lists_114 (lv_at hl 3 rfl) ?_
            refine lv_iload hx hb dX11_lists_116 (lv_at hl 2 rfl) ?_
            refine j_iadd hx hb dX11_lists_118 ?_
            refine j_topi (fun x37 ex37 => ?_)
            have h := h x37 ex37
            refine lv_istore (lv' := [(6, .int (J x37)), (0, .ref (rA o a0)), (4, .int (J x7)), (5, .int (J x9))]) hx hb dX11_lists_119 hl (by decide) rfl (fun ls hl => ?_)
            refine lv_goto (tgt := 79) hx hb dX11_lists_121 (by decide) ?_
            obtain ⟨n38, ln38, iI16⟩ := h
            exact rI16 n38 ln38 x37 M36 iI16 H locs hG ls (lv_sub hl [1, 2, 3, 0] rfl)
    exact lI16 n17s x5 M10 iI16 H locs hG ls (lv_sub hl [5, 2, 1, 0] rfl)
  · rcases em_eqI (M10 (a0 + 1) (x3 + 6)) 1 with c13 | c13_1
    · refine j_lsw hx hb dX11_lists_49 g12 (k := 1) (tgt := 125) c13 rfl (by decide) (by decide) ?_
      have h := h.2.1 c13
      refine lv_iload_n hx hb dX11_lists_125 rfl (lv_at hl 2 rfl) ?_
      refine lv_iload_n hx hb dX11_lists_126 rfl (lv_at hl 2 rfl) ?_
      obtain ⟨g39, h⟩ := h
      refine j_conti (va_runS (As := [.int (J x5)]) (rest := [.int (J x5)]) ⟨hx, hb, hml, hown, hts⟩ (A_X11_weekday l g39) (va_cwS 1 hts (gj_S ml_RX11_120 i_X11_weekday n_RX11 k_X11_weekday) rfl rfl rfl (by decide +kernel) ⟨by exact Nat.le_of_ble_eq_true rfl, by exact Nat.le_of_ble_eq_true rfl⟩) (j_preS hK hSX hG) rfl rfl hl.1 rfl (lv_room (Nat.le_of_ble_eq_true rfl)) dX11_lists_127 ⟨by exact Nat.le_of_ble_eq_true rfl, by exact Nat.le_of_ble_eq_true rfl⟩) hG (c2 := 0) (s2 := 0) ⟨by exact Nat.le_of_ble_eq_true rfl, by exact Nat.le_of_ble_eq_true rfl⟩ (fun z40 M41 ez40 H locs hG => ?_)
      obtain ⟨ez40, eM41⟩ := ez40
      subst ez40
      rw [eM41] at hG
      refine j_isub hx hb dX11_lists_130 ?_
      refine j_topi (fun x42 ex42 => ?_)
      have h := h x42 ex42
      refine lv_istore (lv' := [(6, .int (J x42)), (5, .int (J x9)), (4, .int (J x7)), (3, .int (J x5)), (2, .int (J x3)), (0, .ref (rA o a0)), (1, .int (J a1))]) hx hb dX11_lists_131 hl (by decide) rfl (fun ls hl => ?_)
      obtain ⟨I45, ⟨n46s, iI45⟩, qI45⟩ := h
      have lI45 : ∀ (n46 : Nat) (x43 : Int) (M44 : jT), I45 n46 x43 M44 → ∀ (H : Heap) (locs : List Loc), GM D cy o M44 s.heap H locs → ∀ ls : Array Slot, lv_has ls 9 [(0, .ref (rA o a0)), (2, .int (J x3)), (3, .int (J x5)), (4, .int (J x7)), (5, .int (J x9)), (6, .int (J x43))] → W p l e rm_X11_lists s m args below meth c H locs 0 0 Qf (F0 m 133 ls []) := by
        intro n46
        induction n46 using Nat.strongRecOn with
        | ind n46 rI45 =>
          intro x43 M44 iI45 H locs hG ls hl
          have h := qI45 n46 x43 M44 iI45
          refine lv_iload hx hb dX11_lists_133 (lv_at hl 5 rfl) ?_
          refine lv_sipush (v := J 11688) hx hb dX11_lists_135 (by decide) ?_
          obtain ⟨g48, h⟩ := h
          refine j_icmp_ge (tgt := 240) hx hb dX11_lists_138 (by decide) g48 (by decide) (fun c47 => ?_) (fun c47 => ?_)
          · have h := h.1 c47
            rw [hQf]
            exact j_vret hx hb hr hlocks hG h (by decide) dX11_lists_240
          · have h := h.2 c47
            refine lv_iconst (v := J 0) hx hb dX11_lists_141 (by decide) ?_
            refine lv_istore (lv' := [(7, .int (J 0)), (0, .ref (rA o a0)), (2, .int (J x3)), (3, .int (J x5)), (4, .int (J x7)), (5, .int (J x9)), (6, .int (J x43))]) hx hb dX11_lists_142 hl (by decide) rfl (fun ls hl => ?_)
            obtain ⟨I51, ⟨n52s, iI51⟩, qI51⟩ := h
            have lI51 : ∀ (n52 : Nat) (x49 : Int) (M50 : jT), I51 n52 x49 M50 → ∀ (H : Heap) (locs : List Loc), GM D cy o M50 s.heap H locs → ∀ ls : Array Slot, lv_has ls 9 [(0, .ref (rA o a0)), (2, .int (J x3)), (3, .int (J x5)), (4, .int (J x7)), (5, .int (J x9)), (6, .int (J x43)), (7, .int (J x49))] → W p l e rm_X11_lists s m args below meth c H locs 0 0 Qf (F0 m 144 ls []) := by
              intro n52
              induction n52 using Nat.strongRecOn with
              | ind n52 rI51 =>
                intro x49 M50 iI51 H locs hG ls hl
                have h := qI51 n52 x49 M50 iI51
                refine lv_iload hx hb dX11_lists_144 (lv_at hl 6 rfl) ?_
                refine lv_bipush (v := J 7) hx hb dX11_lists_146 (by decide) ?_
                obtain ⟨g54, h⟩ := h
                refine j_icmp_ge (tgt := 227) hx hb dX11_lists_148 (by decide) g54 (by decide) (fun c53 => ?_) (fun c53 => ?_)
                · have h := h.1 c53
                  refine lv_iload hx hb dX11_lists_227 (lv_at hl 5 rfl) ?_
                  refine lv_bipush (v := J 7) hx hb dX11_lists_229 (by decide) ?_
                  refine lv_iload hx hb dX11_lists_231 (lv_at hl 4 rfl) ?_
                  refine j_imul hx hb dX11_lists_233 ?_
                  refine j_iadd hx hb dX11_lists_234 ?_
                  refine j_topi (fun x55 ex55 => ?_)
                  have h := h x55 ex55
                  refine lv_istore (lv' := [(6, .int (J x55)), (0, .ref (rA o a0)), (2, .int (J x3)), (3, .int (J x5)), (4, .int (J x7)), (5, .int (J x9)), (7, .int (J x49))]) hx hb dX11_lists_235 hl (by decide) rfl (fun ls hl => ?_)
                  refine lv_goto (tgt := 133) hx hb dX11_lists_237 (by decide) ?_
                  obtain ⟨n56, ln56, iI45⟩ := h
                  exact rI45 n56 ln56 x55 M50 iI45 H locs hG ls (lv_sub hl [1, 2, 3, 4, 5, 0] rfl)
                · have h := h.2 c53
                  refine lv_aload_n hx hb dX11_lists_151 rfl (lv_at hl 0 rfl) ?_
                  refine j_getr hx hb hts hown hK hG (k := a0) (fun w h => List.mem_cons_of_mem _ (u_X11 w h)) (ci := 10) rfl ka0 1 (k2 := a0 + 1) (by decide) (by show a0 + (1 : Int) = a0 + 1; omega) w_fl_RX11_9 dX11_lists_152 ?_
                  refine lv_iload_n hx hb dX11_lists_155 rfl (lv_at hl 1 rfl) ?_
                  refine lv_bipush (v := J 8) hx hb dX11_lists_156 (by decide) ?_
                  refine j_iadd hx hb dX11_lists_158 ?_
                  obtain ⟨g57, h⟩ := h
                  refine j_iald hx hb hK hG (n := 1294) (kf_11_1 ka0) (by decide) g57 dX11_lists_159 ?_
                  refine lv_iload hx hb dX11_lists_160 (lv_at hl 6 rfl) ?_
                  obtain ⟨g58, h⟩ := h
                  obtain ⟨g59, h⟩ := h
                  refine j_ishr hx hb x49.toNat (by omega) dX11_lists_162 g59 (by omega) ?_
                  refine lv_iconst (v := J 1) hx hb dX11_lists_163 (by decide) ?_
                  refine j_iand hx hb 1 (by decide) dX11_lists_164 (by decide) ?_
                  obtain ⟨K73, hK73, h⟩ := h
                  have jK73 : ∀ (M72 : jT), K73 M72 → ∀ (H : Heap) (locs : List Loc), GM D cy o M72 s.heap H locs → ∀ ls : Array Slot, lv_has ls 9 [(0, .ref (rA o a0)), (2, .int (J x3)), (3, .int (J x5)), (4, .int (J x7)), (5, .int (J x9)), (6, .int (J x43)), (7, .int (J x49))] → W p l e rm_X11_lists s m args below meth c H locs 0 0 Qf (F0 m 221 ls []) := by
                    intro M72 hcK73 H locs hG ls hl
                    have h := hK73 M72 hcK73
                    refine j_iinc hx hb dX11_lists_221 hl (k := 6) rfl (by decide) (fun x74 ex74 ls hl => ?_)
                    have h := h x74 ex74
                    have hl : lv_has ls 9 [(7, .int (J x74)), (0, .ref (rA o a0)), (2, .int (J x3)), (3, .int (J x5)), (4, .int (J x7)), (5, .int (J x9)), (6, .int (J x43))] := hl
                    refine lv_goto (tgt := 144) hx hb dX11_lists_224 (by decide) ?_
                    obtain ⟨n75, ln75, iI51⟩ := h
                    exact rI51 n75 ln75 x74 M72 iI51 H locs hG ls (lv_sub hl [1, 2, 3, 4, 5, 6, 0] rfl)
                  obtain ⟨g77, h⟩ := h
                  refine j_if_eq (tgt := 221) hx hb dX11_lists_165 (by decide) g77 (fun c76 => ?_) (fun c76 => ?_)
                  · have h := h.1 c76
                    exact jK73 M50 h H locs hG ls (lv_sub hl [0, 1, 2, 3, 4, 5, 6] rfl)
                  · have h := h.2 c76
                    refine lv_iload hx hb dX11_lists_168 (lv_at hl 5 rfl) ?_
                    refine lv_iload hx hb dX11_lists_170 (lv_at hl 6 rfl) ?_
                    refine j_iadd hx hb dX11_lists_172 ?_
                    refine lv_iload_n hx hb dX11_lists_173 rfl (lv_at hl 2 rfl) ?_
                    obtain ⟨g79, h⟩ := h
                    obtain ⟨g80, h⟩ := h
                    refine j_icmp_lt (tgt := 221) hx hb dX11_lists_174 (by decide) g79 g80 (fun c78 => ?_) (fun c78 => ?_)
                    · have h := h.1 c78
                      exact jK73 M50 h H locs hG ls (lv_sub hl [0, 1, 2, 3, 4, 5, 6] rfl)
                    · have h := h.2 c78
                      refine lv_iload hx hb dX11_lists_177 (lv_at hl 5 rfl) ?_
                      refine lv_iload hx hb dX11_lists_179 (lv_at hl 6 rfl) ?_
                      refine j_iadd hx hb dX11_lists_181 ?_
                      refine lv_sipush (v := J 11688) hx hb dX11_lists_182 (by decide) ?_
                      refine j_icmp_ge (tgt := 221) hx hb dX11_lists_185 (by decide) g79 (by decide) (fun c81 => ?_) (fun c81 => ?_)
                      · have h := h.1 c81
                        exact jK73 M50 h H locs hG ls (lv_sub hl [0, 1, 2, 3, 4, 5, 6] rfl)
                      · have h := h.2 c81
                        refine lv_aload_n hx hb dX11_lists_188 rfl (lv_at hl 0 rfl) ?_
                        refine j_geti hx hb hts hown hK hG (k := a0) (fun w h => List.mem_cons_of_mem _ (u_X11 w h)) (ci := 10) rfl ka0 33 (by decide) (jz := 33) rfl w_fl_RX11_244 dX11_lists_189 ?_
                        refine lv_iload hx hb dX11_lists_192 (lv_at hl 3 rfl) ?_
                        obtain ⟨g83, h⟩ := h
                        obtain ⟨g84, h⟩ := h
                        refine j_icmp_ne (tgt := 200) hx hb dX11_lists_194 (by decide) g83 g84 (fun c82 => ?_) (fun c82 => ?_)
                        · have h := h.1 c82
                          refine lv_aload_n hx hb dX11_lists_200 rfl (lv_at hl 0 rfl) ?_
                          refine j_getr hx hb hts hown hK hG (k := a0) (fun w h => List.mem_cons_of_mem _ (u_X11 w h)) (ci := 10) rfl ka0 32 (k2 := a0 + 19) (by decide) (by show a0 + (19 : Int) = a0 + 19; omega) w_fl_RX11_71 dX11_lists_201 ?_
                          refine lv_aload_n hx hb dX11_lists_204 rfl (lv_at hl 0 rfl) ?_
                          refine lv_dup hx hb dX11_lists_205 rfl ?_
                          refine j_geti hx hb hts hown hK hG (k := a0) (fun w h => List.mem_cons_of_mem _ (u_X11 w h)) (ci := 10) rfl ka0 33 (by decide) (jz := 33) rfl w_fl_RX11_244 dX11_lists_206 ?_
                          refine lv_dup_x1 hx hb dX11_lists_209 rfl rfl ?_
                          refine lv_iconst (v := J 1) hx hb dX11_lists_210 (by decide) ?_
                          refine j_iadd hx hb dX11_lists_211 ?_
                          refine j_puti hx hb hts hown hK hG (k := a0) (fun w h => List.mem_cons_of_mem _ (u_X11 w h)) tyX11 tyX11_ok nmX11 (ci := 10) rfl ka0 33 (by decide) (jz := 33) rfl w_fl_RX11_244 (hd := rfl) (hn := rfl) (hfit := rfl) (hdg := dX11_lists_212) (fun M85 eM85 H locs hG => ?_)
                          have h := h M85 eM85
                          refine lv_iload hx hb dX11_lists_215 (lv_at hl 5 rfl) ?_
                          refine lv_iload hx hb dX11_lists_217 (lv_at hl 6 rfl) ?_
                          refine j_iadd hx hb dX11_lists_219 ?_
                          obtain ⟨g86, h⟩ := h
                          refine j_iast hx hb hK hG (n := 40) (kf_11_32 ka0) (by decide) g86 dX11_lists_220 (fun M87 eM87 H locs hG => ?_)
                          have h := h M87 eM87
                          exact jK73 M87 h H locs hG ls (lv_sub hl [0, 1, 2, 3, 4, 5, 6] rfl)
                        · have h := h.2 c82
                          refine lv_goto (tgt := 221) hx hb dX11_lists_197 (by decide) ?_
                          exact jK73 M50 h H locs hG ls (lv_sub hl [0, 1, 2, 3, 4, 5, 6] rfl)
            exact lI51 n52s 0 M44 iI51 H locs hG ls (lv_sub hl [1, 2, 3, 4, 5, 6, 0] rfl)
      exact lI45 n46s x42 M10 iI45 H locs hG ls (lv_sub hl [5, 4, 3, 2, 1, 0] rfl)
    · have c13 : M10 (a0 + 1) (x3 + 6) ≠ 0 ∧ M10 (a0 + 1) (x3 + 6) ≠ 1 := ⟨c13_0, c13_1⟩
      have h := h.2.2 c13
      refine j_lswd hx hb dX11_lists_49 g12 (tgt := 241) (by simp only [Op.lookupswitch.offset_cons, Op.lookupswitch.offset]; repeat (rw [if_neg (by omega)])) (by decide) (by decide) ?_
      refine lv_aload_n hx hb dX11_lists_241 rfl (lv_at hl 4 rfl) ?_
      refine j_getr hx hb hts hown hK hG (k := a0) (fun w h => List.mem_cons_of_mem _ (u_X11 w h)) (ci := 10) rfl ka0 1 (k2 := a0 + 1) (by decide) (by show a0 + (1 : Int) = a0 + 1; omega) w_fl_RX11_9 dX11_lists_242 ?_
      refine lv_iload_n hx hb dX11_lists_245 rfl (lv_at hl 3 rfl) ?_
      refine lv_bipush (v := J 6) hx hb dX11_lists_246 (by decide) ?_
      refine j_iadd hx hb dX11_lists_248 ?_
      refine j_iald hx hb hK hG (n := 1294) (kf_11_1 ka0) (by decide) g11 dX11_lists_249 ?_
      refine lv_iconst (v := J 2) hx hb dX11_lists_250 (by decide) ?_
      obtain ⟨K98, hK98, h⟩ := h
      have jK98 : ∀ (x97 : Int), K98 x97 → ∀ (H : Heap) (locs : List Loc), GM D cy o M10 s.heap H locs → ∀ ls : Array Slot, lv_has ls 9 [(0, .ref (rA o a0)), (3, .int (J x5)), (4, .int (J x7)), (5, .int (J x9))] → W p l e rm_X11_lists s m args below meth c H locs 0 0 Qf (F0 m 280 ls [.int (J x97)]) := by
        intro x97 hcK98 H locs hG ls hl
        have h := hK98 x97 hcK98
        refine lv_istore (lv' := [(6, .int (J x97)), (0, .ref (rA o a0)), (3, .int (J x5)), (4, .int (J x7)), (5, .int (J x9))]) hx hb dX11_lists_280 hl (by decide) rfl (fun ls hl => ?_)
        refine lv_bipush (v := J 12) hx hb dX11_lists_282 (by decide) ?_
        refine lv_iload_n hx hb dX11_lists_284 rfl (lv_at hl 2 rfl) ?_
        refine j_conti (va_runS (As := [.int (J x5)]) (rest := [.int (J 12)]) ⟨hx, hb, hml, hown, hts⟩ (A_X11_yearOf l h) (va_cwS 1 hts (gj_S ml_RX11_97 i_X11_yearOf n_RX11 k_X11_yearOf) rfl rfl rfl (by decide +kernel) ⟨by exact Nat.le_of_ble_eq_true rfl, by exact Nat.le_of_ble_eq_true rfl⟩) (j_preS hK hSX hG) rfl rfl hl.1 rfl (lv_room (Nat.le_of_ble_eq_true rfl)) dX11_lists_285 ⟨by exact Nat.le_of_ble_eq_true rfl, by exact Nat.le_of_ble_eq_true rfl⟩) hG (c2 := 0) (s2 := 0) ⟨by exact Nat.le_of_ble_eq_true rfl, by exact Nat.le_of_ble_eq_true rfl⟩ (fun z99 M100 h H locs hG => ?_)
        obtain ⟨h, eM100⟩ := h
        rw [eM100] at hG
        refine j_imul hx hb dX11_lists_288 ?_
        refine lv_iload_n hx hb dX11_lists_289 rfl (lv_at hl 2 rfl) ?_
        refine j_conti (va_runS (As := [.int (J x5)]) (rest := [.int (J (12 * z99))]) ⟨hx, hb, hml, hown, hts⟩ (A_X11_monthOf l h) (va_cwS 1 hts (gj_S ml_RX11_103 i_X11_monthOf n_RX11 k_X11_monthOf) rfl rfl rfl (by decide +kernel) ⟨by exact Nat.le_of_ble_eq_true rfl, by exact Nat.le_of_ble_eq_true rfl⟩) (j_preS hK hSX hG) rfl rfl hl.1 rfl (lv_room (Nat.le_of_ble_eq_true rfl)) dX11_lists_290 ⟨by exact Nat.le_of_ble_eq_true rfl, by exact Nat.le_of_ble_eq_true rfl⟩) hG (c2 := 0) (s2 := 0) ⟨by exact Nat.le_of_ble_eq_true rfl, by exact Nat.le_of_ble_eq_true rfl⟩ (fun z101 M102 h H locs hG => ?_)
        obtain ⟨h, eM102⟩ := h
        rw [eM102] at hG
        refine j_iadd hx hb dX11_lists_293 ?_
        refine lv_iconst (v := J 1) hx hb dX11_lists_294 (by decide) ?_
        refine j_isub hx hb dX11_lists_295 ?_
        refine j_topi (fun x103 ex103 => ?_)
        have h := h x103 ex103
        refine lv_istore (lv' := [(7, .int (J x103)), (6, .int (J x97)), (0, .ref (rA o a0)), (3, .int (J x5)), (4, .int (J x7)), (5, .int (J x9))]) hx hb dX11_lists_296 hl (by decide) rfl (fun ls hl => ?_)
        obtain ⟨I106, ⟨n107s, iI106⟩, qI106⟩ := h
        have lI106 : ∀ (n107 : Nat) (x104 : Int) (M105 : jT), I106 n107 x104 M105 → ∀ (H : Heap) (locs : List Loc), GM D cy o M105 s.heap H locs → ∀ ls : Array Slot, lv_has ls 9 [(0, .ref (rA o a0)), (4, .int (J x7)), (5, .int (J x9)), (6, .int (J x97)), (7, .int (J x104))] → W p l e rm_X11_lists s m args below meth c H locs 0 0 Qf (F0 m 298 ls []) := by
          intro n107
          induction n107 using Nat.strongRecOn with
          | ind n107 rI106 =>
            intro x104 M105 iI106 H locs hG ls hl
            have h := qI106 n107 x104 M105 iI106
            refine lv_iload hx hb dX11_lists_298 (lv_at hl 4 rfl) ?_
            refine lv_sipush (v := J 384) hx hb dX11_lists_300 (by decide) ?_
            obtain ⟨K146, hK146, h⟩ := h
            have jK146 : K146 → ∀ (H : Heap) (locs : List Loc), GM D cy o M105 s.heap H locs → ∀ ls : Array Slot, lv_has ls 9 [] → W p l e rm_X11_lists s m args below meth c H locs 0 0 Qf (F0 m 394 ls []) := by
              intro hcK146 H locs hG ls hl
              have h := hK146 hcK146
              rw [hQf]
              exact j_vret hx hb hr hlocks hG h (by decide) dX11_lists_394
            obtain ⟨g148, h⟩ := h
            refine j_icmp_ge (tgt := 394) hx hb dX11_lists_303 (by decide) g148 (by decide) (fun c147 => ?_) (fun c147 => ?_)
            · have h := h.1 c147
              exact jK146 h H locs hG ls (lv_sub hl [] rfl)
            · have h := h.2 c147
              refine lv_aload_n hx hb dX11_lists_306 rfl (lv_at hl 0 rfl) ?_
              refine j_geti hx hb hts hown hK hG (k := a0) (fun w h => List.mem_cons_of_mem _ (u_X11 w h)) (ci := 10) rfl ka0 33 (by decide) (jz := 33) rfl w_fl_RX11_244 dX11_lists_307 ?_
              refine lv_iload hx hb dX11_lists_310 (lv_at hl 1 rfl) ?_
              obtain ⟨g150, h⟩ := h
              obtain ⟨g151, h⟩ := h
              refine j_icmp_ge (tgt := 394) hx hb dX11_lists_312 (by decide) g150 g151 (fun c149 => ?_) (fun c149 => ?_)
              · have h := h.1 c149
                exact jK146 h H locs hG ls (lv_sub hl [] rfl)
              · have h := h.2 c149
                refine lv_iload hx hb dX11_lists_315 (lv_at hl 3 rfl) ?_
                refine lv_sipush (v := J 500) hx hb dX11_lists_317 (by decide) ?_
                refine lv_sipush (v := J 506) hx hb dX11_lists_320 (by decide) ?_
                obtain ⟨g152, h⟩ := h
                refine j_conti (va_runS (As := [.int (J x97), .int (J 500), .int (J 506)]) (rest := []) ⟨hx, hb, hml, hown, hts⟩ (A_X11_in l g152) (va_cwS 3 hts (gj_S ml_RX11_106 i_X11_in n_RX11 k_X11_in) rfl rfl rfl (by decide +kernel) ⟨by exact Nat.le_of_ble_eq_true rfl, by exact Nat.le_of_ble_eq_true rfl⟩) (j_preS hK hSX hG) rfl rfl hl.1 rfl (lv_room (Nat.le_of_ble_eq_true rfl)) dX11_lists_323 ⟨by exact Nat.le_of_ble_eq_true rfl, by exact Nat.le_of_ble_eq_true rfl⟩) hG (c2 := 0) (s2 := 0) ⟨by exact Nat.le_of_ble_eq_true rfl, by exact Nat.le_of_ble_eq_true rfl⟩ (fun z153 M154 ez153 H locs hG => ?_)
                obtain ⟨ez153, eM154⟩ := ez153
                subst ez153
                rw [eM154] at hG
                obtain ⟨K163, hK163, h⟩ := h
                have jK163 : ∀ (x162 : Int), K163 x162 → ∀ (H : Heap) (locs : List Loc), GM D cy o M105 s.heap H locs → ∀ ls : Array Slot, lv_has ls 9 [(0, .ref (rA o a0)), (4, .int (J x7)), (5, .int (J x9)), (6, .int (J x97)), (7, .int (J x104))] → W p l e rm_X11_lists s m args below meth c H locs 0 0 Qf (F0 m 359 ls [.int (J x162)]) := by
                  intro x162 hcK163 H locs hG ls hl
                  have h := hK163 x162 hcK163
                  refine lv_istore (lv' := [(8, .int (J x162)), (0, .ref (rA o a0)), (4, .int (J x7)), (5, .int (J x9)), (6, .int (J x97)), (7, .int (J x104))]) hx hb dX11_lists_359 hl (by decide) rfl (fun ls hl => ?_)
                  refine lv_iload hx hb dX11_lists_361 (lv_at hl 0 rfl) ?_
                  obtain ⟨K170, hK170, h⟩ := h
                  have jK170 : ∀ (M169 : jT), K170 M169 → ∀ (H : Heap) (locs : List Loc), GM D cy o M169 s.heap H locs → ∀ ls : Array Slot, lv_has ls 9 [(0, .ref (rA o a0)), (4, .int (J x7)), (5, .int (J x9)), (6, .int (J x97)), (7, .int (J x104))] → W p l e rm_X11_lists s m args below meth c H locs 0 0 Qf (F0 m 384 ls []) := by
                    intro M169 hcK170 H locs hG ls hl
                    have h := hK170 M169 hcK170
                    refine lv_iload hx hb dX11_lists_384 (lv_at hl 4 rfl) ?_
                    refine lv_iload hx hb dX11_lists_386 (lv_at hl 2 rfl) ?_
                    refine j_iadd hx hb dX11_lists_388 ?_
                    refine j_topi (fun x171 ex171 => ?_)
                    have h := h x171 ex171
                    refine lv_istore (lv' := [(7, .int (J x171)), (0, .ref (rA o a0)), (4, .int (J x7)), (5, .int (J x9)), (6, .int (J x97))]) hx hb dX11_lists_389 hl (by decide) rfl (fun ls hl => ?_)
                    refine lv_goto (tgt := 298) hx hb dX11_lists_391 (by decide) ?_
                    obtain ⟨n172, ln172, iI106⟩ := h
                    exact rI106 n172 ln172 x171 M169 iI106 H locs hG ls (lv_sub hl [1, 2, 3, 4, 0] rfl)
                  obtain ⟨g174, h⟩ := h
                  refine j_if_lt (tgt := 384) hx hb dX11_lists_363 (by decide) g174 (fun c173 => ?_) (fun c173 => ?_)
                  · have h := h.1 c173
                    exact jK170 M105 h H locs hG ls (lv_sub hl [1, 2, 3, 4, 5] rfl)
                  · have h := h.2 c173
                    refine lv_aload_n hx hb dX11_lists_366 rfl (lv_at hl 1 rfl) ?_
                    refine j_getr hx hb hts hown hK hG (k := a0) (fun w h => List.mem_cons_of_mem _ (u_X11 w h)) (ci := 10) rfl ka0 32 (k2 := a0 + 19) (by decide) (by show a0 + (19 : Int) = a0 + 19; omega) w_fl_RX11_71 dX11_lists_367 ?_
                    refine lv_aload_n hx hb dX11_lists_370 rfl (lv_at hl 1 rfl) ?_
                    refine lv_dup hx hb dX11_lists_371 rfl ?_
                    refine j_geti hx hb hts hown hK hG (k := a0) (fun w h => List.mem_cons_of_mem _ (u_X11 w h)) (ci := 10) rfl ka0 33 (by decide) (jz := 33) rfl w_fl_RX11_244 dX11_lists_372 ?_
                    refine lv_dup_x1 hx hb dX11_lists_375 rfl rfl ?_
                    refine lv_iconst (v := J 1) hx hb dX11_lists_376 (by decide) ?_
                    refine j_iadd hx hb dX11_lists_377 ?_
                    refine j_puti hx hb hts hown hK hG (k := a0) (fun w h => List.mem_cons_of_mem _ (u_X11 w h)) tyX11 tyX11_ok nmX11 (ci := 10) rfl ka0 33 (by decide) (jz := 33) rfl w_fl_RX11_244 (hd := rfl) (hn := rfl) (hfit := rfl) (hdg := dX11_lists_378) (fun M175 eM175 H locs hG => ?_)
                    have h := h M175 eM175
                    refine lv_iload hx hb dX11_lists_381 (lv_at hl 0 rfl) ?_
                    obtain ⟨g176, h⟩ := h
                    refine j_iast hx hb hK hG (n := 40) (kf_11_32 ka0) (by decide) g176 dX11_lists_383 (fun M177 eM177 H locs hG => ?_)
                    have h := h M177 eM177
                    exact jK170 M177 h H locs hG ls (lv_sub hl [1, 2, 3, 4, 5] rfl)
                refine j_if_eq_b (tgt := 342) hx hb dX11_lists_326 (by decide) (fun c178 => ?_) (fun c178 => ?_)
                · have h := h.1 c178
                  refine lv_iload hx hb dX11_lists_342 (lv_at hl 3 rfl) ?_
                  refine lv_iload hx hb dX11_lists_344 (lv_at hl 4 rfl) ?_
                  refine lv_bipush (v := J 12) hx hb dX11_lists_346 (by decide) ?_
                  obtain ⟨g179, h⟩ := h
                  refine j_idiv hx hb dX11_lists_348 g179 (by decide) ?_
                  refine lv_iload hx hb dX11_lists_349 (lv_at hl 4 rfl) ?_
                  refine lv_bipush (v := J 12) hx hb dX11_lists_351 (by decide) ?_
                  refine j_irem hx hb dX11_lists_353 g179 (by decide) ?_
                  refine lv_iconst (v := J 1) hx hb dX11_lists_354 (by decide) ?_
                  refine j_iadd hx hb dX11_lists_355 ?_
                  refine j_conti (va_runS (As := [.int (J x97), .int (J (x104 / 12)), .int (J ((x104 % 12) + 1))]) (rest := []) ⟨hx, hb, hml, hown, hts⟩ (A_X11_dayBy l h) (va_cwS 3 hts (gj_S ml_RX11_174 i_X11_dayBy n_RX11 k_X11_dayBy) rfl rfl rfl (by decide +kernel) ⟨by exact Nat.le_of_ble_eq_true rfl, by exact Nat.le_of_ble_eq_true rfl⟩) (j_preS hK hSX hG) rfl rfl hl.1 rfl (lv_room (Nat.le_of_ble_eq_true rfl)) dX11_lists_356 ⟨by exact Nat.le_of_ble_eq_true rfl, by exact Nat.le_of_ble_eq_true rfl⟩) hG (c2 := 0) (s2 := 0) ⟨by exact Nat.le_of_ble_eq_true rfl, by exact Nat.le_of_ble_eq_true rfl⟩ (fun z180 M181 h H locs hG => ?_)
                  obtain ⟨h, eM181⟩ := h
                  rw [eM181] at hG
                  exact jK163 z180 h H locs hG ls (lv_sub hl [0, 1, 2, 3, 4] rfl)
                · have h := h.2 c178
                  refine lv_iload hx hb dX11_lists_329 (lv_at hl 4 rfl) ?_
                  refine lv_iload hx hb dX11_lists_331 (lv_at hl 3 rfl) ?_
                  refine lv_bipush (v := J 100) hx hb dX11_lists_333 (by decide) ?_
                  obtain ⟨g182, h⟩ := h
                  refine j_irem hx hb dX11_lists_335 g182 (by decide) ?_
                  refine j_conti (va_runS (As := [.int (J x104), .int (J (x97 % 100))]) (rest := []) ⟨hx, hb, hml, hown, hts⟩ (A_X11_fifth l h) (va_cwS 2 hts (gj_S ml_RX11_247 i_X11_fifth n_RX11 k_X11_fifth) rfl rfl rfl (by decide +kernel) ⟨by exact Nat.le_of_ble_eq_true rfl, by exact Nat.le_of_ble_eq_true rfl⟩) (j_preS hK hSX hG) rfl rfl hl.1 rfl (lv_room (Nat.le_of_ble_eq_true rfl)) dX11_lists_336 ⟨by exact Nat.le_of_ble_eq_true rfl, by exact Nat.le_of_ble_eq_true rfl⟩) hG (c2 := 0) (s2 := 0) ⟨by exact Nat.le_of_ble_eq_true rfl, by exact Nat.le_of_ble_eq_true rfl⟩ (fun z183 M184 h H locs hG => ?_)
                  obtain ⟨h, eM184⟩ := h
                  rw [eM184] at hG
                  refine lv_goto (tgt := 359) hx hb dX11_lists_339 (by decide) ?_
                  exact jK163 z183 h H locs hG ls (lv_sub hl [0, 1, 2, 3, 4] rfl)
        exact lI106 n107s x103 M10 iI106 H locs hG ls (lv_sub hl [2, 4, 5, 1, 0] rfl)
      refine j_icmp_ne (tgt := 261) hx hb dX11_lists_251 (by decide) g12 (by decide) (fun c185 => ?_) (fun c185 => ?_)
      · have h := h.1 c185
        refine lv_bipush (v := J 100) hx hb dX11_lists_261 (by decide) ?_
        refine lv_iload_n hx hb dX11_lists_263 rfl (lv_at hl 2 rfl) ?_
        refine j_conti (va_runS (As := [.int (J x5)]) (rest := [.int (J 100)]) ⟨hx, hb, hml, hown, hts⟩ (A_X11_dayOfMonth l h) (va_cwS 1 hts (gj_S ml_RX11_117 i_X11_dayOfMonth n_RX11 k_X11_dayOfMonth) rfl rfl rfl (by decide +kernel) ⟨by exact Nat.le_of_ble_eq_true rfl, by exact Nat.le_of_ble_eq_true rfl⟩) (j_preS hK hSX hG) rfl rfl hl.1 rfl (lv_room (Nat.le_of_ble_eq_true rfl)) dX11_lists_264 ⟨by exact Nat.le_of_ble_eq_true rfl, by exact Nat.le_of_ble_eq_true rfl⟩) hG (c2 := 0) (s2 := 0) ⟨by exact Nat.le_of_ble_eq_true rfl, by exact Nat.le_of_ble_eq_true rfl⟩ (fun z186 M187 h H locs hG => ?_)
        obtain ⟨h, eM187⟩ := h
        rw [eM187] at hG
        refine lv_iconst (v := J 1) hx hb dX11_lists_267 (by decide) ?_
        refine j_isub hx hb dX11_lists_268 ?_
        refine lv_bipush (v := J 7) hx hb dX11_lists_269 (by decide) ?_
        obtain ⟨g188, h⟩ := h
        refine j_idiv hx hb dX11_lists_271 g188 (by decide) ?_
        refine lv_iconst (v := J 1) hx hb dX11_lists_272 (by decide) ?_
        refine j_iadd hx hb dX11_lists_273 ?_
        refine j_imul hx hb dX11_lists_274 ?_
        refine lv_iload_n hx hb dX11_lists_275 rfl (lv_at hl 2 rfl) ?_
        obtain ⟨g189, h⟩ := h
        refine j_conti (va_runS (As := [.int (J x5)]) (rest := [.int (J (100 * (((z186 - 1) / 7) + 1)))]) ⟨hx, hb, hml, hown, hts⟩ (A_X11_weekday l g189) (va_cwS 1 hts (gj_S ml_RX11_120 i_X11_weekday n_RX11 k_X11_weekday) rfl rfl rfl (by decide +kernel) ⟨by exact Nat.le_of_ble_eq_true rfl, by exact Nat.le_of_ble_eq_true rfl⟩) (j_preS hK hSX hG) rfl rfl hl.1 rfl (lv_room (Nat.le_of_ble_eq_true rfl)) dX11_lists_276 ⟨by exact Nat.le_of_ble_eq_true rfl, by exact Nat.le_of_ble_eq_true rfl⟩) hG (c2 := 0) (s2 := 0) ⟨by exact Nat.le_of_ble_eq_true rfl, by exact Nat.le_of_ble_eq_true rfl⟩ (fun z190 M191 ez190 H locs hG => ?_)
        obtain ⟨ez190, eM191⟩ := ez190
        subst ez190
        rw [eM191] at hG
        refine j_iadd hx hb dX11_lists_279 ?_
        exact jK98 ((100 * (((z186 - 1) / 7) + 1)) + (pf_X11_weekday x5)) h H locs hG ls (lv_sub hl [4, 2, 1, 0] rfl)
      · have h := h.2 c185
        refine lv_iload_n hx hb dX11_lists_254 rfl (lv_at hl 2 rfl) ?_
        refine j_conti (va_runS (As := [.int (J x5)]) (rest := []) ⟨hx, hb, hml, hown, hts⟩ (A_X11_dayOfMonth l h) (va_cwS 1 hts (gj_S ml_RX11_117 i_X11_dayOfMonth n_RX11 k_X11_dayOfMonth) rfl rfl rfl (by decide +kernel) ⟨by exact Nat.le_of_ble_eq_true rfl, by exact Nat.le_of_ble_eq_true rfl⟩) (j_preS hK hSX hG) rfl rfl hl.1 rfl (lv_room (Nat.le_of_ble_eq_true rfl)) dX11_lists_255 ⟨by exact Nat.le_of_ble_eq_true rfl, by exact Nat.le_of_ble_eq_true rfl⟩) hG (c2 := 0) (s2 := 0) ⟨by exact Nat.le_of_ble_eq_true rfl, by exact Nat.le_of_ble_eq_true rfl⟩ (fun z192 M193 h H locs hG => ?_)
        obtain ⟨h, eM193⟩ := h
        rw [eM193] at hG
        refine lv_goto (tgt := 280) hx hb dX11_lists_258 (by decide) ?_
        exact jK98 z192 h H locs hG ls (lv_sub hl [4, 2, 1, 0] rfl)

abbrev rm_X11_isOccurrence : Room := { frames := 5, cells := 0, slots := 0, locals := 121 }
set_option maxRecDepth 100000 in
set_option maxHeartbeats 4000000 in
theorem A_X11_isOccurrence (l : Launch) {D : va_G} {cy : Nat → ClassId} {o : Nat} {sK sV : Nat → Nat} {M : jT} {a0 : Int} {a1 : Int} {a2 : Int} (ka0 : kd a0 = 11) {Q : Int → jT → Prop} (h : wp_X11_isOccurrence M a0 a1 a2 Q) : CoI l yX11_isOccurrence (wj yX11_isOccurrence cX11_isOccurrence 3 (some .boolean)) rm_X11_isOccurrence D cy o sK sV M [.ref (rA o a0), .int (J a1), .int (J a2)] Q := by
  refine j_ofW (cc := cX11_isOccurrence) (maxL := 3) (ret := (some .boolean)) (by decide) rfl (Nat.le_of_ble_eq_true rfl) ?_
  intro p e s m args below meth c hx hb hr hlocks hml hown hts hK hSX H locs hG ls hl Qf hQf
  have hown : s.vm.findClass RX11 = some m.cls := hown
  have hl : lv_has ls 3 [(0, .ref (rA o a0)), (1, .int (J a1)), (2, .int (J a2))] := hl
  have w_fl_RX11_244 := hts _ (List.mem_cons_of_mem _ fl_RX11_244)
  unfold wp_X11_isOccurrence at h
  refine lv_aload_n hx hb dX11_isOccurrence_0 rfl (lv_at hl 0 rfl) ?_
  refine lv_iload_n hx hb dX11_isOccurrence_1 rfl (lv_at hl 1 rfl) ?_
  obtain ⟨g1, h⟩ := h
  refine j_conti (va_runV (As := [.int (J a1)]) (rest := []) ⟨hx, hb, hml, hown, hts⟩ (A_X11_isMeeting l ka0 g1) (cwV 1 hts (gj_V ml_RX11_238 i_X11_isMeeting s_X11_isMeeting n_RX11 k_X11_isMeeting) rfl rfl rfl (by decide +kernel) ⟨by exact Nat.le_of_ble_eq_true rfl, by exact Nat.le_of_ble_eq_true rfl⟩) (j_preV hK hSX hG (ci := 10) rfl ka0 (by decide)) rfl rfl hl.1 rfl (lv_room (Nat.le_of_ble_eq_true rfl)) dX11_isOccurrence_2 ⟨by exact Nat.le_of_ble_eq_true rfl, by exact Nat.le_of_ble_eq_true rfl⟩) hG (c2 := 0) (s2 := 0) ⟨by exact Nat.le_of_ble_eq_true rfl, by exact Nat.le_of_ble_eq_true rfl⟩ (fun z2 M3 ez2 H locs hG => ?_)
  obtain ⟨ez2, eM3⟩ := ez2
  subst ez2
  rw [eM3] at hG
  refine j_if_ne_b (tgt := 10) hx hb dX11_isOccurrence_5 (by decide) (fun c4 => ?_) (fun c4 => ?_)
  · have h := h.1 c4
    refine lv_aload_n hx hb dX11_isOccurrence_10 rfl (lv_at hl 0 rfl) ?_
    refine lv_iload_n hx hb dX11_isOccurrence_11 rfl (lv_at hl 1 rfl) ?_
    refine j_contv (va_runV (As := [.int (J a1)]) (rest := []) ⟨hx, hb, hml, hown, hts⟩ (A_X11_lists l ka0 h) (cwV 1 hts (gj_V ml_RX11_241 i_X11_lists s_X11_lists n_RX11 k_X11_lists) rfl rfl rfl (by decide +kernel) ⟨by exact Nat.le_of_ble_eq_true rfl, by exact Nat.le_of_ble_eq_true rfl⟩) (j_preV hK hSX hG (ci := 10) rfl ka0 (by decide)) rfl rfl hl.1 rfl (lv_room (Nat.le_of_ble_eq_true rfl)) dX11_isOccurrence_12 ⟨by exact Nat.le_of_ble_eq_true rfl, by exact Nat.le_of_ble_eq_true rfl⟩) hG (c2 := 0) (s2 := 0) ⟨by exact Nat.le_of_ble_eq_true rfl, by exact Nat.le_of_ble_eq_true rfl⟩ (fun M6 h H locs hG => ?_)
    refine lv_iload_n hx hb dX11_isOccurrence_15 rfl (lv_at hl 2 rfl) ?_
    refine lv_iconst (v := J 0) hx hb dX11_isOccurrence_16 (by decide) ?_
    refine lv_aload_n hx hb dX11_isOccurrence_17 rfl (lv_at hl 0 rfl) ?_
    refine j_geti hx hb hts hown hK hG (k := a0) (fun w h => List.mem_cons_of_mem _ (u_X11 w h)) (ci := 10) rfl ka0 33 (by decide) (jz := 33) rfl w_fl_RX11_244 dX11_isOccurrence_18 ?_
    refine lv_iconst (v := J 1) hx hb dX11_isOccurrence_21 (by decide) ?_
    refine j_isub hx hb dX11_isOccurrence_22 ?_
    obtain ⟨g7, h⟩ := h
    refine j_conti (va_runS (As := [.int (J a2), .int (J 0), .int (J ((M6 a0 33) - 1))]) (rest := []) ⟨hx, hb, hml, hown, hts⟩ (A_X11_in l g7) (va_cwS 3 hts (gj_S ml_RX11_106 i_X11_in n_RX11 k_X11_in) rfl rfl rfl (by decide +kernel) ⟨by exact Nat.le_of_ble_eq_true rfl, by exact Nat.le_of_ble_eq_true rfl⟩) (j_preS hK hSX hG) rfl rfl hl.1 rfl (lv_room (Nat.le_of_ble_eq_true rfl)) dX11_isOccurrence_23 ⟨by exact Nat.le_of_ble_eq_true rfl, by exact Nat.le_of_ble_eq_true rfl⟩) hG (c2 := 0) (s2 := 0) ⟨by exact Nat.le_of_ble_eq_true rfl, by exact Nat.le_of_ble_eq_true rfl⟩ (fun z8 M9 ez8 H locs hG => ?_)
    obtain ⟨ez8, eM9⟩ := ez8
    subst ez8
    rw [eM9] at hG
    rw [hQf]
    exact j_iretn hx hb hr hlocks (nar_b (b2i_rng _)) hG h (by decide) dX11_isOccurrence_26
  · have h := h.2 c4
    refine lv_iconst (v := J 0) hx hb dX11_isOccurrence_8 (by decide) ?_
    rw [hQf]
    exact j_iretn hx hb hr hlocks (nar_b (by decide)) hG h (by decide) dX11_isOccurrence_9

abbrev rm_X11_cancelBy : Room := { frames := 6, cells := 0, slots := 0, locals := 143 }
set_option maxRecDepth 100000 in
set_option maxHeartbeats 4000000 in
theorem A_X11_cancelBy (l : Launch) {D : va_G} {cy : Nat → ClassId} {o : Nat} {sK sV : Nat → Nat} {M : jT} {a0 : Int} {a1 : Int} {a2 : Int} (ka0 : kd a0 = 11) {Q : Int → jT → Prop} (h : wp_X11_cancelBy M a0 a1 a2 Q) : CoI l yX11_cancelBy (wj yX11_cancelBy cX11_cancelBy 4 (some .int)) rm_X11_cancelBy D cy o sK sV M [.ref (rA o a0), .int (J a1), .int (J a2)] Q := by
  refine j_ofW (cc := cX11_cancelBy) (maxL := 4) (ret := (some .int)) (by decide) rfl (Nat.le_of_ble_eq_true rfl) ?_
  intro p e s m args below meth c hx hb hr hlocks hml hown hts hK hSX H locs hG ls hl Qf hQf
  have hown : s.vm.findClass RX11 = some m.cls := hown
  have hl : lv_has ls 4 [(0, .ref (rA o a0)), (1, .int (J a1)), (2, .int (J a2))] := hl
  have w_fl_RX11_9 := hts _ (List.mem_cons_of_mem _ fl_RX11_9)
  unfold wp_X11_cancelBy at h
  refine lv_aload_n hx hb dX11_cancelBy_0 rfl (lv_at hl 0 rfl) ?_
  refine lv_iload_n hx hb dX11_cancelBy_1 rfl (lv_at hl 1 rfl) ?_
  refine lv_iload_n hx hb dX11_cancelBy_2 rfl (lv_at hl 2 rfl) ?_
  refine j_conti (va_runV (As := [.int (J a1), .int (J a2)]) (rest := []) ⟨hx, hb, hml, hown, hts⟩ (A_X11_isOccurrence l ka0 h) (cwV 2 hts (gj_V ml_RX11_142 i_X11_isOccurrence s_X11_isOccurrence n_RX11 k_X11_isOccurrence) rfl rfl rfl (by decide +kernel) ⟨by exact Nat.le_of_ble_eq_true rfl, by exact Nat.le_of_ble_eq_true rfl⟩) (j_preV hK hSX hG (ci := 10) rfl ka0 (by decide)) rfl rfl hl.1 rfl (lv_room (Nat.le_of_ble_eq_true rfl)) dX11_cancelBy_3 ⟨by exact Nat.le_of_ble_eq_true rfl, by exact Nat.le_of_ble_eq_true rfl⟩) hG (c2 := 0) (s2 := 0) ⟨by exact Nat.le_of_ble_eq_true rfl, by exact Nat.le_of_ble_eq_true rfl⟩ (fun z1 M2 h H locs hG => ?_)
  obtain ⟨g4, h⟩ := h
  refine j_if_ne (tgt := 11) hx hb dX11_cancelBy_6 (by decide) g4 (fun c3 => ?_) (fun c3 => ?_)
  · have h := h.1 c3
    refine lv_iload_n hx hb dX11_cancelBy_11 rfl (lv_at hl 1 rfl) ?_
    refine j_conti (va_runS (As := [.int (J a1)]) (rest := []) ⟨hx, hb, hml, hown, hts⟩ (A_X11_meetingAt l) (va_cwS 1 hts (gj_S ml_RX11_145 i_X11_meetingAt n_RX11 k_X11_meetingAt) rfl rfl rfl (by decide +kernel) ⟨by exact Nat.le_of_ble_eq_true rfl, by exact Nat.le_of_ble_eq_true rfl⟩) (j_preS hK hSX hG) rfl rfl hl.1 rfl (lv_room (Nat.le_of_ble_eq_true rfl)) dX11_cancelBy_12 ⟨by exact Nat.le_of_ble_eq_true rfl, by exact Nat.le_of_ble_eq_true rfl⟩) hG (c2 := 0) (s2 := 0) ⟨by exact Nat.le_of_ble_eq_true rfl, by exact Nat.le_of_ble_eq_true rfl⟩ (fun z5 M6 ez5 H locs hG => ?_)
    obtain ⟨ez5, eM6⟩ := ez5
    subst ez5
    rw [eM6] at hG
    refine lv_bipush (v := J 49) hx hb dX11_cancelBy_15 (by decide) ?_
    refine j_iadd hx hb dX11_cancelBy_17 ?_
    refine lv_iload_n hx hb dX11_cancelBy_18 rfl (lv_at hl 2 rfl) ?_
    refine j_iadd hx hb dX11_cancelBy_19 ?_
    refine j_topi (fun x7 ex7 => ?_)
    have h := h x7 ex7
    refine lv_istore_n (lv' := [(3, .int (J x7)), (0, .ref (rA o a0)), (1, .int (J a1)), (2, .int (J a2))]) hx hb dX11_cancelBy_20 rfl hl (by decide) rfl (fun ls hl => ?_)
    refine lv_aload_n hx hb dX11_cancelBy_21 rfl (lv_at hl 1 rfl) ?_
    refine j_getr hx hb hts hown hK hG (k := a0) (fun w h => List.mem_cons_of_mem _ (u_X11 w h)) (ci := 10) rfl ka0 1 (k2 := a0 + 1) (by decide) (by show a0 + (1 : Int) = a0 + 1; omega) w_fl_RX11_9 dX11_cancelBy_22 ?_
    refine lv_iload_n hx hb dX11_cancelBy_25 rfl (lv_at hl 0 rfl) ?_
    refine lv_iconst (v := J 1) hx hb dX11_cancelBy_26 (by decide) ?_
    refine lv_aload_n hx hb dX11_cancelBy_27 rfl (lv_at hl 1 rfl) ?_
    refine j_getr hx hb hts hown hK hG (k := a0) (fun w h => List.mem_cons_of_mem _ (u_X11 w h)) (ci := 10) rfl ka0 1 (k2 := a0 + 1) (by decide) (by show a0 + (1 : Int) = a0 + 1; omega) w_fl_RX11_9 dX11_cancelBy_28 ?_
    refine lv_iload_n hx hb dX11_cancelBy_31 rfl (lv_at hl 0 rfl) ?_
    obtain ⟨g8, h⟩ := h
    refine j_iald hx hb hK hG (n := 1294) (kf_11_1 ka0) (by decide) g8 dX11_cancelBy_32 ?_
    refine j_isub hx hb dX11_cancelBy_33 ?_
    refine j_iast hx hb hK hG (n := 1294) (kf_11_1 ka0) (by decide) g8 dX11_cancelBy_34 (fun M9 eM9 H locs hG => ?_)
    have h := h M9 eM9
    refine lv_aload_n hx hb dX11_cancelBy_35 rfl (lv_at hl 1 rfl) ?_
    refine j_getr hx hb hts hown hK hG (k := a0) (fun w h => List.mem_cons_of_mem _ (u_X11 w h)) (ci := 10) rfl ka0 1 (k2 := a0 + 1) (by decide) (by show a0 + (1 : Int) = a0 + 1; omega) w_fl_RX11_9 dX11_cancelBy_36 ?_
    refine lv_iload_n hx hb dX11_cancelBy_39 rfl (lv_at hl 0 rfl) ?_
    refine j_iald hx hb hK hG (n := 1294) (kf_11_1 ka0) (by decide) g8 dX11_cancelBy_40 ?_
    rw [hQf]
    exact j_ireti hx hb hr hlocks hG h (by decide) dX11_cancelBy_41
  · have h := h.2 c3
    refine lv_iconst (v := J (-1)) hx hb dX11_cancelBy_9 (by decide) ?_
    rw [hQf]
    exact j_ireti hx hb hr hlocks hG h (by decide) dX11_cancelBy_10

abbrev rm_X11_ends : Room := { frames := 1, cells := 0, slots := 0, locals := 21 }
set_option maxRecDepth 100000 in
set_option maxHeartbeats 4000000 in
theorem A_X11_ends (l : Launch) {D : va_G} {cy : Nat → ClassId} {o : Nat} {sK sV : Nat → Nat} {M : jT} {a0 : Int} {a1 : Int} (ka0 : kd a0 = 11) {Q : Int → jT → Prop} (h : wp_X11_ends M a0 a1 Q) : CoI l yX11_ends (wj yX11_ends cX11_ends 3 (some .int)) rm_X11_ends D cy o sK sV M [.ref (rA o a0), .int (J a1)] Q := by
  refine j_ofW (cc := cX11_ends) (maxL := 3) (ret := (some .int)) (by decide) rfl (Nat.le_of_ble_eq_true rfl) ?_
  intro p e s m args below meth c hx hb hr hlocks hml hown hts hK hSX H locs hG ls hl Qf hQf
  have hown : s.vm.findClass RX11 = some m.cls := hown
  have hl : lv_has ls 3 [(0, .ref (rA o a0)), (1, .int (J a1))] := hl
  have w_fl_RX11_9 := hts _ (List.mem_cons_of_mem _ fl_RX11_9)
  have w_fl_RX11_19 := hts _ (List.mem_cons_of_mem _ fl_RX11_19)
  unfold wp_X11_ends at h
  refine lv_iload_n hx hb dX11_ends_0 rfl (lv_at hl 1 rfl) ?_
  obtain ⟨g2, h⟩ := h
  refine j_if_ge (tgt := 38) hx hb dX11_ends_1 (by decide) g2 (fun c1 => ?_) (fun c1 => ?_)
  · have h := h.1 c1
    refine lv_aload_n hx hb dX11_ends_38 rfl (lv_at hl 0 rfl) ?_
    refine j_contv (va_runV (As := []) (rest := []) ⟨hx, hb, hml, hown, hts⟩ (A_X11_keeps l ka0 h) (cwV 0 hts (gj_V ml_RX11_83 i_X11_keeps s_X11_keeps n_RX11 k_X11_keeps) rfl rfl rfl (by decide +kernel) ⟨by exact Nat.le_of_ble_eq_true rfl, by exact Nat.le_of_ble_eq_true rfl⟩) (j_preV hK hSX hG (ci := 10) rfl ka0 (by decide)) rfl rfl hl.1 rfl (lv_room (Nat.le_of_ble_eq_true rfl)) dX11_ends_39 ⟨by exact Nat.le_of_ble_eq_true rfl, by exact Nat.le_of_ble_eq_true rfl⟩) hG (c2 := 0) (s2 := 0) ⟨by exact Nat.le_of_ble_eq_true rfl, by exact Nat.le_of_ble_eq_true rfl⟩ (fun M4 h H locs hG => ?_)
    refine lv_iload_n hx hb dX11_ends_42 rfl (lv_at hl 1 rfl) ?_
    rw [hQf]
    exact j_ireti hx hb hr hlocks hG h (by decide) dX11_ends_43
  · have h := h.2 c1
    refine lv_iconst (v := J 0) hx hb dX11_ends_4 (by decide) ?_
    refine lv_istore_n (lv' := [(2, .int (J 0)), (0, .ref (rA o a0)), (1, .int (J a1))]) hx hb dX11_ends_5 rfl hl (by decide) rfl (fun ls hl => ?_)
    obtain ⟨I7, ⟨n8s, iI7⟩, qI7⟩ := h
    have lI7 : ∀ (n8 : Nat) (x5 : Int) (M6 : jT), I7 n8 x5 M6 → ∀ (H : Heap) (locs : List Loc), GM D cy o M6 s.heap H locs → ∀ ls : Array Slot, lv_has ls 3 [(0, .ref (rA o a0)), (1, .int (J a1)), (2, .int (J x5))] → W p l e rm_X11_ends s m args below meth c H locs 0 0 Qf (F0 m 6 ls []) := by
      intro n8
      induction n8 using Nat.strongRecOn with
      | ind n8 rI7 =>
        intro x5 M6 iI7 H locs hG ls hl
        have h := qI7 n8 x5 M6 iI7
        refine lv_iload_n hx hb dX11_ends_6 rfl (lv_at hl 2 rfl) ?_
        refine lv_sipush (v := J 1294) hx hb dX11_ends_7 (by decide) ?_
        obtain ⟨g10, h⟩ := h
        refine j_icmp_ge (tgt := 31) hx hb dX11_ends_10 (by decide) g10 (by decide) (fun c9 => ?_) (fun c9 => ?_)
        · have h := h.1 c9
          refine lv_aload_n hx hb dX11_ends_31 rfl (lv_at hl 0 rfl) ?_
          refine lv_iload_n hx hb dX11_ends_32 rfl (lv_at hl 1 rfl) ?_
          refine j_ineg hx hb dX11_ends_33 ?_
          refine j_conti (va_runV (As := [.int (J (-a1))]) (rest := []) ⟨hx, hb, hml, hown, hts⟩ (A_X11_raises l ka0 h) (cwV 1 hts (gj_V ml_RX11_110 i_X11_raises s_X11_raises n_RX11 k_X11_raises) rfl rfl rfl (by decide +kernel) ⟨by exact Nat.le_of_ble_eq_true rfl, by exact Nat.le_of_ble_eq_true rfl⟩) (j_preV hK hSX hG (ci := 10) rfl ka0 (by decide)) rfl rfl hl.1 rfl (lv_room (Nat.le_of_ble_eq_true rfl)) dX11_ends_34 ⟨by exact Nat.le_of_ble_eq_true rfl, by exact Nat.le_of_ble_eq_true rfl⟩) hG (c2 := 0) (s2 := 0) ⟨by exact Nat.le_of_ble_eq_true rfl, by exact Nat.le_of_ble_eq_true rfl⟩ (fun z11 M12 h H locs hG => ?_)
          rw [hQf]
          exact j_ireti hx hb hr hlocks hG h (by decide) dX11_ends_37
        · have h := h.2 c9
          refine lv_aload_n hx hb dX11_ends_13 rfl (lv_at hl 0 rfl) ?_
          refine j_getr hx hb hts hown hK hG (k := a0) (fun w h => List.mem_cons_of_mem _ (u_X11 w h)) (ci := 10) rfl ka0 1 (k2 := a0 + 1) (by decide) (by show a0 + (1 : Int) = a0 + 1; omega) w_fl_RX11_9 dX11_ends_14 ?_
          refine lv_iload_n hx hb dX11_ends_17 rfl (lv_at hl 2 rfl) ?_
          refine lv_aload_n hx hb dX11_ends_18 rfl (lv_at hl 0 rfl) ?_
          refine j_getr hx hb hts hown hK hG (k := a0) (fun w h => List.mem_cons_of_mem _ (u_X11 w h)) (ci := 10) rfl ka0 6 (k2 := a0 + 4) (by decide) (by show a0 + (4 : Int) = a0 + 4; omega) w_fl_RX11_19 dX11_ends_19 ?_
          refine lv_iload_n hx hb dX11_ends_22 rfl (lv_at hl 2 rfl) ?_
          obtain ⟨g13, h⟩ := h
          refine j_iald hx hb hK hG (n := 1294) (kf_11_6 ka0) (by decide) g13 dX11_ends_23 ?_
          refine j_iast hx hb hK hG (n := 1294) (kf_11_1 ka0) (by decide) g13 dX11_ends_24 (fun M14 eM14 H locs hG => ?_)
          have h := h M14 eM14
          refine j_iinc hx hb dX11_ends_25 hl (k := 2) rfl (by decide) (fun x15 ex15 ls hl => ?_)
          have h := h x15 ex15
          have hl : lv_has ls 3 [(2, .int (J x15)), (0, .ref (rA o a0)), (1, .int (J a1))] := hl
          refine lv_goto (tgt := 6) hx hb dX11_ends_28 (by decide) ?_
          obtain ⟨n16, ln16, iI7⟩ := h
          exact rI7 n16 ln16 x15 M14 iI7 H locs hG ls (lv_sub hl [1, 2, 0] rfl)
    exact lI7 n8s 0 M iI7 H locs hG ls (lv_sub hl [1, 2, 0] rfl)

abbrev rm_X11_tries : Room := { frames := 0, cells := 0, slots := 0, locals := 0 }
set_option maxRecDepth 100000 in
set_option maxHeartbeats 4000000 in
theorem A_X11_tries (l : Launch) {D : va_G} {cy : Nat → ClassId} {o : Nat} {sK sV : Nat → Nat} {M : jT} {a0 : Int} (ka0 : kd a0 = 11) {Q : jT → Prop} (h : wp_X11_tries M a0 Q) : CoV l yX11_tries (wj yX11_tries cX11_tries 2 none) rm_X11_tries D cy o sK sV M [.ref (rA o a0)] Q := by
  refine j_ofW (cc := cX11_tries) (maxL := 2) (ret := none) (by decide) rfl (Nat.le_of_ble_eq_true rfl) ?_
  intro p e s m args below meth c hx hb hr hlocks hml hown hts hK hSX H locs hG ls hl Qf hQf
  have hown : s.vm.findClass RX11 = some m.cls := hown
  have hl : lv_has ls 2 [(0, .ref (rA o a0))] := hl
  have w_fl_RX11_80 := hts _ (List.mem_cons_of_mem _ fl_RX11_80)
  have w_fl_RX11_19 := hts _ (List.mem_cons_of_mem _ fl_RX11_19)
  have w_fl_RX11_9 := hts _ (List.mem_cons_of_mem _ fl_RX11_9)
  unfold wp_X11_tries at h
  refine lv_aload_n hx hb dX11_tries_0 rfl (lv_at hl 0 rfl) ?_
  refine lv_iconst (v := J 0) hx hb dX11_tries_1 (by decide) ?_
  refine j_puti hx hb hts hown hK hG (k := a0) (fun w h => List.mem_cons_of_mem _ (u_X11 w h)) tyX11 tyX11_ok nmX11 (ci := 10) rfl ka0 0 (by decide) (jz := 0) rfl w_fl_RX11_80 (hd := rfl) (hn := rfl) (hfit := rfl) (hdg := dX11_tries_2) (fun M1 eM1 H locs hG => ?_)
  have h := h M1 eM1
  refine lv_iconst (v := J 0) hx hb dX11_tries_5 (by decide) ?_
  refine lv_istore_n (lv' := [(1, .int (J 0)), (0, .ref (rA o a0))]) hx hb dX11_tries_6 rfl hl (by decide) rfl (fun ls hl => ?_)
  obtain ⟨I4, ⟨n5s, iI4⟩, qI4⟩ := h
  have lI4 : ∀ (n5 : Nat) (x2 : Int) (M3 : jT), I4 n5 x2 M3 → ∀ (H : Heap) (locs : List Loc), GM D cy o M3 s.heap H locs → ∀ ls : Array Slot, lv_has ls 2 [(0, .ref (rA o a0)), (1, .int (J x2))] → W p l e rm_X11_tries s m args below meth c H locs 0 0 Qf (F0 m 7 ls []) := by
    intro n5
    induction n5 using Nat.strongRecOn with
    | ind n5 rI4 =>
      intro x2 M3 iI4 H locs hG ls hl
      have h := qI4 n5 x2 M3 iI4
      refine lv_iload_n hx hb dX11_tries_7 rfl (lv_at hl 1 rfl) ?_
      refine lv_sipush (v := J 1294) hx hb dX11_tries_8 (by decide) ?_
      obtain ⟨g7, h⟩ := h
      refine j_icmp_ge (tgt := 32) hx hb dX11_tries_11 (by decide) g7 (by decide) (fun c6 => ?_) (fun c6 => ?_)
      · have h := h.1 c6
        rw [hQf]
        exact j_vret hx hb hr hlocks hG h (by decide) dX11_tries_32
      · have h := h.2 c6
        refine lv_aload_n hx hb dX11_tries_14 rfl (lv_at hl 0 rfl) ?_
        refine j_getr hx hb hts hown hK hG (k := a0) (fun w h => List.mem_cons_of_mem _ (u_X11 w h)) (ci := 10) rfl ka0 6 (k2 := a0 + 4) (by decide) (by show a0 + (4 : Int) = a0 + 4; omega) w_fl_RX11_19 dX11_tries_15 ?_
        refine lv_iload_n hx hb dX11_tries_18 rfl (lv_at hl 1 rfl) ?_
        refine lv_aload_n hx hb dX11_tries_19 rfl (lv_at hl 0 rfl) ?_
        refine j_getr hx hb hts hown hK hG (k := a0) (fun w h => List.mem_cons_of_mem _ (u_X11 w h)) (ci := 10) rfl ka0 1 (k2 := a0 + 1) (by decide) (by show a0 + (1 : Int) = a0 + 1; omega) w_fl_RX11_9 dX11_tries_20 ?_
        refine lv_iload_n hx hb dX11_tries_23 rfl (lv_at hl 1 rfl) ?_
        obtain ⟨g8, h⟩ := h
        refine j_iald hx hb hK hG (n := 1294) (kf_11_1 ka0) (by decide) g8 dX11_tries_24 ?_
        refine j_iast hx hb hK hG (n := 1294) (kf_11_6 ka0) (by decide) g8 dX11_tries_25 (fun M9 eM9 H locs hG => ?_)
        have h := h M9 eM9
        refine j_iinc hx hb dX11_tries_26 hl (k := 1) rfl (by decide) (fun x10 ex10 ls hl => ?_)
        have h := h x10 ex10
        have hl : lv_has ls 2 [(1, .int (J x10)), (0, .ref (rA o a0))] := hl
        refine lv_goto (tgt := 7) hx hb dX11_tries_29 (by decide) ?_
        obtain ⟨n11, ln11, iI4⟩ := h
        exact rI4 n11 ln11 x10 M9 iI4 H locs hG ls (lv_sub hl [1, 0] rfl)
  exact lI4 n5s 0 M1 iI4 H locs hG ls (lv_sub hl [1, 0] rfl)

abbrev rm_X11_addZone : Room := { frames := 3, cells := 0, slots := 0, locals := 64 }
set_option maxRecDepth 100000 in
set_option maxHeartbeats 4000000 in
theorem A_X11_addZone (l : Launch) {D : va_G} {cy : Nat → ClassId} {o : Nat} {sK sV : Nat → Nat} {M : jT} {a0 : Int} {a1 : Int} (ka0 : kd a0 = 11) {Q : Int → jT → Prop} (h : wp_X11_addZone M a0 a1 Q) : CoI l yX11_addZone (wj yX11_addZone cX11_addZone 2 (some .int)) rm_X11_addZone D cy o sK sV M [.ref (rA o a0), .int (J a1)] Q := by
  refine j_ofW (cc := cX11_addZone) (maxL := 2) (ret := (some .int)) (by decide) rfl (Nat.le_of_ble_eq_true rfl) ?_
  intro p e s m args below meth c hx hb hr hlocks hml hown hts hK hSX H locs hG ls hl Qf hQf
  have hown : s.vm.findClass RX11 = some m.cls := hown
  have hl : lv_has ls 2 [(0, .ref (rA o a0)), (1, .int (J a1))] := hl
  unfold wp_X11_addZone at h
  refine lv_aload_n hx hb dX11_addZone_0 rfl (lv_at hl 0 rfl) ?_
  refine j_contv (va_runV (As := []) (rest := []) ⟨hx, hb, hml, hown, hts⟩ (A_X11_tries l ka0 h) (cwV 0 hts (gj_V ml_RX11_148 i_X11_tries s_X11_tries n_RX11 k_X11_tries) rfl rfl rfl (by decide +kernel) ⟨by exact Nat.le_of_ble_eq_true rfl, by exact Nat.le_of_ble_eq_true rfl⟩) (j_preV hK hSX hG (ci := 10) rfl ka0 (by decide)) rfl rfl hl.1 rfl (lv_room (Nat.le_of_ble_eq_true rfl)) dX11_addZone_1 ⟨by exact Nat.le_of_ble_eq_true rfl, by exact Nat.le_of_ble_eq_true rfl⟩) hG (c2 := 0) (s2 := 0) ⟨by exact Nat.le_of_ble_eq_true rfl, by exact Nat.le_of_ble_eq_true rfl⟩ (fun M2 h H locs hG => ?_)
  refine lv_aload_n hx hb dX11_addZone_4 rfl (lv_at hl 0 rfl) ?_
  refine lv_aload_n hx hb dX11_addZone_5 rfl (lv_at hl 0 rfl) ?_
  refine lv_iload_n hx hb dX11_addZone_6 rfl (lv_at hl 1 rfl) ?_
  refine j_conti (va_runV (As := [.int (J a1)]) (rest := [.ref (rA o a0)]) ⟨hx, hb, hml, hown, hts⟩ (A_X11_zoneBy l ka0 h) (cwV 1 hts (gj_V ml_RX11_151 i_X11_zoneBy s_X11_zoneBy n_RX11 k_X11_zoneBy) rfl rfl rfl (by decide +kernel) ⟨by exact Nat.le_of_ble_eq_true rfl, by exact Nat.le_of_ble_eq_true rfl⟩) (j_preV hK hSX hG (ci := 10) rfl ka0 (by decide)) rfl rfl hl.1 rfl (lv_room (Nat.le_of_ble_eq_true rfl)) dX11_addZone_7 ⟨by exact Nat.le_of_ble_eq_true rfl, by exact Nat.le_of_ble_eq_true rfl⟩) hG (c2 := 0) (s2 := 0) ⟨by exact Nat.le_of_ble_eq_true rfl, by exact Nat.le_of_ble_eq_true rfl⟩ (fun z3 M4 h H locs hG => ?_)
  refine j_conti (va_runV (As := [.int (J z3)]) (rest := []) ⟨hx, hb, hml, hown, hts⟩ (A_X11_ends l ka0 h) (cwV 1 hts (gj_V ml_RX11_154 i_X11_ends s_X11_ends n_RX11 k_X11_ends) rfl rfl rfl (by decide +kernel) ⟨by exact Nat.le_of_ble_eq_true rfl, by exact Nat.le_of_ble_eq_true rfl⟩) (j_preV hK hSX hG (ci := 10) rfl ka0 (by decide)) rfl rfl hl.1 rfl (lv_room (Nat.le_of_ble_eq_true rfl)) dX11_addZone_10 ⟨by exact Nat.le_of_ble_eq_true rfl, by exact Nat.le_of_ble_eq_true rfl⟩) hG (c2 := 0) (s2 := 0) ⟨by exact Nat.le_of_ble_eq_true rfl, by exact Nat.le_of_ble_eq_true rfl⟩ (fun z5 M6 h H locs hG => ?_)
  rw [hQf]
  exact j_ireti hx hb hr hlocks hG h (by decide) dX11_addZone_13

abbrev rm_X11_changeBase : Room := { frames := 3, cells := 0, slots := 0, locals := 67 }
set_option maxRecDepth 100000 in
set_option maxHeartbeats 4000000 in
theorem A_X11_changeBase (l : Launch) {D : va_G} {cy : Nat → ClassId} {o : Nat} {sK sV : Nat → Nat} {M : jT} {a0 : Int} {a1 : Int} {a2 : Int} {a3 : Int} (ka0 : kd a0 = 11) {Q : Int → jT → Prop} (h : wp_X11_changeBase M a0 a1 a2 a3 Q) : CoI l yX11_changeBase (wj yX11_changeBase cX11_changeBase 4 (some .int)) rm_X11_changeBase D cy o sK sV M [.ref (rA o a0), .int (J a1), .int (J a2), .int (J a3)] Q := by
  refine j_ofW (cc := cX11_changeBase) (maxL := 4) (ret := (some .int)) (by decide) rfl (Nat.le_of_ble_eq_true rfl) ?_
  intro p e s m args below meth c hx hb hr hlocks hml hown hts hK hSX H locs hG ls hl Qf hQf
  have hown : s.vm.findClass RX11 = some m.cls := hown
  have hl : lv_has ls 4 [(0, .ref (rA o a0)), (1, .int (J a1)), (2, .int (J a2)), (3, .int (J a3))] := hl
  unfold wp_X11_changeBase at h
  refine lv_aload_n hx hb dX11_changeBase_0 rfl (lv_at hl 0 rfl) ?_
  refine j_contv (va_runV (As := []) (rest := []) ⟨hx, hb, hml, hown, hts⟩ (A_X11_tries l ka0 h) (cwV 0 hts (gj_V ml_RX11_148 i_X11_tries s_X11_tries n_RX11 k_X11_tries) rfl rfl rfl (by decide +kernel) ⟨by exact Nat.le_of_ble_eq_true rfl, by exact Nat.le_of_ble_eq_true rfl⟩) (j_preV hK hSX hG (ci := 10) rfl ka0 (by decide)) rfl rfl hl.1 rfl (lv_room (Nat.le_of_ble_eq_true rfl)) dX11_changeBase_1 ⟨by exact Nat.le_of_ble_eq_true rfl, by exact Nat.le_of_ble_eq_true rfl⟩) hG (c2 := 0) (s2 := 0) ⟨by exact Nat.le_of_ble_eq_true rfl, by exact Nat.le_of_ble_eq_true rfl⟩ (fun M2 h H locs hG => ?_)
  refine lv_aload_n hx hb dX11_changeBase_4 rfl (lv_at hl 0 rfl) ?_
  refine lv_aload_n hx hb dX11_changeBase_5 rfl (lv_at hl 0 rfl) ?_
  refine lv_iload_n hx hb dX11_changeBase_6 rfl (lv_at hl 1 rfl) ?_
  refine lv_iload_n hx hb dX11_changeBase_7 rfl (lv_at hl 2 rfl) ?_
  refine lv_iload_n hx hb dX11_changeBase_8 rfl (lv_at hl 3 rfl) ?_
  refine j_conti (va_runV (As := [.int (J a1), .int (J a2), .int (J a3)]) (rest := [.ref (rA o a0)]) ⟨hx, hb, hml, hown, hts⟩ (A_X11_baseBy l ka0 h) (cwV 3 hts (gj_V ml_RX11_157 i_X11_baseBy s_X11_baseBy n_RX11 k_X11_baseBy) rfl rfl rfl (by decide +kernel) ⟨by exact Nat.le_of_ble_eq_true rfl, by exact Nat.le_of_ble_eq_true rfl⟩) (j_preV hK hSX hG (ci := 10) rfl ka0 (by decide)) rfl rfl hl.1 rfl (lv_room (Nat.le_of_ble_eq_true rfl)) dX11_changeBase_9 ⟨by exact Nat.le_of_ble_eq_true rfl, by exact Nat.le_of_ble_eq_true rfl⟩) hG (c2 := 0) (s2 := 0) ⟨by exact Nat.le_of_ble_eq_true rfl, by exact Nat.le_of_ble_eq_true rfl⟩ (fun z3 M4 h H locs hG => ?_)
  refine j_conti (va_runV (As := [.int (J z3)]) (rest := []) ⟨hx, hb, hml, hown, hts⟩ (A_X11_ends l ka0 h) (cwV 1 hts (gj_V ml_RX11_154 i_X11_ends s_X11_ends n_RX11 k_X11_ends) rfl rfl rfl (by decide +kernel) ⟨by exact Nat.le_of_ble_eq_true rfl, by exact Nat.le_of_ble_eq_true rfl⟩) (j_preV hK hSX hG (ci := 10) rfl ka0 (by decide)) rfl rfl hl.1 rfl (lv_room (Nat.le_of_ble_eq_true rfl)) dX11_changeBase_12 ⟨by exact Nat.le_of_ble_eq_true rfl, by exact Nat.le_of_ble_eq_true rfl⟩) hG (c2 := 0) (s2 := 0) ⟨by exact Nat.le_of_ble_eq_true rfl, by exact Nat.le_of_ble_eq_true rfl⟩ (fun z5 M6 h H locs hG => ?_)
  rw [hQf]
  exact j_ireti hx hb hr hlocks hG h (by decide) dX11_changeBase_15

abbrev rm_X11_addRule : Room := { frames := 3, cells := 0, slots := 0, locals := 73 }
set_option maxRecDepth 100000 in
set_option maxHeartbeats 4000000 in
theorem A_X11_addRule (l : Launch) {D : va_G} {cy : Nat → ClassId} {o : Nat} {sK sV : Nat → Nat} {M : jT} {a0 : Int} {a1 : Int} {a2 : Int} {a3 : Int} {a4 : Int} {a5 : Int} {a6 : Int} (ka0 : kd a0 = 11) {Q : Int → jT → Prop} (h : wp_X11_addRule M a0 a1 a2 a3 a4 a5 a6 Q) : CoI l yX11_addRule (wj yX11_addRule cX11_addRule 7 (some .int)) rm_X11_addRule D cy o sK sV M [.ref (rA o a0), .int (J a1), .int (J a2), .int (J a3), .int (J a4), .int (J a5), .int (J a6)] Q := by
  refine j_ofW (cc := cX11_addRule) (maxL := 7) (ret := (some .int)) (by decide) rfl (Nat.le_of_ble_eq_true rfl) ?_
  intro p e s m args below meth c hx hb hr hlocks hml hown hts hK hSX H locs hG ls hl Qf hQf
  have hown : s.vm.findClass RX11 = some m.cls := hown
  have hl : lv_has ls 7 [(0, .ref (rA o a0)), (1, .int (J a1)), (2, .int (J a2)), (3, .int (J a3)), (4, .int (J a4)), (5, .int (J a5)), (6, .int (J a6))] := hl
  unfold wp_X11_addRule at h
  refine lv_aload_n hx hb dX11_addRule_0 rfl (lv_at hl 0 rfl) ?_
  refine j_contv (va_runV (As := []) (rest := []) ⟨hx, hb, hml, hown, hts⟩ (A_X11_tries l ka0 h) (cwV 0 hts (gj_V ml_RX11_148 i_X11_tries s_X11_tries n_RX11 k_X11_tries) rfl rfl rfl (by decide +kernel) ⟨by exact Nat.le_of_ble_eq_true rfl, by exact Nat.le_of_ble_eq_true rfl⟩) (j_preV hK hSX hG (ci := 10) rfl ka0 (by decide)) rfl rfl hl.1 rfl (lv_room (Nat.le_of_ble_eq_true rfl)) dX11_addRule_1 ⟨by exact Nat.le_of_ble_eq_true rfl, by exact Nat.le_of_ble_eq_true rfl⟩) hG (c2 := 0) (s2 := 0) ⟨by exact Nat.le_of_ble_eq_true rfl, by exact Nat.le_of_ble_eq_true rfl⟩ (fun M2 h H locs hG => ?_)
  refine lv_aload_n hx hb dX11_addRule_4 rfl (lv_at hl 0 rfl) ?_
  refine lv_aload_n hx hb dX11_addRule_5 rfl (lv_at hl 0 rfl) ?_
  refine lv_iload_n hx hb dX11_addRule_6 rfl (lv_at hl 1 rfl) ?_
  refine lv_iload_n hx hb dX11_addRule_7 rfl (lv_at hl 2 rfl) ?_
  refine lv_iload_n hx hb dX11_addRule_8 rfl (lv_at hl 3 rfl) ?_
  refine lv_iload hx hb dX11_addRule_9 (lv_at hl 4 rfl) ?_
  refine lv_iload hx hb dX11_addRule_11 (lv_at hl 5 rfl) ?_
  refine lv_iload hx hb dX11_addRule_13 (lv_at hl 6 rfl) ?_
  refine j_conti (va_runV (As := [.int (J a1), .int (J a2), .int (J a3), .int (J a4), .int (J a5), .int (J a6)]) (rest := [.ref (rA o a0)]) ⟨hx, hb, hml, hown, hts⟩ (A_X11_ruleBy l ka0 h) (cwV 6 hts (gj_V ml_RX11_161 i_X11_ruleBy s_X11_ruleBy n_RX11 k_X11_ruleBy) rfl rfl rfl (by decide +kernel) ⟨by exact Nat.le_of_ble_eq_true rfl, by exact Nat.le_of_ble_eq_true rfl⟩) (j_preV hK hSX hG (ci := 10) rfl ka0 (by decide)) rfl rfl hl.1 rfl (lv_room (Nat.le_of_ble_eq_true rfl)) dX11_addRule_15 ⟨by exact Nat.le_of_ble_eq_true rfl, by exact Nat.le_of_ble_eq_true rfl⟩) hG (c2 := 0) (s2 := 0) ⟨by exact Nat.le_of_ble_eq_true rfl, by exact Nat.le_of_ble_eq_true rfl⟩ (fun z3 M4 h H locs hG => ?_)
  refine j_conti (va_runV (As := [.int (J z3)]) (rest := []) ⟨hx, hb, hml, hown, hts⟩ (A_X11_ends l ka0 h) (cwV 1 hts (gj_V ml_RX11_154 i_X11_ends s_X11_ends n_RX11 k_X11_ends) rfl rfl rfl (by decide +kernel) ⟨by exact Nat.le_of_ble_eq_true rfl, by exact Nat.le_of_ble_eq_true rfl⟩) (j_preV hK hSX hG (ci := 10) rfl ka0 (by decide)) rfl rfl hl.1 rfl (lv_room (Nat.le_of_ble_eq_true rfl)) dX11_addRule_18 ⟨by exact Nat.le_of_ble_eq_true rfl, by exact Nat.le_of_ble_eq_true rfl⟩) hG (c2 := 0) (s2 := 0) ⟨by exact Nat.le_of_ble_eq_true rfl, by exact Nat.le_of_ble_eq_true rfl⟩ (fun z5 M6 h H locs hG => ?_)
  rw [hQf]
  exact j_ireti hx hb hr hlocks hG h (by decide) dX11_addRule_21

abbrev rm_X11_dropRule : Room := { frames := 4, cells := 0, slots := 0, locals := 89 }
set_option maxRecDepth 100000 in
set_option maxHeartbeats 4000000 in
theorem A_X11_dropRule (l : Launch) {D : va_G} {cy : Nat → ClassId} {o : Nat} {sK sV : Nat → Nat} {M : jT} {a0 : Int} {a1 : Int} {a2 : Int} (ka0 : kd a0 = 11) {Q : Int → jT → Prop} (h : wp_X11_dropRule M a0 a1 a2 Q) : CoI l yX11_dropRule (wj yX11_dropRule cX11_dropRule 3 (some .int)) rm_X11_dropRule D cy o sK sV M [.ref (rA o a0), .int (J a1), .int (J a2)] Q := by
  refine j_ofW (cc := cX11_dropRule) (maxL := 3) (ret := (some .int)) (by decide) rfl (Nat.le_of_ble_eq_true rfl) ?_
  intro p e s m args below meth c hx hb hr hlocks hml hown hts hK hSX H locs hG ls hl Qf hQf
  have hown : s.vm.findClass RX11 = some m.cls := hown
  have hl : lv_has ls 3 [(0, .ref (rA o a0)), (1, .int (J a1)), (2, .int (J a2))] := hl
  unfold wp_X11_dropRule at h
  refine lv_aload_n hx hb dX11_dropRule_0 rfl (lv_at hl 0 rfl) ?_
  refine j_contv (va_runV (As := []) (rest := []) ⟨hx, hb, hml, hown, hts⟩ (A_X11_tries l ka0 h) (cwV 0 hts (gj_V ml_RX11_148 i_X11_tries s_X11_tries n_RX11 k_X11_tries) rfl rfl rfl (by decide +kernel) ⟨by exact Nat.le_of_ble_eq_true rfl, by exact Nat.le_of_ble_eq_true rfl⟩) (j_preV hK hSX hG (ci := 10) rfl ka0 (by decide)) rfl rfl hl.1 rfl (lv_room (Nat.le_of_ble_eq_true rfl)) dX11_dropRule_1 ⟨by exact Nat.le_of_ble_eq_true rfl, by exact Nat.le_of_ble_eq_true rfl⟩) hG (c2 := 0) (s2 := 0) ⟨by exact Nat.le_of_ble_eq_true rfl, by exact Nat.le_of_ble_eq_true rfl⟩ (fun M2 h H locs hG => ?_)
  refine lv_aload_n hx hb dX11_dropRule_4 rfl (lv_at hl 0 rfl) ?_
  refine lv_aload_n hx hb dX11_dropRule_5 rfl (lv_at hl 0 rfl) ?_
  refine lv_iload_n hx hb dX11_dropRule_6 rfl (lv_at hl 1 rfl) ?_
  refine lv_iload_n hx hb dX11_dropRule_7 rfl (lv_at hl 2 rfl) ?_
  refine j_conti (va_runV (As := [.int (J a1), .int (J a2)]) (rest := [.ref (rA o a0)]) ⟨hx, hb, hml, hown, hts⟩ (A_X11_dropBy l ka0 h) (cwV 2 hts (gj_V ml_RX11_165 i_X11_dropBy s_X11_dropBy n_RX11 k_X11_dropBy) rfl rfl rfl (by decide +kernel) ⟨by exact Nat.le_of_ble_eq_true rfl, by exact Nat.le_of_ble_eq_true rfl⟩) (j_preV hK hSX hG (ci := 10) rfl ka0 (by decide)) rfl rfl hl.1 rfl (lv_room (Nat.le_of_ble_eq_true rfl)) dX11_dropRule_8 ⟨by exact Nat.le_of_ble_eq_true rfl, by exact Nat.le_of_ble_eq_true rfl⟩) hG (c2 := 0) (s2 := 0) ⟨by exact Nat.le_of_ble_eq_true rfl, by exact Nat.le_of_ble_eq_true rfl⟩ (fun z3 M4 h H locs hG => ?_)
  refine j_conti (va_runV (As := [.int (J z3)]) (rest := []) ⟨hx, hb, hml, hown, hts⟩ (A_X11_ends l ka0 h) (cwV 1 hts (gj_V ml_RX11_154 i_X11_ends s_X11_ends n_RX11 k_X11_ends) rfl rfl rfl (by decide +kernel) ⟨by exact Nat.le_of_ble_eq_true rfl, by exact Nat.le_of_ble_eq_true rfl⟩) (j_preV hK hSX hG (ci := 10) rfl ka0 (by decide)) rfl rfl hl.1 rfl (lv_room (Nat.le_of_ble_eq_true rfl)) dX11_dropRule_11 ⟨by exact Nat.le_of_ble_eq_true rfl, by exact Nat.le_of_ble_eq_true rfl⟩) hG (c2 := 0) (s2 := 0) ⟨by exact Nat.le_of_ble_eq_true rfl, by exact Nat.le_of_ble_eq_true rfl⟩ (fun z5 M6 h H locs hG => ?_)
  rw [hQf]
  exact j_ireti hx hb hr hlocks hG h (by decide) dX11_dropRule_14

abbrev rm_X11_rank : Room := { frames := 0, cells := 0, slots := 0, locals := 0 }
set_option maxRecDepth 100000 in
set_option maxHeartbeats 4000000 in
theorem A_X11_rank (l : Launch) {D : va_G} {cy : Nat → ClassId} {o : Nat} {sK sV : Nat → Nat} {M : jT} {a0 : Int} (h : pg_X11_rank a0) : CoI l yX11_rank (wj yX11_rank cX11_rank 1 (some .int)) rm_X11_rank D cy o sK sV M [.int (J a0)] (fun z M9 => z = pf_X11_rank a0 ∧ M9 = M) := by
  refine j_ofW (cc := cX11_rank) (maxL := 1) (ret := (some .int)) (by decide) rfl (Nat.le_of_ble_eq_true rfl) ?_
  intro p e s m args below meth c hx hb hr hlocks hml hown hts hK hSX H locs hG ls hl Qf hQf
  have hown : s.vm.findClass RX11 = some m.cls := hown
  have hl : lv_has ls 1 [(0, .int (J a0))] := hl
  unfold pg_X11_rank at h
  refine lv_iload_n hx hb dX11_rank_0 rfl (lv_at hl 0 rfl) ?_
  refine lv_bipush (v := J 100) hx hb dX11_rank_1 (by decide) ?_
  obtain ⟨g2, h⟩ := h
  refine j_icmp_lt (tgt := 13) hx hb dX11_rank_3 (by decide) g2 (by decide) (fun c1 => ?_) (fun c1 => ?_)
  · have h := h.1 c1
    refine lv_iload_n hx hb dX11_rank_13 rfl (lv_at hl 0 rfl) ?_
    refine lv_bipush (v := J 100) hx hb dX11_rank_14 (by decide) ?_
    refine j_iadd hx hb dX11_rank_16 ?_
    rw [hQf]
    exact j_ireti hx hb hr hlocks hG ⟨(by unfold pf_X11_rank; rw [if_pos c1]), rfl⟩ (by decide) dX11_rank_17
  · have h := h.2 c1
    refine lv_iload_n hx hb dX11_rank_6 rfl (lv_at hl 0 rfl) ?_
    refine lv_bipush (v := J 100) hx hb dX11_rank_7 (by decide) ?_
    refine j_isub hx hb dX11_rank_9 ?_
    refine lv_goto (tgt := 17) hx hb dX11_rank_10 (by decide) ?_
    rw [hQf]
    exact j_ireti hx hb hr hlocks hG ⟨(by unfold pf_X11_rank; rw [if_neg (show ¬ (a0 < 100) from by omega)]), rfl⟩ (by decide) dX11_rank_17

abbrev rm_X11_event : Room := { frames := 1, cells := 0, slots := 0, locals := 20 }
set_option maxRecDepth 100000 in
set_option maxHeartbeats 4000000 in
theorem A_X11_event (l : Launch) {D : va_G} {cy : Nat → ClassId} {o : Nat} {sK sV : Nat → Nat} {M : jT} {a0 : Int} {a1 : Int} {a2 : Int} (ka0 : kd a0 = 11) {Q : jT → Prop} (h : wp_X11_event M a0 a1 a2 Q) : CoV l yX11_event (wj yX11_event cX11_event 4 none) rm_X11_event D cy o sK sV M [.ref (rA o a0), .int (J a1), .int (J a2)] Q := by
  refine j_ofW (cc := cX11_event) (maxL := 4) (ret := none) (by decide) rfl (Nat.le_of_ble_eq_true rfl) ?_
  intro p e s m args below meth c hx hb hr hlocks hml hown hts hK hSX H locs hG ls hl Qf hQf
  have hown : s.vm.findClass RX11 = some m.cls := hown
  have hl : lv_has ls 4 [(0, .ref (rA o a0)), (1, .int (J a1)), (2, .int (J a2))] := hl
  have w_fl_RX11_168 := hts _ (List.mem_cons_of_mem _ fl_RX11_168)
  have w_fl_RX11_38 := hts _ (List.mem_cons_of_mem _ fl_RX11_38)
  have w_fl_RX11_41 := hts _ (List.mem_cons_of_mem _ fl_RX11_41)
  unfold wp_X11_event at h
  refine lv_aload_n hx hb dX11_event_0 rfl (lv_at hl 0 rfl) ?_
  refine lv_dup hx hb dX11_event_1 rfl ?_
  refine j_geti hx hb hts hown hK hG (k := a0) (fun w h => List.mem_cons_of_mem _ (u_X11 w h)) (ci := 10) rfl ka0 15 (by decide) (jz := 15) rfl w_fl_RX11_168 dX11_event_2 ?_
  refine lv_dup_x1 hx hb dX11_event_5 rfl rfl ?_
  refine lv_iconst (v := J 1) hx hb dX11_event_6 (by decide) ?_
  refine j_iadd hx hb dX11_event_7 ?_
  refine j_puti hx hb hts hown hK hG (k := a0) (fun w h => List.mem_cons_of_mem _ (u_X11 w h)) tyX11 tyX11_ok nmX11 (ci := 10) rfl ka0 15 (by decide) (jz := 15) rfl w_fl_RX11_168 (hd := rfl) (hn := rfl) (hfit := rfl) (hdg := dX11_event_8) (fun M1 eM1 H locs hG => ?_)
  have h := h M1 eM1
  refine j_topi (fun x2 ex2 => ?_)
  have h := h x2 ex2
  refine lv_istore_n (lv' := [(3, .int (J x2)), (0, .ref (rA o a0)), (1, .int (J a1)), (2, .int (J a2))]) hx hb dX11_event_11 rfl hl (by decide) rfl (fun ls hl => ?_)
  obtain ⟨I5, ⟨n6s, iI5⟩, qI5⟩ := h
  have lI5 : ∀ (n6 : Nat) (x3 : Int) (M4 : jT), I5 n6 x3 M4 → ∀ (H : Heap) (locs : List Loc), GM D cy o M4 s.heap H locs → ∀ ls : Array Slot, lv_has ls 4 [(0, .ref (rA o a0)), (1, .int (J a1)), (2, .int (J a2)), (3, .int (J x3))] → W p l e rm_X11_event s m args below meth c H locs 0 0 Qf (F0 m 12 ls []) := by
    intro n6
    induction n6 using Nat.strongRecOn with
    | ind n6 rI5 =>
      intro x3 M4 iI5 H locs hG ls hl
      have h := qI5 n6 x3 M4 iI5
      refine lv_iload_n hx hb dX11_event_12 rfl (lv_at hl 3 rfl) ?_
      obtain ⟨K42, hK42, h⟩ := h
      have jK42 : K42 → ∀ (H : Heap) (locs : List Loc), GM D cy o M4 s.heap H locs → ∀ ls : Array Slot, lv_has ls 4 [(0, .ref (rA o a0)), (1, .int (J a1)), (2, .int (J a2)), (3, .int (J x3))] → W p l e rm_X11_event s m args below meth c H locs 0 0 Qf (F0 m 92 ls []) := by
        intro hcK42 H locs hG ls hl
        have h := hK42 hcK42
        refine lv_aload_n hx hb dX11_event_92 rfl (lv_at hl 0 rfl) ?_
        refine j_getr hx hb hts hown hK hG (k := a0) (fun w h => List.mem_cons_of_mem _ (u_X11 w h)) (ci := 10) rfl ka0 16 (k2 := a0 + 8) (by decide) (by show a0 + (8 : Int) = a0 + 8; omega) w_fl_RX11_38 dX11_event_93 ?_
        refine lv_iload_n hx hb dX11_event_96 rfl (lv_at hl 3 rfl) ?_
        refine lv_iload_n hx hb dX11_event_97 rfl (lv_at hl 1 rfl) ?_
        obtain ⟨g43, h⟩ := h
        refine j_iast hx hb hK hG (n := 261) (kf_11_16 ka0) (by decide) g43 dX11_event_98 (fun M44 eM44 H locs hG => ?_)
        have h := h M44 eM44
        refine lv_aload_n hx hb dX11_event_99 rfl (lv_at hl 0 rfl) ?_
        refine j_getr hx hb hts hown hK hG (k := a0) (fun w h => List.mem_cons_of_mem _ (u_X11 w h)) (ci := 10) rfl ka0 17 (k2 := a0 + 9) (by decide) (by show a0 + (9 : Int) = a0 + 9; omega) w_fl_RX11_41 dX11_event_100 ?_
        refine lv_iload_n hx hb dX11_event_103 rfl (lv_at hl 3 rfl) ?_
        refine lv_iload_n hx hb dX11_event_104 rfl (lv_at hl 2 rfl) ?_
        refine j_iast hx hb hK hG (n := 261) (kf_11_17 ka0) (by decide) g43 dX11_event_105 (fun M45 eM45 H locs hG => ?_)
        have h := h M45 eM45
        rw [hQf]
        exact j_vret hx hb hr hlocks hG h (by decide) dX11_event_106
      obtain ⟨g47, h⟩ := h
      refine j_if_le (tgt := 92) hx hb dX11_event_13 (by decide) g47 (fun c46 => ?_) (fun c46 => ?_)
      · have h := h.1 c46
        exact jK42 h H locs hG ls (lv_sub hl [0, 1, 2, 3] rfl)
      · have h := h.2 c46
        refine lv_aload_n hx hb dX11_event_16 rfl (lv_at hl 0 rfl) ?_
        refine j_getr hx hb hts hown hK hG (k := a0) (fun w h => List.mem_cons_of_mem _ (u_X11 w h)) (ci := 10) rfl ka0 16 (k2 := a0 + 8) (by decide) (by show a0 + (8 : Int) = a0 + 8; omega) w_fl_RX11_38 dX11_event_17 ?_
        refine lv_iload_n hx hb dX11_event_20 rfl (lv_at hl 3 rfl) ?_
        refine lv_iconst (v := J 1) hx hb dX11_event_21 (by decide) ?_
        refine j_isub hx hb dX11_event_22 ?_
        obtain ⟨g48, h⟩ := h
        refine j_iald hx hb hK hG (n := 261) (kf_11_16 ka0) (by decide) g48 dX11_event_23 ?_
        refine lv_iload_n hx hb dX11_event_24 rfl (lv_at hl 1 rfl) ?_
        obtain ⟨K62, hK62, h⟩ := h
        have jK62 : K62 → ∀ (H : Heap) (locs : List Loc), GM D cy o M4 s.heap H locs → ∀ ls : Array Slot, lv_has ls 4 [(0, .ref (rA o a0)), (1, .int (J a1)), (2, .int (J a2)), (3, .int (J x3))] → W p l e rm_X11_event s m args below meth c H locs 0 0 Qf (F0 m 58 ls []) := by
          intro hcK62 H locs hG ls hl
          have h := hK62 hcK62
          refine lv_aload_n hx hb dX11_event_58 rfl (lv_at hl 0 rfl) ?_
          refine j_getr hx hb hts hown hK hG (k := a0) (fun w h => List.mem_cons_of_mem _ (u_X11 w h)) (ci := 10) rfl ka0 16 (k2 := a0 + 8) (by decide) (by show a0 + (8 : Int) = a0 + 8; omega) w_fl_RX11_38 dX11_event_59 ?_
          refine lv_iload_n hx hb dX11_event_62 rfl (lv_at hl 3 rfl) ?_
          refine lv_aload_n hx hb dX11_event_63 rfl (lv_at hl 0 rfl) ?_
          refine j_getr hx hb hts hown hK hG (k := a0) (fun w h => List.mem_cons_of_mem _ (u_X11 w h)) (ci := 10) rfl ka0 16 (k2 := a0 + 8) (by decide) (by show a0 + (8 : Int) = a0 + 8; omega) w_fl_RX11_38 dX11_event_64 ?_
          refine lv_iload_n hx hb dX11_event_67 rfl (lv_at hl 3 rfl) ?_
          refine lv_iconst (v := J 1) hx hb dX11_event_68 (by decide) ?_
          refine j_isub hx hb dX11_event_69 ?_
          refine j_iald hx hb hK hG (n := 261) (kf_11_16 ka0) (by decide) g48 dX11_event_70 ?_
          obtain ⟨g63, h⟩ := h
          refine j_iast hx hb hK hG (n := 261) (kf_11_16 ka0) (by decide) g63 dX11_event_71 (fun M64 eM64 H locs hG => ?_)
          have h := h M64 eM64
          refine lv_aload_n hx hb dX11_event_72 rfl (lv_at hl 0 rfl) ?_
          refine j_getr hx hb hts hown hK hG (k := a0) (fun w h => List.mem_cons_of_mem _ (u_X11 w h)) (ci := 10) rfl ka0 17 (k2 := a0 + 9) (by decide) (by show a0 + (9 : Int) = a0 + 9; omega) w_fl_RX11_41 dX11_event_73 ?_
          refine lv_iload_n hx hb dX11_event_76 rfl (lv_at hl 3 rfl) ?_
          refine lv_aload_n hx hb dX11_event_77 rfl (lv_at hl 0 rfl) ?_
          refine j_getr hx hb hts hown hK hG (k := a0) (fun w h => List.mem_cons_of_mem _ (u_X11 w h)) (ci := 10) rfl ka0 17 (k2 := a0 + 9) (by decide) (by show a0 + (9 : Int) = a0 + 9; omega) w_fl_RX11_41 dX11_event_78 ?_
          refine lv_iload_n hx hb dX11_event_81 rfl (lv_at hl 3 rfl) ?_
          refine lv_iconst (v := J 1) hx hb dX11_event_82 (by decide) ?_
          refine j_isub hx hb dX11_event_83 ?_
          refine j_iald hx hb hK hG (n := 261) (kf_11_17 ka0) (by decide) g48 dX11_event_84 ?_
          refine j_iast hx hb hK hG (n := 261) (kf_11_17 ka0) (by decide) g63 dX11_event_85 (fun M65 eM65 H locs hG => ?_)
          have h := h M65 eM65
          refine j_iinc hx hb dX11_event_86 hl (k := 3) rfl (by decide) (fun x66 ex66 ls hl => ?_)
          have h := h x66 ex66
          have hl : lv_has ls 4 [(3, .int (J x66)), (0, .ref (rA o a0)), (1, .int (J a1)), (2, .int (J a2))] := hl
          refine lv_goto (tgt := 12) hx hb dX11_event_89 (by decide) ?_
          obtain ⟨n67, ln67, iI5⟩ := h
          exact rI5 n67 ln67 x66 M65 iI5 H locs hG ls (lv_sub hl [1, 2, 3, 0] rfl)
        obtain ⟨g69, h⟩ := h
        obtain ⟨g70, h⟩ := h
        refine j_icmp_gt (tgt := 58) hx hb dX11_event_25 (by decide) g69 g70 (fun c68 => ?_) (fun c68 => ?_)
        · have h := h.1 c68
          exact jK62 h H locs hG ls (lv_sub hl [0, 1, 2, 3] rfl)
        · have h := h.2 c68
          refine lv_aload_n hx hb dX11_event_28 rfl (lv_at hl 0 rfl) ?_
          refine j_getr hx hb hts hown hK hG (k := a0) (fun w h => List.mem_cons_of_mem _ (u_X11 w h)) (ci := 10) rfl ka0 16 (k2 := a0 + 8) (by decide) (by show a0 + (8 : Int) = a0 + 8; omega) w_fl_RX11_38 dX11_event_29 ?_
          refine lv_iload_n hx hb dX11_event_32 rfl (lv_at hl 3 rfl) ?_
          refine lv_iconst (v := J 1) hx hb dX11_event_33 (by decide) ?_
          refine j_isub hx hb dX11_event_34 ?_
          refine j_iald hx hb hK hG (n := 261) (kf_11_16 ka0) (by decide) g48 dX11_event_35 ?_
          refine lv_iload_n hx hb dX11_event_36 rfl (lv_at hl 1 rfl) ?_
          refine j_icmp_ne (tgt := 92) hx hb dX11_event_37 (by decide) g69 g70 (fun c71 => ?_) (fun c71 => ?_)
          · have h := h.1 c71
            exact jK42 h H locs hG ls (lv_sub hl [0, 1, 2, 3] rfl)
          · have h := h.2 c71
            refine lv_aload_n hx hb dX11_event_40 rfl (lv_at hl 0 rfl) ?_
            refine j_getr hx hb hts hown hK hG (k := a0) (fun w h => List.mem_cons_of_mem _ (u_X11 w h)) (ci := 10) rfl ka0 17 (k2 := a0 + 9) (by decide) (by show a0 + (9 : Int) = a0 + 9; omega) w_fl_RX11_41 dX11_event_41 ?_
            refine lv_iload_n hx hb dX11_event_44 rfl (lv_at hl 3 rfl) ?_
            refine lv_iconst (v := J 1) hx hb dX11_event_45 (by decide) ?_
            refine j_isub hx hb dX11_event_46 ?_
            refine j_iald hx hb hK hG (n := 261) (kf_11_17 ka0) (by decide) g48 dX11_event_47 ?_
            obtain ⟨g72, h⟩ := h
            refine j_conti (va_runS (As := [.int (J (M4 (a0 + 9) (x3 - 1)))]) (rest := []) ⟨hx, hb, hml, hown, hts⟩ (A_X11_rank l g72) (va_cwS 1 hts (gj_S ml_RX11_171 i_X11_rank n_RX11 k_X11_rank) rfl rfl rfl (by decide +kernel) ⟨by exact Nat.le_of_ble_eq_true rfl, by exact Nat.le_of_ble_eq_true rfl⟩) (j_preS hK hSX hG) rfl rfl hl.1 rfl (lv_room (Nat.le_of_ble_eq_true rfl)) dX11_event_48 ⟨by exact Nat.le_of_ble_eq_true rfl, by exact Nat.le_of_ble_eq_true rfl⟩) hG (c2 := 0) (s2 := 0) ⟨by exact Nat.le_of_ble_eq_true rfl, by exact Nat.le_of_ble_eq_true rfl⟩ (fun z73 M74 ez73 H locs hG => ?_)
            obtain ⟨ez73, eM74⟩ := ez73
            subst ez73
            rw [eM74] at hG
            refine lv_iload_n hx hb dX11_event_51 rfl (lv_at hl 2 rfl) ?_
            obtain ⟨g75, h⟩ := h
            refine j_conti (va_runS (As := [.int (J a2)]) (rest := [.int (J (pf_X11_rank (M4 (a0 + 9) (x3 - 1))))]) ⟨hx, hb, hml, hown, hts⟩ (A_X11_rank l g75) (va_cwS 1 hts (gj_S ml_RX11_171 i_X11_rank n_RX11 k_X11_rank) rfl rfl rfl (by decide +kernel) ⟨by exact Nat.le_of_ble_eq_true rfl, by exact Nat.le_of_ble_eq_true rfl⟩) (j_preS hK hSX hG) rfl rfl hl.1 rfl (lv_room (Nat.le_of_ble_eq_true rfl)) dX11_event_52 ⟨by exact Nat.le_of_ble_eq_true rfl, by exact Nat.le_of_ble_eq_true rfl⟩) hG (c2 := 0) (s2 := 0) ⟨by exact Nat.le_of_ble_eq_true rfl, by exact Nat.le_of_ble_eq_true rfl⟩ (fun z76 M77 ez76 H locs hG => ?_)
            obtain ⟨ez76, eM77⟩ := ez76
            subst ez76
            rw [eM77] at hG
            obtain ⟨g79, h⟩ := h
            obtain ⟨g80, h⟩ := h
            refine j_icmp_le (tgt := 92) hx hb dX11_event_55 (by decide) g79 g80 (fun c78 => ?_) (fun c78 => ?_)
            · have h := h.1 c78
              exact jK42 h H locs hG ls (lv_sub hl [0, 1, 2, 3] rfl)
            · have h := h.2 c78
              exact jK62 h H locs hG ls (lv_sub hl [0, 1, 2, 3] rfl)
  exact lI5 n6s x2 M1 iI5 H locs hG ls (lv_sub hl [1, 2, 3, 0] rfl)

abbrev rm_X11_compiles : Room := { frames := 3, cells := 0, slots := 0, locals := 71 }
set_option maxRecDepth 100000 in
set_option maxHeartbeats 4000000 in
theorem A_X11_compiles (l : Launch) {D : va_G} {cy : Nat → ClassId} {o : Nat} {sK sV : Nat → Nat} {M : jT} {a0 : Int} {a1 : Int} (ka0 : kd a0 = 11) {Q : jT → Prop} (h : wp_X11_compiles M a0 a1 Q) : CoV l yX11_compiles (wj yX11_compiles cX11_compiles 10 none) rm_X11_compiles D cy o sK sV M [.ref (rA o a0), .int (J a1)] Q := by
  refine j_ofW (cc := cX11_compiles) (maxL := 10) (ret := none) (by decide) rfl (Nat.le_of_ble_eq_true rfl) ?_
  intro p e s m args below meth c hx hb hr hlocks hml hown hts hK hSX H locs hG ls hl Qf hQf
  have hown : s.vm.findClass RX11 = some m.cls := hown
  have hl : lv_has ls 10 [(0, .ref (rA o a0)), (1, .int (J a1))] := hl
  have w_fl_RX11_35 := hts _ (List.mem_cons_of_mem _ fl_RX11_35)
  have w_fl_RX11_168 := hts _ (List.mem_cons_of_mem _ fl_RX11_168)
  have w_fl_RX11_9 := hts _ (List.mem_cons_of_mem _ fl_RX11_9)
  have w_fl_RX11_181 := hts _ (List.mem_cons_of_mem _ fl_RX11_181)
  have w_fl_RX11_184 := hts _ (List.mem_cons_of_mem _ fl_RX11_184)
  have w_fl_RX11_41 := hts _ (List.mem_cons_of_mem _ fl_RX11_41)
  have w_fl_RX11_38 := hts _ (List.mem_cons_of_mem _ fl_RX11_38)
  have w_fl_RX11_44 := hts _ (List.mem_cons_of_mem _ fl_RX11_44)
  have w_fl_RX11_59 := hts _ (List.mem_cons_of_mem _ fl_RX11_59)
  have w_fl_RX11_62 := hts _ (List.mem_cons_of_mem _ fl_RX11_62)
  have w_fl_RX11_65 := hts _ (List.mem_cons_of_mem _ fl_RX11_65)
  have w_fl_RX11_47 := hts _ (List.mem_cons_of_mem _ fl_RX11_47)
  have w_fl_RX11_50 := hts _ (List.mem_cons_of_mem _ fl_RX11_50)
  have w_fl_RX11_53 := hts _ (List.mem_cons_of_mem _ fl_RX11_53)
  have w_fl_RX11_56 := hts _ (List.mem_cons_of_mem _ fl_RX11_56)
  unfold wp_X11_compiles at h
  refine lv_aload_n hx hb dX11_compiles_0 rfl (lv_at hl 0 rfl) ?_
  refine j_geti hx hb hts hown hK hG (k := a0) (fun w h => List.mem_cons_of_mem _ (u_X11 w h)) (ci := 10) rfl ka0 14 (by decide) (jz := 14) rfl w_fl_RX11_35 dX11_compiles_1 ?_
  refine lv_iload_n hx hb dX11_compiles_4 rfl (lv_at hl 1 rfl) ?_
  obtain ⟨g2, h⟩ := h
  obtain ⟨g3, h⟩ := h
  refine j_icmp_ne (tgt := 9) hx hb dX11_compiles_5 (by decide) g2 g3 (fun c1 => ?_) (fun c1 => ?_)
  · have h := h.1 c1
    refine lv_aload_n hx hb dX11_compiles_9 rfl (lv_at hl 0 rfl) ?_
    refine lv_iload_n hx hb dX11_compiles_10 rfl (lv_at hl 1 rfl) ?_
    refine j_puti hx hb hts hown hK hG (k := a0) (fun w h => List.mem_cons_of_mem _ (u_X11 w h)) tyX11 tyX11_ok nmX11 (ci := 10) rfl ka0 14 (by decide) (jz := 14) rfl w_fl_RX11_35 (hd := rfl) (hn := rfl) (hfit := rfl) (hdg := dX11_compiles_11) (fun M4 eM4 H locs hG => ?_)
    have h := h M4 eM4
    refine lv_iload_n hx hb dX11_compiles_14 rfl (lv_at hl 1 rfl) ?_
    refine j_conti (va_runS (As := [.int (J a1)]) (rest := []) ⟨hx, hb, hml, hown, hts⟩ (A_X11_zoneAt l) (va_cwS 1 hts (gj_S ml_RX11_123 i_X11_zoneAt n_RX11 k_X11_zoneAt) rfl rfl rfl (by decide +kernel) ⟨by exact Nat.le_of_ble_eq_true rfl, by exact Nat.le_of_ble_eq_true rfl⟩) (j_preS hK hSX hG) rfl rfl hl.1 rfl (lv_room (Nat.le_of_ble_eq_true rfl)) dX11_compiles_15 ⟨by exact Nat.le_of_ble_eq_true rfl, by exact Nat.le_of_ble_eq_true rfl⟩) hG (c2 := 0) (s2 := 0) ⟨by exact Nat.le_of_ble_eq_true rfl, by exact Nat.le_of_ble_eq_true rfl⟩ (fun z5 M6 ez5 H locs hG => ?_)
    obtain ⟨ez5, eM6⟩ := ez5
    subst ez5
    rw [eM6] at hG
    refine j_topi (fun x7 ex7 => ?_)
    have h := h x7 ex7
    refine lv_istore_n (lv' := [(2, .int (J x7)), (0, .ref (rA o a0)), (1, .int (J a1))]) hx hb dX11_compiles_18 rfl hl (by decide) rfl (fun ls hl => ?_)
    refine lv_aload_n hx hb dX11_compiles_19 rfl (lv_at hl 1 rfl) ?_
    refine lv_iconst (v := J 0) hx hb dX11_compiles_20 (by decide) ?_
    refine j_puti hx hb hts hown hK hG (k := a0) (fun w h => List.mem_cons_of_mem _ (u_X11 w h)) tyX11 tyX11_ok nmX11 (ci := 10) rfl ka0 15 (by decide) (jz := 15) rfl w_fl_RX11_168 (hd := rfl) (hn := rfl) (hfit := rfl) (hdg := dX11_compiles_21) (fun M8 eM8 H locs hG => ?_)
    have h := h M8 eM8
    refine lv_iconst (v := J 0) hx hb dX11_compiles_24 (by decide) ?_
    refine lv_istore_n (lv' := [(3, .int (J 0)), (2, .int (J x7)), (0, .ref (rA o a0)), (1, .int (J a1))]) hx hb dX11_compiles_25 rfl hl (by decide) rfl (fun ls hl => ?_)
    obtain ⟨I11, ⟨n12s, iI11⟩, qI11⟩ := h
    have lI11 : ∀ (n12 : Nat) (x9 : Int) (M10 : jT), I11 n12 x9 M10 → ∀ (H : Heap) (locs : List Loc), GM D cy o M10 s.heap H locs → ∀ ls : Array Slot, lv_has ls 10 [(0, .ref (rA o a0)), (1, .int (J a1)), (2, .int (J x7)), (3, .int (J x9))] → W p l e rm_X11_compiles s m args below meth c H locs 0 0 Qf (F0 m 26 ls []) := by
      intro n12
      induction n12 using Nat.strongRecOn with
      | ind n12 rI11 =>
        intro x9 M10 iI11 H locs hG ls hl
        have h := qI11 n12 x9 M10 iI11
        refine lv_iload_n hx hb dX11_compiles_26 rfl (lv_at hl 3 rfl) ?_
        refine lv_aload_n hx hb dX11_compiles_27 rfl (lv_at hl 0 rfl) ?_
        refine j_getr hx hb hts hown hK hG (k := a0) (fun w h => List.mem_cons_of_mem _ (u_X11 w h)) (ci := 10) rfl ka0 1 (k2 := a0 + 1) (by decide) (by show a0 + (1 : Int) = a0 + 1; omega) w_fl_RX11_9 dX11_compiles_28 ?_
        refine lv_iload_n hx hb dX11_compiles_31 rfl (lv_at hl 2 rfl) ?_
        refine lv_iconst (v := J 1) hx hb dX11_compiles_32 (by decide) ?_
        refine j_iadd hx hb dX11_compiles_33 ?_
        obtain ⟨g13, h⟩ := h
        refine j_iald hx hb hK hG (n := 1294) (kf_11_1 ka0) (by decide) g13 dX11_compiles_34 ?_
        obtain ⟨g15, h⟩ := h
        obtain ⟨g16, h⟩ := h
        refine j_icmp_ge (tgt := 131) hx hb dX11_compiles_35 (by decide) g15 g16 (fun c14 => ?_) (fun c14 => ?_)
        · have h := h.1 c14
          refine lv_iconst (v := J 0) hx hb dX11_compiles_131 (by decide) ?_
          refine lv_istore_n (lv' := [(3, .int (J 0)), (0, .ref (rA o a0)), (1, .int (J a1)), (2, .int (J x7))]) hx hb dX11_compiles_132 rfl hl (by decide) rfl (fun ls hl => ?_)
          obtain ⟨I19, ⟨n20s, iI19⟩, qI19⟩ := h
          have lI19 : ∀ (n20 : Nat) (x17 : Int) (M18 : jT), I19 n20 x17 M18 → ∀ (H : Heap) (locs : List Loc), GM D cy o M18 s.heap H locs → ∀ ls : Array Slot, lv_has ls 10 [(0, .ref (rA o a0)), (1, .int (J a1)), (2, .int (J x7)), (3, .int (J x17))] → W p l e rm_X11_compiles s m args below meth c H locs 0 0 Qf (F0 m 133 ls []) := by
            intro n20
            induction n20 using Nat.strongRecOn with
            | ind n20 rI19 =>
              intro x17 M18 iI19 H locs hG ls hl
              have h := qI19 n20 x17 M18 iI19
              refine lv_iload_n hx hb dX11_compiles_133 rfl (lv_at hl 3 rfl) ?_
              refine lv_aload_n hx hb dX11_compiles_134 rfl (lv_at hl 0 rfl) ?_
              refine j_getr hx hb hts hown hK hG (k := a0) (fun w h => List.mem_cons_of_mem _ (u_X11 w h)) (ci := 10) rfl ka0 1 (k2 := a0 + 1) (by decide) (by show a0 + (1 : Int) = a0 + 1; omega) w_fl_RX11_9 dX11_compiles_135 ?_
              refine lv_iload_n hx hb dX11_compiles_138 rfl (lv_at hl 2 rfl) ?_
              refine lv_iconst (v := J 2) hx hb dX11_compiles_139 (by decide) ?_
              refine j_iadd hx hb dX11_compiles_140 ?_
              obtain ⟨g21, h⟩ := h
              refine j_iald hx hb hK hG (n := 1294) (kf_11_1 ka0) (by decide) g21 dX11_compiles_141 ?_
              obtain ⟨g23, h⟩ := h
              obtain ⟨g24, h⟩ := h
              refine j_icmp_ge (tgt := 176) hx hb dX11_compiles_142 (by decide) g23 g24 (fun c22 => ?_) (fun c22 => ?_)
              · have h := h.1 c22
                refine lv_aload_n hx hb dX11_compiles_176 rfl (lv_at hl 0 rfl) ?_
                refine lv_iconst (v := J 0) hx hb dX11_compiles_177 (by decide) ?_
                refine j_puti hx hb hts hown hK hG (k := a0) (fun w h => List.mem_cons_of_mem _ (u_X11 w h)) tyX11 tyX11_ok nmX11 (ci := 10) rfl ka0 18 (by decide) (jz := 18) rfl w_fl_RX11_181 (hd := rfl) (hn := rfl) (hfit := rfl) (hdg := dX11_compiles_178) (fun M25 eM25 H locs hG => ?_)
                have h := h M25 eM25
                refine lv_aload_n hx hb dX11_compiles_181 rfl (lv_at hl 0 rfl) ?_
                refine lv_iconst (v := J 0) hx hb dX11_compiles_182 (by decide) ?_
                refine j_puti hx hb hts hown hK hG (k := a0) (fun w h => List.mem_cons_of_mem _ (u_X11 w h)) tyX11 tyX11_ok nmX11 (ci := 10) rfl ka0 24 (by decide) (jz := 24) rfl w_fl_RX11_184 (hd := rfl) (hn := rfl) (hfit := rfl) (hdg := dX11_compiles_183) (fun M26 eM26 H locs hG => ?_)
                have h := h M26 eM26
                refine lv_aload_n hx hb dX11_compiles_186 rfl (lv_at hl 0 rfl) ?_
                refine j_getr hx hb hts hown hK hG (k := a0) (fun w h => List.mem_cons_of_mem _ (u_X11 w h)) (ci := 10) rfl ka0 1 (k2 := a0 + 1) (by decide) (by show a0 + (1 : Int) = a0 + 1; omega) w_fl_RX11_9 dX11_compiles_187 ?_
                refine lv_iload_n hx hb dX11_compiles_190 rfl (lv_at hl 2 rfl) ?_
                obtain ⟨g27, h⟩ := h
                refine j_iald hx hb hK hG (n := 1294) (kf_11_1 ka0) (by decide) g27 dX11_compiles_191 ?_
                refine j_topi (fun x28 ex28 => ?_)
                have h := h x28 ex28
                refine lv_istore_n (lv' := [(3, .int (J x28)), (0, .ref (rA o a0)), (1, .int (J a1)), (2, .int (J x7))]) hx hb dX11_compiles_192 rfl hl (by decide) rfl (fun ls hl => ?_)
                refine lv_iconst (v := J 0) hx hb dX11_compiles_193 (by decide) ?_
                refine lv_istore (lv' := [(4, .int (J 0)), (3, .int (J x28)), (0, .ref (rA o a0)), (1, .int (J a1)), (2, .int (J x7))]) hx hb dX11_compiles_194 hl (by decide) rfl (fun ls hl => ?_)
                refine lv_iconst (v := J 0) hx hb dX11_compiles_196 (by decide) ?_
                refine lv_istore (lv' := [(5, .int (J 0)), (4, .int (J 0)), (3, .int (J x28)), (0, .ref (rA o a0)), (1, .int (J a1)), (2, .int (J x7))]) hx hb dX11_compiles_197 hl (by decide) rfl (fun ls hl => ?_)
                obtain ⟨I33, ⟨n34s, iI33⟩, qI33⟩ := h
                have lI33 : ∀ (n34 : Nat) (x29 : Int) (x30 : Int) (x31 : Int) (M32 : jT), I33 n34 x29 x30 x31 M32 → ∀ (H : Heap) (locs : List Loc), GM D cy o M32 s.heap H locs → ∀ ls : Array Slot, lv_has ls 10 [(0, .ref (rA o a0)), (1, .int (J a1)), (2, .int (J x7)), (3, .int (J x29)), (4, .int (J x30)), (5, .int (J x31))] → W p l e rm_X11_compiles s m args below meth c H locs 0 0 Qf (F0 m 199 ls []) := by
                  intro n34
                  induction n34 using Nat.strongRecOn with
                  | ind n34 rI33 =>
                    intro x29 x30 x31 M32 iI33 H locs hG ls hl
                    have h := qI33 n34 x29 x30 x31 M32 iI33
                    refine lv_iload hx hb dX11_compiles_199 (lv_at hl 5 rfl) ?_
                    refine lv_aload_n hx hb dX11_compiles_201 rfl (lv_at hl 0 rfl) ?_
                    refine j_geti hx hb hts hown hK hG (k := a0) (fun w h => List.mem_cons_of_mem _ (u_X11 w h)) (ci := 10) rfl ka0 15 (by decide) (jz := 15) rfl w_fl_RX11_168 dX11_compiles_202 ?_
                    obtain ⟨g36, h⟩ := h
                    obtain ⟨g37, h⟩ := h
                    refine j_icmp_ge (tgt := 481) hx hb dX11_compiles_205 (by decide) g36 g37 (fun c35 => ?_) (fun c35 => ?_)
                    · have h := h.1 c35
                      rw [hQf]
                      exact j_vret hx hb hr hlocks hG h (by decide) dX11_compiles_481
                    · have h := h.2 c35
                      refine lv_aload_n hx hb dX11_compiles_208 rfl (lv_at hl 0 rfl) ?_
                      refine j_getr hx hb hts hown hK hG (k := a0) (fun w h => List.mem_cons_of_mem _ (u_X11 w h)) (ci := 10) rfl ka0 17 (k2 := a0 + 9) (by decide) (by show a0 + (9 : Int) = a0 + 9; omega) w_fl_RX11_41 dX11_compiles_209 ?_
                      refine lv_iload hx hb dX11_compiles_212 (lv_at hl 5 rfl) ?_
                      obtain ⟨g38, h⟩ := h
                      refine j_iald hx hb hK hG (n := 261) (kf_11_17 ka0) (by decide) g38 dX11_compiles_214 ?_
                      refine j_topi (fun x39 ex39 => ?_)
                      have h := h x39 ex39
                      refine lv_istore (lv' := [(6, .int (J x39)), (0, .ref (rA o a0)), (1, .int (J a1)), (2, .int (J x7)), (3, .int (J x29)), (4, .int (J x30)), (5, .int (J x31))]) hx hb dX11_compiles_215 hl (by decide) rfl (fun ls hl => ?_)
                      refine lv_iload hx hb dX11_compiles_217 (lv_at hl 0 rfl) ?_
                      refine lv_bipush (v := J 100) hx hb dX11_compiles_219 (by decide) ?_
                      obtain ⟨hg, h⟩ := h
                      have jK46 : ∀ x45 : Int, (x39 < 100 → x45 = M32 (a0 + 1) ((pf_X11_ruleAt a1 x39) + 5)) → (100 ≤ x39 → x45 = 0) → ∀ (H : Heap) (locs : List Loc), GM D cy o M32 s.heap H locs → ∀ ls : Array Slot, lv_has ls 10 [(0, .ref (rA o a0)), (1, .int (J a1)), (2, .int (J x7)), (3, .int (J x29)), (4, .int (J x30)), (5, .int (J x31)), (6, .int (J x39))] → W p l e rm_X11_compiles s m args below meth c H locs 0 0 Qf (F0 m 241 ls [.int (J x45)]) := by
                        intro x45 qx45_0 qx45_1 H locs hG ls hl
                        have h := h x45 qx45_0 qx45_1
                        refine lv_istore (lv' := [(7, .int (J x45)), (0, .ref (rA o a0)), (1, .int (J a1)), (2, .int (J x7)), (3, .int (J x29)), (4, .int (J x30)), (5, .int (J x31)), (6, .int (J x39))]) hx hb dX11_compiles_241 hl (by decide) rfl (fun ls hl => ?_)
                        refine lv_aload_n hx hb dX11_compiles_243 rfl (lv_at hl 1 rfl) ?_
                        refine j_getr hx hb hts hown hK hG (k := a0) (fun w h => List.mem_cons_of_mem _ (u_X11 w h)) (ci := 10) rfl ka0 16 (k2 := a0 + 8) (by decide) (by show a0 + (8 : Int) = a0 + 8; omega) w_fl_RX11_38 dX11_compiles_244 ?_
                        refine lv_iload hx hb dX11_compiles_247 (lv_at hl 6 rfl) ?_
                        refine j_iald hx hb hK hG (n := 261) (kf_11_16 ka0) (by decide) g38 dX11_compiles_249 ?_
                        refine lv_iload hx hb dX11_compiles_250 (lv_at hl 0 rfl) ?_
                        obtain ⟨hg, h⟩ := h
                        have jK56 : ∀ x55 : Int, (x45 ≠ 0 ∧ x45 ≠ 1 → x55 = 0) → (x45 ≠ 0 ∧ x45 = 1 → x55 = x29) → (x45 = 0 → x55 = x29 + x30) → ∀ (H : Heap) (locs : List Loc), GM D cy o M32 s.heap H locs → ∀ ls : Array Slot, lv_has ls 10 [(0, .ref (rA o a0)), (1, .int (J a1)), (2, .int (J x7)), (3, .int (J x29)), (4, .int (J x30)), (5, .int (J x31)), (6, .int (J x39))] → W p l e rm_X11_compiles s m args below meth c H locs 0 0 Qf (F0 m 273 ls [.int (J x55), .int (J (M32 (a0 + 8) x31))]) := by
                          intro x55 qx55_0 qx55_1 qx55_2 H locs hG ls hl
                          have h := h x55 qx55_0 qx55_1 qx55_2
                          refine j_isub hx hb dX11_compiles_273 ?_
                          refine j_topi (fun x60 ex60 => ?_)
                          have h := h x60 ex60
                          refine lv_istore (lv' := [(8, .int (J x60)), (0, .ref (rA o a0)), (1, .int (J a1)), (2, .int (J x7)), (3, .int (J x29)), (4, .int (J x30)), (5, .int (J x31)), (6, .int (J x39))]) hx hb dX11_compiles_274 hl (by decide) rfl (fun ls hl => ?_)
                          refine lv_aload_n hx hb dX11_compiles_276 rfl (lv_at hl 1 rfl) ?_
                          refine j_geti hx hb hts hown hK hG (k := a0) (fun w h => List.mem_cons_of_mem _ (u_X11 w h)) (ci := 10) rfl ka0 18 (by decide) (jz := 18) rfl w_fl_RX11_181 dX11_compiles_277 ?_
                          obtain ⟨K121, hK121, h⟩ := h
                          have jK121 : ∀ (x118 : Int) (x119 : Int) (M120 : jT), K121 x118 x119 M120 → ∀ (H : Heap) (locs : List Loc), GM D cy o M120 s.heap H locs → ∀ ls : Array Slot, lv_has ls 10 [(0, .ref (rA o a0)), (1, .int (J a1)), (2, .int (J x7)), (3, .int (J x118)), (4, .int (J x119)), (5, .int (J x31))] → W p l e rm_X11_compiles s m args below meth c H locs 0 0 Qf (F0 m 475 ls []) := by
                            intro x118 x119 M120 hcK121 H locs hG ls hl
                            have h := hK121 x118 x119 M120 hcK121
                            refine j_iinc hx hb dX11_compiles_475 hl (k := 5) rfl (by decide) (fun x122 ex122 ls hl => ?_)
                            have h := h x122 ex122
                            have hl : lv_has ls 10 [(5, .int (J x122)), (0, .ref (rA o a0)), (1, .int (J a1)), (2, .int (J x7)), (3, .int (J x118)), (4, .int (J x119))] := hl
                            refine lv_goto (tgt := 199) hx hb dX11_compiles_478 (by decide) ?_
                            obtain ⟨n123, ln123, iI33⟩ := h
                            exact rI33 n123 ln123 x118 x119 x122 M120 iI33 H locs hG ls (lv_sub hl [1, 2, 3, 4, 5, 0] rfl)
                          obtain ⟨K137, hK137, h⟩ := h
                          have jK137 : K137 → ∀ (H : Heap) (locs : List Loc), GM D cy o M32 s.heap H locs → ∀ ls : Array Slot, lv_has ls 10 [(0, .ref (rA o a0)), (1, .int (J a1)), (2, .int (J x7)), (3, .int (J x29)), (4, .int (J x30)), (5, .int (J x31)), (6, .int (J x39)), (8, .int (J x60))] → W p l e rm_X11_compiles s m args below meth c H locs 0 0 Qf (F0 m 347 ls []) := by
                            intro hcK137 H locs hG ls hl
                            have h := hK137 hcK137
                            refine lv_iload_n hx hb dX11_compiles_347 rfl (lv_at hl 3 rfl) ?_
                            refine lv_iload hx hb dX11_compiles_348 (lv_at hl 4 rfl) ?_
                            refine j_iadd hx hb dX11_compiles_350 ?_
                            refine j_topi (fun x138 ex138 => ?_)
                            have h := h x138 ex138
                            refine lv_istore (lv' := [(9, .int (J x138)), (0, .ref (rA o a0)), (1, .int (J a1)), (2, .int (J x7)), (3, .int (J x29)), (4, .int (J x30)), (5, .int (J x31)), (6, .int (J x39)), (8, .int (J x60))]) hx hb dX11_compiles_351 hl (by decide) rfl (fun ls hl => ?_)
                            refine lv_iload hx hb dX11_compiles_353 (lv_at hl 7 rfl) ?_
                            refine lv_bipush (v := J 100) hx hb dX11_compiles_355 (by decide) ?_
                            obtain ⟨hg, h⟩ := h
                            have jK147 : ∀ x145 : Int, (x39 < 100 → x145 = x29) → (100 ≤ x39 → x145 = M32 (a0 + 1) (((x7 + 59) + (2 * (x39 - 100))) + 1)) → ∀ x146 : Int, (x39 < 100 → x146 = M32 (a0 + 1) ((pf_X11_ruleAt a1 x39) + 6)) → (100 ≤ x39 → x146 = x30) → ∀ (H : Heap) (locs : List Loc), GM D cy o M32 s.heap H locs → ∀ ls : Array Slot, lv_has ls 10 [(0, .ref (rA o a0)), (1, .int (J a1)), (2, .int (J x7)), (3, .int (J x145)), (4, .int (J x146)), (5, .int (J x31)), (6, .int (J x39)), (8, .int (J x60)), (9, .int (J x138))] → W p l e rm_X11_compiles s m args below meth c H locs 0 0 Qf (F0 m 399 ls []) := by
                              intro x145 qx145_0 qx145_1 x146 qx146_0 qx146_1 H locs hG ls hl
                              have h := h x145 qx145_0 qx145_1 x146 qx146_0 qx146_1
                              refine lv_iload_n hx hb dX11_compiles_399 rfl (lv_at hl 3 rfl) ?_
                              refine lv_iload hx hb dX11_compiles_400 (lv_at hl 4 rfl) ?_
                              refine j_iadd hx hb dX11_compiles_402 ?_
                              refine lv_iload hx hb dX11_compiles_403 (lv_at hl 8 rfl) ?_
                              obtain ⟨g155, h⟩ := h
                              obtain ⟨g156, h⟩ := h
                              refine j_icmp_ne (tgt := 411) hx hb dX11_compiles_405 (by decide) g155 g156 (fun c154 => ?_) (fun c154 => ?_)
                              · have h := h.1 c154
                                refine lv_aload_n hx hb dX11_compiles_411 rfl (lv_at hl 0 rfl) ?_
                                refine j_getr hx hb hts hown hK hG (k := a0) (fun w h => List.mem_cons_of_mem _ (u_X11 w h)) (ci := 10) rfl ka0 19 (k2 := a0 + 10) (by decide) (by show a0 + (10 : Int) = a0 + 10; omega) w_fl_RX11_44 dX11_compiles_412 ?_
                                refine lv_aload_n hx hb dX11_compiles_415 rfl (lv_at hl 0 rfl) ?_
                                refine j_geti hx hb hts hown hK hG (k := a0) (fun w h => List.mem_cons_of_mem _ (u_X11 w h)) (ci := 10) rfl ka0 18 (by decide) (jz := 18) rfl w_fl_RX11_181 dX11_compiles_416 ?_
                                refine lv_iload hx hb dX11_compiles_419 (lv_at hl 7 rfl) ?_
                                obtain ⟨g157, h⟩ := h
                                refine j_iast hx hb hK hG (n := 261) (kf_11_19 ka0) (by decide) g157 dX11_compiles_421 (fun M158 eM158 H locs hG => ?_)
                                have h := h M158 eM158
                                refine lv_aload_n hx hb dX11_compiles_422 rfl (lv_at hl 0 rfl) ?_
                                refine j_getr hx hb hts hown hK hG (k := a0) (fun w h => List.mem_cons_of_mem _ (u_X11 w h)) (ci := 10) rfl ka0 20 (k2 := a0 + 11) (by decide) (by show a0 + (11 : Int) = a0 + 11; omega) w_fl_RX11_47 dX11_compiles_423 ?_
                                refine lv_aload_n hx hb dX11_compiles_426 rfl (lv_at hl 0 rfl) ?_
                                refine j_geti hx hb hts hown hK hG (k := a0) (fun w h => List.mem_cons_of_mem _ (u_X11 w h)) (ci := 10) rfl ka0 18 (by decide) (jz := 18) rfl w_fl_RX11_181 dX11_compiles_427 ?_
                                refine lv_iload hx hb dX11_compiles_430 (lv_at hl 8 rfl) ?_
                                obtain ⟨g159, h⟩ := h
                                refine j_iast hx hb hK hG (n := 261) (kf_11_20 ka0) (by decide) g159 dX11_compiles_432 (fun M160 eM160 H locs hG => ?_)
                                have h := h M160 eM160
                                refine lv_aload_n hx hb dX11_compiles_433 rfl (lv_at hl 0 rfl) ?_
                                refine j_getr hx hb hts hown hK hG (k := a0) (fun w h => List.mem_cons_of_mem _ (u_X11 w h)) (ci := 10) rfl ka0 21 (k2 := a0 + 12) (by decide) (by show a0 + (12 : Int) = a0 + 12; omega) w_fl_RX11_50 dX11_compiles_434 ?_
                                refine lv_aload_n hx hb dX11_compiles_437 rfl (lv_at hl 0 rfl) ?_
                                refine j_geti hx hb hts hown hK hG (k := a0) (fun w h => List.mem_cons_of_mem _ (u_X11 w h)) (ci := 10) rfl ka0 18 (by decide) (jz := 18) rfl w_fl_RX11_181 dX11_compiles_438 ?_
                                refine lv_iload_n hx hb dX11_compiles_441 rfl (lv_at hl 3 rfl) ?_
                                refine lv_iload hx hb dX11_compiles_442 (lv_at hl 4 rfl) ?_
                                refine j_iadd hx hb dX11_compiles_444 ?_
                                obtain ⟨g161, h⟩ := h
                                refine j_iast hx hb hK hG (n := 261) (kf_11_21 ka0) (by decide) g161 dX11_compiles_445 (fun M162 eM162 H locs hG => ?_)
                                have h := h M162 eM162
                                refine lv_aload_n hx hb dX11_compiles_446 rfl (lv_at hl 0 rfl) ?_
                                refine j_getr hx hb hts hown hK hG (k := a0) (fun w h => List.mem_cons_of_mem _ (u_X11 w h)) (ci := 10) rfl ka0 22 (k2 := a0 + 13) (by decide) (by show a0 + (13 : Int) = a0 + 13; omega) w_fl_RX11_53 dX11_compiles_447 ?_
                                refine lv_aload_n hx hb dX11_compiles_450 rfl (lv_at hl 0 rfl) ?_
                                refine j_geti hx hb hts hown hK hG (k := a0) (fun w h => List.mem_cons_of_mem _ (u_X11 w h)) (ci := 10) rfl ka0 18 (by decide) (jz := 18) rfl w_fl_RX11_181 dX11_compiles_451 ?_
                                refine lv_iload hx hb dX11_compiles_454 (lv_at hl 4 rfl) ?_
                                obtain ⟨g163, h⟩ := h
                                refine j_iast hx hb hK hG (n := 261) (kf_11_22 ka0) (by decide) g163 dX11_compiles_456 (fun M164 eM164 H locs hG => ?_)
                                have h := h M164 eM164
                                refine lv_aload_n hx hb dX11_compiles_457 rfl (lv_at hl 0 rfl) ?_
                                refine j_getr hx hb hts hown hK hG (k := a0) (fun w h => List.mem_cons_of_mem _ (u_X11 w h)) (ci := 10) rfl ka0 23 (k2 := a0 + 14) (by decide) (by show a0 + (14 : Int) = a0 + 14; omega) w_fl_RX11_56 dX11_compiles_458 ?_
                                refine lv_aload_n hx hb dX11_compiles_461 rfl (lv_at hl 0 rfl) ?_
                                refine lv_dup hx hb dX11_compiles_462 rfl ?_
                                refine j_geti hx hb hts hown hK hG (k := a0) (fun w h => List.mem_cons_of_mem _ (u_X11 w h)) (ci := 10) rfl ka0 18 (by decide) (jz := 18) rfl w_fl_RX11_181 dX11_compiles_463 ?_
                                refine lv_dup_x1 hx hb dX11_compiles_466 rfl rfl ?_
                                refine lv_iconst (v := J 1) hx hb dX11_compiles_467 (by decide) ?_
                                refine j_iadd hx hb dX11_compiles_468 ?_
                                refine j_puti hx hb hts hown hK hG (k := a0) (fun w h => List.mem_cons_of_mem _ (u_X11 w h)) tyX11 tyX11_ok nmX11 (ci := 10) rfl ka0 18 (by decide) (jz := 18) rfl w_fl_RX11_181 (hd := rfl) (hn := rfl) (hfit := rfl) (hdg := dX11_compiles_469) (fun M165 eM165 H locs hG => ?_)
                                have h := h M165 eM165
                                refine lv_iload hx hb dX11_compiles_472 (lv_at hl 6 rfl) ?_
                                obtain ⟨g166, h⟩ := h
                                refine j_iast hx hb hK hG (n := 261) (kf_11_23 ka0) (by decide) g166 dX11_compiles_474 (fun M167 eM167 H locs hG => ?_)
                                have h := h M167 eM167
                                exact jK121 x145 x146 M167 h H locs hG ls (lv_sub hl [0, 1, 2, 3, 4, 5] rfl)
                              · have h := h.2 c154
                                refine lv_goto (tgt := 475) hx hb dX11_compiles_408 (by decide) ?_
                                exact jK121 x145 x146 M32 h H locs hG ls (lv_sub hl [0, 1, 2, 3, 4, 5] rfl)
                            have h := hg
                            obtain ⟨g149, h⟩ := h
                            refine j_icmp_lt (tgt := 383) hx hb dX11_compiles_357 (by decide) g149 (by decide) (fun c148 => ?_) (fun c148 => ?_)
                            · have h := h.1 c148
                              refine lv_aload_n hx hb dX11_compiles_383 rfl (lv_at hl 1 rfl) ?_
                              refine j_getr hx hb hts hown hK hG (k := a0) (fun w h => List.mem_cons_of_mem _ (u_X11 w h)) (ci := 10) rfl ka0 1 (k2 := a0 + 1) (by decide) (by show a0 + (1 : Int) = a0 + 1; omega) w_fl_RX11_9 dX11_compiles_384 ?_
                              refine lv_iload_n hx hb dX11_compiles_387 rfl (lv_at hl 2 rfl) ?_
                              refine lv_iload hx hb dX11_compiles_388 (lv_at hl 7 rfl) ?_
                              refine j_conti (va_runS (As := [.int (J a1), .int (J x39)]) (rest := [.ref (rA o (a0 + 1))]) ⟨hx, hb, hml, hown, hts⟩ (A_X11_ruleAt l) (va_cwS 2 hts (gj_S ml_RX11_135 i_X11_ruleAt n_RX11 k_X11_ruleAt) rfl rfl rfl (by decide +kernel) ⟨by exact Nat.le_of_ble_eq_true rfl, by exact Nat.le_of_ble_eq_true rfl⟩) (j_preS hK hSX hG) rfl rfl hl.1 rfl (lv_room (Nat.le_of_ble_eq_true rfl)) dX11_compiles_390 ⟨by exact Nat.le_of_ble_eq_true rfl, by exact Nat.le_of_ble_eq_true rfl⟩) hG (c2 := 0) (s2 := 0) ⟨by exact Nat.le_of_ble_eq_true rfl, by exact Nat.le_of_ble_eq_true rfl⟩ (fun z150 M151 ez150 H locs hG => ?_)
                              obtain ⟨ez150, eM151⟩ := ez150
                              subst ez150
                              rw [eM151] at hG
                              refine lv_bipush (v := J 6) hx hb dX11_compiles_393 (by decide) ?_
                              refine j_iadd hx hb dX11_compiles_395 ?_
                              obtain ⟨g152, h⟩ := h
                              refine j_iald hx hb hK hG (n := 1294) (kf_11_1 ka0) (by decide) g152 dX11_compiles_396 ?_
                              refine lv_istore (lv' := [(4, .int (J (M32 (a0 + 1) ((pf_X11_ruleAt a1 x39) + 6)))), (9, .int (J x138)), (0, .ref (rA o a0)), (1, .int (J a1)), (2, .int (J x7)), (3, .int (J x29)), (5, .int (J x31)), (6, .int (J x39)), (8, .int (J x60))]) hx hb dX11_compiles_397 hl (by decide) rfl (fun ls hl => ?_)
                              exact jK147 x29 (fun _ => rfl) (fun q => absurd q (by omega)) (M32 (a0 + 1) ((pf_X11_ruleAt a1 x39) + 6)) (fun _ => rfl) (fun q => absurd q (by omega)) H locs hG ls (lv_sub hl [2, 3, 4, 5, 0, 6, 7, 8, 1] rfl)
                            · have h := h.2 c148
                              refine lv_aload_n hx hb dX11_compiles_360 rfl (lv_at hl 1 rfl) ?_
                              refine j_getr hx hb hts hown hK hG (k := a0) (fun w h => List.mem_cons_of_mem _ (u_X11 w h)) (ci := 10) rfl ka0 1 (k2 := a0 + 1) (by decide) (by show a0 + (1 : Int) = a0 + 1; omega) w_fl_RX11_9 dX11_compiles_361 ?_
                              refine lv_iload_n hx hb dX11_compiles_364 rfl (lv_at hl 3 rfl) ?_
                              refine lv_bipush (v := J 59) hx hb dX11_compiles_365 (by decide) ?_
                              refine j_iadd hx hb dX11_compiles_367 ?_
                              refine lv_iconst (v := J 2) hx hb dX11_compiles_368 (by decide) ?_
                              refine lv_iload hx hb dX11_compiles_369 (lv_at hl 7 rfl) ?_
                              refine lv_bipush (v := J 100) hx hb dX11_compiles_371 (by decide) ?_
                              refine j_isub hx hb dX11_compiles_373 ?_
                              refine j_imul hx hb dX11_compiles_374 ?_
                              refine j_iadd hx hb dX11_compiles_375 ?_
                              refine lv_iconst (v := J 1) hx hb dX11_compiles_376 (by decide) ?_
                              refine j_iadd hx hb dX11_compiles_377 ?_
                              obtain ⟨g153, h⟩ := h
                              refine j_iald hx hb hK hG (n := 1294) (kf_11_1 ka0) (by decide) g153 dX11_compiles_378 ?_
                              refine lv_istore_n (lv' := [(3, .int (J (M32 (a0 + 1) (((x7 + 59) + (2 * (x39 - 100))) + 1)))), (9, .int (J x138)), (0, .ref (rA o a0)), (1, .int (J a1)), (2, .int (J x7)), (4, .int (J x30)), (5, .int (J x31)), (6, .int (J x39)), (8, .int (J x60))]) hx hb dX11_compiles_379 rfl hl (by decide) rfl (fun ls hl => ?_)
                              refine lv_goto (tgt := 399) hx hb dX11_compiles_380 (by decide) ?_
                              exact jK147 (M32 (a0 + 1) (((x7 + 59) + (2 * (x39 - 100))) + 1)) (fun q => absurd q (by omega)) (fun _ => rfl) x30 (fun q => absurd q (by omega)) (fun _ => rfl) H locs hG ls (lv_sub hl [2, 3, 4, 0, 5, 6, 7, 8, 1] rfl)
                          obtain ⟨g169, h⟩ := h
                          refine j_if_le (tgt := 347) hx hb dX11_compiles_280 (by decide) g169 (fun c168 => ?_) (fun c168 => ?_)
                          · have h := h.1 c168
                            exact jK137 h H locs hG ls (lv_sub hl [1, 2, 3, 4, 5, 6, 7, 0] rfl)
                          · have h := h.2 c168
                            refine lv_aload_n hx hb dX11_compiles_283 rfl (lv_at hl 1 rfl) ?_
                            refine j_getr hx hb hts hown hK hG (k := a0) (fun w h => List.mem_cons_of_mem _ (u_X11 w h)) (ci := 10) rfl ka0 19 (k2 := a0 + 10) (by decide) (by show a0 + (10 : Int) = a0 + 10; omega) w_fl_RX11_44 dX11_compiles_284 ?_
                            refine lv_aload_n hx hb dX11_compiles_287 rfl (lv_at hl 1 rfl) ?_
                            refine j_geti hx hb hts hown hK hG (k := a0) (fun w h => List.mem_cons_of_mem _ (u_X11 w h)) (ci := 10) rfl ka0 18 (by decide) (jz := 18) rfl w_fl_RX11_181 dX11_compiles_288 ?_
                            refine lv_iconst (v := J 1) hx hb dX11_compiles_291 (by decide) ?_
                            refine j_isub hx hb dX11_compiles_292 ?_
                            obtain ⟨g170, h⟩ := h
                            refine j_iald hx hb hK hG (n := 261) (kf_11_19 ka0) (by decide) g170 dX11_compiles_293 ?_
                            refine lv_iload hx hb dX11_compiles_294 (lv_at hl 0 rfl) ?_
                            obtain ⟨g172, h⟩ := h
                            obtain ⟨g173, h⟩ := h
                            refine j_icmp_lt (tgt := 347) hx hb dX11_compiles_296 (by decide) g172 g173 (fun c171 => ?_) (fun c171 => ?_)
                            · have h := h.1 c171
                              exact jK137 h H locs hG ls (lv_sub hl [1, 2, 3, 4, 5, 6, 7, 0] rfl)
                            · have h := h.2 c171
                              refine lv_aload_n hx hb dX11_compiles_299 rfl (lv_at hl 1 rfl) ?_
                              refine j_getr hx hb hts hown hK hG (k := a0) (fun w h => List.mem_cons_of_mem _ (u_X11 w h)) (ci := 10) rfl ka0 25 (k2 := a0 + 15) (by decide) (by show a0 + (15 : Int) = a0 + 15; omega) w_fl_RX11_59 dX11_compiles_300 ?_
                              refine lv_aload_n hx hb dX11_compiles_303 rfl (lv_at hl 1 rfl) ?_
                              refine j_geti hx hb hts hown hK hG (k := a0) (fun w h => List.mem_cons_of_mem _ (u_X11 w h)) (ci := 10) rfl ka0 24 (by decide) (jz := 24) rfl w_fl_RX11_184 dX11_compiles_304 ?_
                              refine lv_aload_n hx hb dX11_compiles_307 rfl (lv_at hl 1 rfl) ?_
                              refine j_getr hx hb hts hown hK hG (k := a0) (fun w h => List.mem_cons_of_mem _ (u_X11 w h)) (ci := 10) rfl ka0 16 (k2 := a0 + 8) (by decide) (by show a0 + (8 : Int) = a0 + 8; omega) w_fl_RX11_38 dX11_compiles_308 ?_
                              refine lv_iload hx hb dX11_compiles_311 (lv_at hl 6 rfl) ?_
                              refine j_iald hx hb hK hG (n := 261) (kf_11_16 ka0) (by decide) g38 dX11_compiles_313 ?_
                              obtain ⟨g174, h⟩ := h
                              refine j_iast hx hb hK hG (n := 261) (kf_11_25 ka0) (by decide) g174 dX11_compiles_314 (fun M175 eM175 H locs hG => ?_)
                              have h := h M175 eM175
                              refine lv_aload_n hx hb dX11_compiles_315 rfl (lv_at hl 1 rfl) ?_
                              refine j_getr hx hb hts hown hK hG (k := a0) (fun w h => List.mem_cons_of_mem _ (u_X11 w h)) (ci := 10) rfl ka0 26 (k2 := a0 + 16) (by decide) (by show a0 + (16 : Int) = a0 + 16; omega) w_fl_RX11_62 dX11_compiles_316 ?_
                              refine lv_aload_n hx hb dX11_compiles_319 rfl (lv_at hl 1 rfl) ?_
                              refine j_geti hx hb hts hown hK hG (k := a0) (fun w h => List.mem_cons_of_mem _ (u_X11 w h)) (ci := 10) rfl ka0 24 (by decide) (jz := 24) rfl w_fl_RX11_184 dX11_compiles_320 ?_
                              refine lv_iload hx hb dX11_compiles_323 (lv_at hl 0 rfl) ?_
                              obtain ⟨g176, h⟩ := h
                              refine j_iast hx hb hK hG (n := 261) (kf_11_26 ka0) (by decide) g176 dX11_compiles_325 (fun M177 eM177 H locs hG => ?_)
                              have h := h M177 eM177
                              refine lv_aload_n hx hb dX11_compiles_326 rfl (lv_at hl 1 rfl) ?_
                              refine j_getr hx hb hts hown hK hG (k := a0) (fun w h => List.mem_cons_of_mem _ (u_X11 w h)) (ci := 10) rfl ka0 27 (k2 := a0 + 17) (by decide) (by show a0 + (17 : Int) = a0 + 17; omega) w_fl_RX11_65 dX11_compiles_327 ?_
                              refine lv_aload_n hx hb dX11_compiles_330 rfl (lv_at hl 1 rfl) ?_
                              refine lv_dup hx hb dX11_compiles_331 rfl ?_
                              refine j_geti hx hb hts hown hK hG (k := a0) (fun w h => List.mem_cons_of_mem _ (u_X11 w h)) (ci := 10) rfl ka0 24 (by decide) (jz := 24) rfl w_fl_RX11_184 dX11_compiles_332 ?_
                              refine lv_dup_x1 hx hb dX11_compiles_335 rfl rfl ?_
                              refine lv_iconst (v := J 1) hx hb dX11_compiles_336 (by decide) ?_
                              refine j_iadd hx hb dX11_compiles_337 ?_
                              refine j_puti hx hb hts hown hK hG (k := a0) (fun w h => List.mem_cons_of_mem _ (u_X11 w h)) tyX11 tyX11_ok nmX11 (ci := 10) rfl ka0 24 (by decide) (jz := 24) rfl w_fl_RX11_184 (hd := rfl) (hn := rfl) (hfit := rfl) (hdg := dX11_compiles_338) (fun M178 eM178 H locs hG => ?_)
                              have h := h M178 eM178
                              refine lv_iload hx hb dX11_compiles_341 (lv_at hl 7 rfl) ?_
                              obtain ⟨g179, h⟩ := h
                              refine j_iast hx hb hK hG (n := 261) (kf_11_27 ka0) (by decide) g179 dX11_compiles_343 (fun M180 eM180 H locs hG => ?_)
                              have h := h M180 eM180
                              refine lv_goto (tgt := 475) hx hb dX11_compiles_344 (by decide) ?_
                              exact jK121 x29 x30 M180 h H locs hG ls (lv_sub hl [1, 2, 3, 4, 5, 6] rfl)
                        have h := hg
                        obtain ⟨g58, h⟩ := h
                        refine j_if_ne (tgt := 262) hx hb dX11_compiles_252 (by decide) g58 (fun c57 => ?_) (fun c57 => ?_)
                        · have h := h.1 c57
                          refine lv_iload hx hb dX11_compiles_262 (lv_at hl 0 rfl) ?_
                          refine lv_iconst (v := J 1) hx hb dX11_compiles_264 (by decide) ?_
                          refine j_icmp_ne (tgt := 272) hx hb dX11_compiles_265 (by decide) g58 (by decide) (fun c59 => ?_) (fun c59 => ?_)
                          · have h := h.1 c59
                            refine lv_iconst (v := J 0) hx hb dX11_compiles_272 (by decide) ?_
                            exact jK56 0 (fun _ => rfl) (fun q => absurd q.2 (by omega)) (fun q => absurd q (by omega)) H locs hG ls (lv_sub hl [1, 2, 3, 4, 5, 6, 7] rfl)
                          · have h := h.2 c59
                            refine lv_iload_n hx hb dX11_compiles_268 rfl (lv_at hl 4 rfl) ?_
                            refine lv_goto (tgt := 273) hx hb dX11_compiles_269 (by decide) ?_
                            exact jK56 x29 (fun q => absurd q.2 (by omega)) (fun _ => rfl) (fun q => absurd q (by omega)) H locs hG ls (lv_sub hl [1, 2, 3, 4, 5, 6, 7] rfl)
                        · have h := h.2 c57
                          refine lv_iload_n hx hb dX11_compiles_255 rfl (lv_at hl 4 rfl) ?_
                          refine lv_iload hx hb dX11_compiles_256 (lv_at hl 5 rfl) ?_
                          refine j_iadd hx hb dX11_compiles_258 ?_
                          refine lv_goto (tgt := 273) hx hb dX11_compiles_259 (by decide) ?_
                          exact jK56 (x29 + x30) (fun q => absurd q.1 (by omega)) (fun q => absurd q.1 (by omega)) (fun _ => rfl) H locs hG ls (lv_sub hl [1, 2, 3, 4, 5, 6, 7] rfl)
                      have h := hg
                      obtain ⟨g48, h⟩ := h
                      refine j_icmp_lt (tgt := 228) hx hb dX11_compiles_221 (by decide) g48 (by decide) (fun c47 => ?_) (fun c47 => ?_)
                      · have h := h.1 c47
                        refine lv_aload_n hx hb dX11_compiles_228 rfl (lv_at hl 1 rfl) ?_
                        refine j_getr hx hb hts hown hK hG (k := a0) (fun w h => List.mem_cons_of_mem _ (u_X11 w h)) (ci := 10) rfl ka0 1 (k2 := a0 + 1) (by decide) (by show a0 + (1 : Int) = a0 + 1; omega) w_fl_RX11_9 dX11_compiles_229 ?_
                        refine lv_iload_n hx hb dX11_compiles_232 rfl (lv_at hl 2 rfl) ?_
                        refine lv_iload hx hb dX11_compiles_233 (lv_at hl 0 rfl) ?_
                        refine j_conti (va_runS (As := [.int (J a1), .int (J x39)]) (rest := [.ref (rA o (a0 + 1))]) ⟨hx, hb, hml, hown, hts⟩ (A_X11_ruleAt l) (va_cwS 2 hts (gj_S ml_RX11_135 i_X11_ruleAt n_RX11 k_X11_ruleAt) rfl rfl rfl (by decide +kernel) ⟨by exact Nat.le_of_ble_eq_true rfl, by exact Nat.le_of_ble_eq_true rfl⟩) (j_preS hK hSX hG) rfl rfl hl.1 rfl (lv_room (Nat.le_of_ble_eq_true rfl)) dX11_compiles_235 ⟨by exact Nat.le_of_ble_eq_true rfl, by exact Nat.le_of_ble_eq_true rfl⟩) hG (c2 := 0) (s2 := 0) ⟨by exact Nat.le_of_ble_eq_true rfl, by exact Nat.le_of_ble_eq_true rfl⟩ (fun z49 M50 ez49 H locs hG => ?_)
                        obtain ⟨ez49, eM50⟩ := ez49
                        subst ez49
                        rw [eM50] at hG
                        refine lv_iconst (v := J 5) hx hb dX11_compiles_238 (by decide) ?_
                        refine j_iadd hx hb dX11_compiles_239 ?_
                        obtain ⟨g51, h⟩ := h
                        refine j_iald hx hb hK hG (n := 1294) (kf_11_1 ka0) (by decide) g51 dX11_compiles_240 ?_
                        exact jK46 (M32 (a0 + 1) ((pf_X11_ruleAt a1 x39) + 5)) (fun _ => rfl) (fun q => absurd q (by omega)) H locs hG ls (lv_sub hl [1, 2, 3, 4, 5, 6, 0] rfl)
                      · have h := h.2 c47
                        refine lv_iconst (v := J 0) hx hb dX11_compiles_224 (by decide) ?_
                        refine lv_goto (tgt := 241) hx hb dX11_compiles_225 (by decide) ?_
                        exact jK46 0 (fun q => absurd q (by omega)) (fun _ => rfl) H locs hG ls (lv_sub hl [1, 2, 3, 4, 5, 6, 0] rfl)
                exact lI33 n34s x28 0 0 M26 iI33 H locs hG ls (lv_sub hl [3, 4, 5, 2, 1, 0] rfl)
              · have h := h.2 c22
                refine lv_aload_n hx hb dX11_compiles_145 rfl (lv_at hl 0 rfl) ?_
                refine lv_sipush (v := J 1440) hx hb dX11_compiles_146 (by decide) ?_
                refine lv_aload_n hx hb dX11_compiles_149 rfl (lv_at hl 0 rfl) ?_
                refine j_getr hx hb hts hown hK hG (k := a0) (fun w h => List.mem_cons_of_mem _ (u_X11 w h)) (ci := 10) rfl ka0 1 (k2 := a0 + 1) (by decide) (by show a0 + (1 : Int) = a0 + 1; omega) w_fl_RX11_9 dX11_compiles_150 ?_
                refine lv_iload_n hx hb dX11_compiles_153 rfl (lv_at hl 2 rfl) ?_
                refine lv_bipush (v := J 59) hx hb dX11_compiles_154 (by decide) ?_
                refine j_iadd hx hb dX11_compiles_156 ?_
                refine lv_iconst (v := J 2) hx hb dX11_compiles_157 (by decide) ?_
                refine lv_iload_n hx hb dX11_compiles_158 rfl (lv_at hl 3 rfl) ?_
                refine j_imul hx hb dX11_compiles_159 ?_
                refine j_iadd hx hb dX11_compiles_160 ?_
                obtain ⟨g181, h⟩ := h
                refine j_iald hx hb hK hG (n := 1294) (kf_11_1 ka0) (by decide) g181 dX11_compiles_161 ?_
                refine j_imul hx hb dX11_compiles_162 ?_
                refine lv_bipush (v := J 100) hx hb dX11_compiles_163 (by decide) ?_
                refine lv_iload_n hx hb dX11_compiles_165 rfl (lv_at hl 3 rfl) ?_
                refine j_iadd hx hb dX11_compiles_166 ?_
                refine j_contv (va_runV (As := [.int (J (1440 * (M18 (a0 + 1) ((x7 + 59) + (2 * x17))))), .int (J (100 + x17))]) (rest := []) ⟨hx, hb, hml, hown, hts⟩ (A_X11_event l ka0 h) (cwV 2 hts (gj_V ml_RX11_177 i_X11_event s_X11_event n_RX11 k_X11_event) rfl rfl rfl (by decide +kernel) ⟨by exact Nat.le_of_ble_eq_true rfl, by exact Nat.le_of_ble_eq_true rfl⟩) (j_preV hK hSX hG (ci := 10) rfl ka0 (by decide)) rfl rfl hl.1 rfl (lv_room (Nat.le_of_ble_eq_true rfl)) dX11_compiles_167 ⟨by exact Nat.le_of_ble_eq_true rfl, by exact Nat.le_of_ble_eq_true rfl⟩) hG (c2 := 0) (s2 := 0) ⟨by exact Nat.le_of_ble_eq_true rfl, by exact Nat.le_of_ble_eq_true rfl⟩ (fun M183 h H locs hG => ?_)
                refine j_iinc hx hb dX11_compiles_170 hl (k := 3) rfl (by decide) (fun x184 ex184 ls hl => ?_)
                have h := h x184 ex184
                have hl : lv_has ls 10 [(3, .int (J x184)), (0, .ref (rA o a0)), (1, .int (J a1)), (2, .int (J x7))] := hl
                refine lv_goto (tgt := 133) hx hb dX11_compiles_173 (by decide) ?_
                obtain ⟨n185, ln185, iI19⟩ := h
                exact rI19 n185 ln185 x184 M183 iI19 H locs hG ls (lv_sub hl [1, 2, 3, 0] rfl)
          exact lI19 n20s 0 M10 iI19 H locs hG ls (lv_sub hl [1, 2, 3, 0] rfl)
        · have h := h.2 c14
          refine lv_iload_n hx hb dX11_compiles_38 rfl (lv_at hl 1 rfl) ?_
          refine lv_iload_n hx hb dX11_compiles_39 rfl (lv_at hl 3 rfl) ?_
          refine j_conti (va_runS (As := [.int (J a1), .int (J x9)]) (rest := []) ⟨hx, hb, hml, hown, hts⟩ (A_X11_ruleAt l) (va_cwS 2 hts (gj_S ml_RX11_135 i_X11_ruleAt n_RX11 k_X11_ruleAt) rfl rfl rfl (by decide +kernel) ⟨by exact Nat.le_of_ble_eq_true rfl, by exact Nat.le_of_ble_eq_true rfl⟩) (j_preS hK hSX hG) rfl rfl hl.1 rfl (lv_room (Nat.le_of_ble_eq_true rfl)) dX11_compiles_40 ⟨by exact Nat.le_of_ble_eq_true rfl, by exact Nat.le_of_ble_eq_true rfl⟩) hG (c2 := 0) (s2 := 0) ⟨by exact Nat.le_of_ble_eq_true rfl, by exact Nat.le_of_ble_eq_true rfl⟩ (fun z186 M187 ez186 H locs hG => ?_)
          obtain ⟨ez186, eM187⟩ := ez186
          subst ez186
          rw [eM187] at hG
          refine j_topi (fun x188 ex188 => ?_)
          have h := h x188 ex188
          refine lv_istore (lv' := [(4, .int (J x188)), (0, .ref (rA o a0)), (1, .int (J a1)), (2, .int (J x7)), (3, .int (J x9))]) hx hb dX11_compiles_43 hl (by decide) rfl (fun ls hl => ?_)
          refine lv_aload_n hx hb dX11_compiles_45 rfl (lv_at hl 1 rfl) ?_
          refine j_getr hx hb hts hown hK hG (k := a0) (fun w h => List.mem_cons_of_mem _ (u_X11 w h)) (ci := 10) rfl ka0 1 (k2 := a0 + 1) (by decide) (by show a0 + (1 : Int) = a0 + 1; omega) w_fl_RX11_9 dX11_compiles_46 ?_
          refine lv_iload hx hb dX11_compiles_49 (lv_at hl 0 rfl) ?_
          obtain ⟨g189, h⟩ := h
          refine j_iald hx hb hK hG (n := 1294) (kf_11_1 ka0) (by decide) g189 dX11_compiles_51 ?_
          refine j_topi (fun x190 ex190 => ?_)
          have h := h x190 ex190
          refine lv_istore (lv' := [(5, .int (J x190)), (4, .int (J x188)), (0, .ref (rA o a0)), (1, .int (J a1)), (2, .int (J x7)), (3, .int (J x9))]) hx hb dX11_compiles_52 hl (by decide) rfl (fun ls hl => ?_)
          obtain ⟨I193, ⟨n194s, iI193⟩, qI193⟩ := h
          have lI193 : ∀ (n194 : Nat) (x191 : Int) (M192 : jT), I193 n194 x191 M192 → ∀ (H : Heap) (locs : List Loc), GM D cy o M192 s.heap H locs → ∀ ls : Array Slot, lv_has ls 10 [(0, .ref (rA o a0)), (1, .int (J a1)), (2, .int (J x7)), (3, .int (J x9)), (4, .int (J x188)), (5, .int (J x191))] → W p l e rm_X11_compiles s m args below meth c H locs 0 0 Qf (F0 m 54 ls []) := by
            intro n194
            induction n194 using Nat.strongRecOn with
            | ind n194 rI193 =>
              intro x191 M192 iI193 H locs hG ls hl
              have h := qI193 n194 x191 M192 iI193
              refine lv_iload hx hb dX11_compiles_54 (lv_at hl 5 rfl) ?_
              refine lv_aload_n hx hb dX11_compiles_56 rfl (lv_at hl 0 rfl) ?_
              refine j_getr hx hb hts hown hK hG (k := a0) (fun w h => List.mem_cons_of_mem _ (u_X11 w h)) (ci := 10) rfl ka0 1 (k2 := a0 + 1) (by decide) (by show a0 + (1 : Int) = a0 + 1; omega) w_fl_RX11_9 dX11_compiles_57 ?_
              refine lv_iload hx hb dX11_compiles_60 (lv_at hl 4 rfl) ?_
              refine lv_iconst (v := J 1) hx hb dX11_compiles_62 (by decide) ?_
              refine j_iadd hx hb dX11_compiles_63 ?_
              obtain ⟨g195, h⟩ := h
              refine j_iald hx hb hK hG (n := 1294) (kf_11_1 ka0) (by decide) g195 dX11_compiles_64 ?_
              obtain ⟨g197, h⟩ := h
              obtain ⟨g198, h⟩ := h
              refine j_icmp_gt (tgt := 125) hx hb dX11_compiles_65 (by decide) g197 g198 (fun c196 => ?_) (fun c196 => ?_)
              · have h := h.1 c196
                refine j_iinc hx hb dX11_compiles_125 hl (k := 3) rfl (by decide) (fun x199 ex199 ls hl => ?_)
                have h := h x199 ex199
                have hl : lv_has ls 10 [(3, .int (J x199)), (0, .ref (rA o a0)), (1, .int (J a1)), (2, .int (J x7)), (4, .int (J x188)), (5, .int (J x191))] := hl
                refine lv_goto (tgt := 26) hx hb dX11_compiles_128 (by decide) ?_
                obtain ⟨n200, ln200, iI11⟩ := h
                exact rI11 n200 ln200 x199 M192 iI11 H locs hG ls (lv_sub hl [1, 2, 3, 0] rfl)
              · have h := h.2 c196
                refine lv_aload_n hx hb dX11_compiles_68 rfl (lv_at hl 0 rfl) ?_
                refine j_getr hx hb hts hown hK hG (k := a0) (fun w h => List.mem_cons_of_mem _ (u_X11 w h)) (ci := 10) rfl ka0 1 (k2 := a0 + 1) (by decide) (by show a0 + (1 : Int) = a0 + 1; omega) w_fl_RX11_9 dX11_compiles_69 ?_
                refine lv_iload hx hb dX11_compiles_72 (lv_at hl 4 rfl) ?_
                refine lv_iconst (v := J 3) hx hb dX11_compiles_74 (by decide) ?_
                refine j_iadd hx hb dX11_compiles_75 ?_
                obtain ⟨g201, h⟩ := h
                refine j_iald hx hb hK hG (n := 1294) (kf_11_1 ka0) (by decide) g201 dX11_compiles_76 ?_
                refine lv_iload hx hb dX11_compiles_77 (lv_at hl 5 rfl) ?_
                refine lv_aload_n hx hb dX11_compiles_79 rfl (lv_at hl 0 rfl) ?_
                refine j_getr hx hb hts hown hK hG (k := a0) (fun w h => List.mem_cons_of_mem _ (u_X11 w h)) (ci := 10) rfl ka0 1 (k2 := a0 + 1) (by decide) (by show a0 + (1 : Int) = a0 + 1; omega) w_fl_RX11_9 dX11_compiles_80 ?_
                refine lv_iload hx hb dX11_compiles_83 (lv_at hl 4 rfl) ?_
                refine lv_iconst (v := J 2) hx hb dX11_compiles_85 (by decide) ?_
                refine j_iadd hx hb dX11_compiles_86 ?_
                obtain ⟨g202, h⟩ := h
                refine j_iald hx hb hK hG (n := 1294) (kf_11_1 ka0) (by decide) g202 dX11_compiles_87 ?_
                refine j_conti (va_runS (As := [.int (J (M192 (a0 + 1) (x188 + 3))), .int (J x191), .int (J (M192 (a0 + 1) (x188 + 2)))]) (rest := []) ⟨hx, hb, hml, hown, hts⟩ (A_X11_dayBy l h) (va_cwS 3 hts (gj_S ml_RX11_174 i_X11_dayBy n_RX11 k_X11_dayBy) rfl rfl rfl (by decide +kernel) ⟨by exact Nat.le_of_ble_eq_true rfl, by exact Nat.le_of_ble_eq_true rfl⟩) (j_preS hK hSX hG) rfl rfl hl.1 rfl (lv_room (Nat.le_of_ble_eq_true rfl)) dX11_compiles_88 ⟨by exact Nat.le_of_ble_eq_true rfl, by exact Nat.le_of_ble_eq_true rfl⟩) hG (c2 := 0) (s2 := 0) ⟨by exact Nat.le_of_ble_eq_true rfl, by exact Nat.le_of_ble_eq_true rfl⟩ (fun z203 M204 h H locs hG => ?_)
                obtain ⟨h, eM204⟩ := h
                rw [eM204] at hG
                refine lv_istore (lv' := [(6, .int (J z203)), (0, .ref (rA o a0)), (1, .int (J a1)), (2, .int (J x7)), (3, .int (J x9)), (4, .int (J x188)), (5, .int (J x191))]) hx hb dX11_compiles_91 hl (by decide) rfl (fun ls hl => ?_)
                refine lv_iload hx hb dX11_compiles_93 (lv_at hl 0 rfl) ?_
                obtain ⟨K211, hK211, h⟩ := h
                have jK211 : ∀ (M210 : jT), K211 M210 → ∀ (H : Heap) (locs : List Loc), GM D cy o M210 s.heap H locs → ∀ ls : Array Slot, lv_has ls 10 [(0, .ref (rA o a0)), (1, .int (J a1)), (2, .int (J x7)), (3, .int (J x9)), (4, .int (J x188)), (5, .int (J x191))] → W p l e rm_X11_compiles s m args below meth c H locs 0 0 Qf (F0 m 119 ls []) := by
                  intro M210 hcK211 H locs hG ls hl
                  have h := hK211 M210 hcK211
                  refine j_iinc hx hb dX11_compiles_119 hl (k := 5) rfl (by decide) (fun x212 ex212 ls hl => ?_)
                  have h := h x212 ex212
                  have hl : lv_has ls 10 [(5, .int (J x212)), (0, .ref (rA o a0)), (1, .int (J a1)), (2, .int (J x7)), (3, .int (J x9)), (4, .int (J x188))] := hl
                  refine lv_goto (tgt := 54) hx hb dX11_compiles_122 (by decide) ?_
                  obtain ⟨n213, ln213, iI193⟩ := h
                  exact rI193 n213 ln213 x212 M210 iI193 H locs hG ls (lv_sub hl [1, 2, 3, 4, 5, 0] rfl)
                obtain ⟨g215, h⟩ := h
                refine j_if_lt (tgt := 119) hx hb dX11_compiles_95 (by decide) g215 (fun c214 => ?_) (fun c214 => ?_)
                · have h := h.1 c214
                  exact jK211 M192 h H locs hG ls (lv_sub hl [1, 2, 3, 4, 5, 6] rfl)
                · have h := h.2 c214
                  refine lv_aload_n hx hb dX11_compiles_98 rfl (lv_at hl 1 rfl) ?_
                  refine lv_sipush (v := J 1440) hx hb dX11_compiles_99 (by decide) ?_
                  refine lv_iload hx hb dX11_compiles_102 (lv_at hl 0 rfl) ?_
                  refine j_imul hx hb dX11_compiles_104 ?_
                  refine lv_aload_n hx hb dX11_compiles_105 rfl (lv_at hl 1 rfl) ?_
                  refine j_getr hx hb hts hown hK hG (k := a0) (fun w h => List.mem_cons_of_mem _ (u_X11 w h)) (ci := 10) rfl ka0 1 (k2 := a0 + 1) (by decide) (by show a0 + (1 : Int) = a0 + 1; omega) w_fl_RX11_9 dX11_compiles_106 ?_
                  refine lv_iload hx hb dX11_compiles_109 (lv_at hl 5 rfl) ?_
                  refine lv_iconst (v := J 4) hx hb dX11_compiles_111 (by decide) ?_
                  refine j_iadd hx hb dX11_compiles_112 ?_
                  obtain ⟨g216, h⟩ := h
                  refine j_iald hx hb hK hG (n := 1294) (kf_11_1 ka0) (by decide) g216 dX11_compiles_113 ?_
                  refine j_iadd hx hb dX11_compiles_114 ?_
                  refine lv_iload_n hx hb dX11_compiles_115 rfl (lv_at hl 4 rfl) ?_
                  refine j_contv (va_runV (As := [.int (J ((1440 * z203) + (M192 (a0 + 1) (x188 + 4)))), .int (J x9)]) (rest := []) ⟨hx, hb, hml, hown, hts⟩ (A_X11_event l ka0 h) (cwV 2 hts (gj_V ml_RX11_177 i_X11_event s_X11_event n_RX11 k_X11_event) rfl rfl rfl (by decide +kernel) ⟨by exact Nat.le_of_ble_eq_true rfl, by exact Nat.le_of_ble_eq_true rfl⟩) (j_preV hK hSX hG (ci := 10) rfl ka0 (by decide)) rfl rfl hl.1 rfl (lv_room (Nat.le_of_ble_eq_true rfl)) dX11_compiles_116 ⟨by exact Nat.le_of_ble_eq_true rfl, by exact Nat.le_of_ble_eq_true rfl⟩) hG (c2 := 0) (s2 := 0) ⟨by exact Nat.le_of_ble_eq_true rfl, by exact Nat.le_of_ble_eq_true rfl⟩ (fun M218 h H locs hG => ?_)
                  exact jK211 M218 h H locs hG ls (lv_sub hl [1, 2, 3, 4, 5, 6] rfl)
          exact lI193 n194s x190 M10 iI193 H locs hG ls (lv_sub hl [2, 3, 4, 5, 1, 0] rfl)
    exact lI11 n12s 0 M8 iI11 H locs hG ls (lv_sub hl [2, 3, 1, 0] rfl)
  · have h := h.2 c1
    rw [hQf]
    exact j_vret hx hb hr hlocks hG h (by decide) dX11_compiles_8

abbrev rm_X11_offsetIn : Room := { frames := 1, cells := 0, slots := 0, locals := 20 }
set_option maxRecDepth 100000 in
set_option maxHeartbeats 4000000 in
theorem A_X11_offsetIn (l : Launch) {D : va_G} {cy : Nat → ClassId} {o : Nat} {sK sV : Nat → Nat} {M : jT} {a0 : Int} {a1 : Int} {a2 : Int} (ka0 : kd a0 = 11) (h : pg_X11_offsetIn M a0 a1 a2) : CoI l yX11_offsetIn (wj yX11_offsetIn cX11_offsetIn 3 (some .int)) rm_X11_offsetIn D cy o sK sV M [.ref (rA o a0), .int (J a1), .int (J a2)] (fun z M9 => z = pf_X11_offsetIn M a0 a1 a2 ∧ M9 = M) := by
  refine j_ofW (cc := cX11_offsetIn) (maxL := 3) (ret := (some .int)) (by decide) rfl (Nat.le_of_ble_eq_true rfl) ?_
  intro p e s m args below meth c hx hb hr hlocks hml hown hts hK hSX H locs hG ls hl Qf hQf
  have hown : s.vm.findClass RX11 = some m.cls := hown
  have hl : lv_has ls 3 [(0, .ref (rA o a0)), (1, .int (J a1)), (2, .int (J a2))] := hl
  have w_fl_RX11_50 := hts _ (List.mem_cons_of_mem _ fl_RX11_50)
  have w_fl_RX11_9 := hts _ (List.mem_cons_of_mem _ fl_RX11_9)
  unfold pg_X11_offsetIn at h
  refine lv_iload_n hx hb dX11_offsetIn_0 rfl (lv_at hl 2 rfl) ?_
  obtain ⟨g2, h⟩ := h
  refine j_if_ne (tgt := 16) hx hb dX11_offsetIn_1 (by decide) g2 (fun c1 => ?_) (fun c1 => ?_)
  · have h := h.1 c1
    refine lv_aload_n hx hb dX11_offsetIn_16 rfl (lv_at hl 0 rfl) ?_
    refine j_getr hx hb hts hown hK hG (k := a0) (fun w h => List.mem_cons_of_mem _ (u_X11 w h)) (ci := 10) rfl ka0 21 (k2 := a0 + 12) (by decide) (by show a0 + (12 : Int) = a0 + 12; omega) w_fl_RX11_50 dX11_offsetIn_17 ?_
    refine lv_iload_n hx hb dX11_offsetIn_20 rfl (lv_at hl 2 rfl) ?_
    refine lv_iconst (v := J 1) hx hb dX11_offsetIn_21 (by decide) ?_
    refine j_isub hx hb dX11_offsetIn_22 ?_
    obtain ⟨g3, h⟩ := h
    refine j_iald hx hb hK hG (n := 261) (kf_11_21 ka0) (by decide) g3 dX11_offsetIn_23 ?_
    rw [hQf]
    exact j_ireti hx hb hr hlocks hG ⟨(by unfold pf_X11_offsetIn; rw [if_pos c1]), rfl⟩ (by decide) dX11_offsetIn_24
  · have h := h.2 c1
    refine lv_aload_n hx hb dX11_offsetIn_4 rfl (lv_at hl 0 rfl) ?_
    refine j_getr hx hb hts hown hK hG (k := a0) (fun w h => List.mem_cons_of_mem _ (u_X11 w h)) (ci := 10) rfl ka0 1 (k2 := a0 + 1) (by decide) (by show a0 + (1 : Int) = a0 + 1; omega) w_fl_RX11_9 dX11_offsetIn_5 ?_
    refine lv_iload_n hx hb dX11_offsetIn_8 rfl (lv_at hl 1 rfl) ?_
    refine j_conti (va_runS (As := [.int (J a1)]) (rest := [.ref (rA o (a0 + 1))]) ⟨hx, hb, hml, hown, hts⟩ (A_X11_zoneAt l) (va_cwS 1 hts (gj_S ml_RX11_123 i_X11_zoneAt n_RX11 k_X11_zoneAt) rfl rfl rfl (by decide +kernel) ⟨by exact Nat.le_of_ble_eq_true rfl, by exact Nat.le_of_ble_eq_true rfl⟩) (j_preS hK hSX hG) rfl rfl hl.1 rfl (lv_room (Nat.le_of_ble_eq_true rfl)) dX11_offsetIn_9 ⟨by exact Nat.le_of_ble_eq_true rfl, by exact Nat.le_of_ble_eq_true rfl⟩) hG (c2 := 0) (s2 := 0) ⟨by exact Nat.le_of_ble_eq_true rfl, by exact Nat.le_of_ble_eq_true rfl⟩ (fun z4 M5 ez4 H locs hG => ?_)
    obtain ⟨ez4, eM5⟩ := ez4
    subst ez4
    rw [eM5] at hG
    obtain ⟨g6, h⟩ := h
    refine j_iald hx hb hK hG (n := 1294) (kf_11_1 ka0) (by decide) g6 dX11_offsetIn_12 ?_
    refine lv_goto (tgt := 24) hx hb dX11_offsetIn_13 (by decide) ?_
    rw [hQf]
    exact j_ireti hx hb hr hlocks hG ⟨(by unfold pf_X11_offsetIn; rw [if_neg (show ¬ (a2 ≠ 0) from by omega)]), rfl⟩ (by decide) dX11_offsetIn_24

abbrev rm_X11_offsetAt : Room := { frames := 4, cells := 0, slots := 0, locals := 100 }
set_option maxRecDepth 100000 in
set_option maxHeartbeats 4000000 in
theorem A_X11_offsetAt (l : Launch) {D : va_G} {cy : Nat → ClassId} {o : Nat} {sK sV : Nat → Nat} {M : jT} {a0 : Int} {a1 : Int} {a2 : Int} (ka0 : kd a0 = 11) {Q : Int → jT → Prop} (h : wp_X11_offsetAt M a0 a1 a2 Q) : CoI l yX11_offsetAt (wj yX11_offsetAt cX11_offsetAt 4 (some .int)) rm_X11_offsetAt D cy o sK sV M [.ref (rA o a0), .int (J a1), .int (J a2)] Q := by
  refine j_ofW (cc := cX11_offsetAt) (maxL := 4) (ret := (some .int)) (by decide) rfl (Nat.le_of_ble_eq_true rfl) ?_
  intro p e s m args below meth c hx hb hr hlocks hml hown hts hK hSX H locs hG ls hl Qf hQf
  have hown : s.vm.findClass RX11 = some m.cls := hown
  have hl : lv_has ls 4 [(0, .ref (rA o a0)), (1, .int (J a1)), (2, .int (J a2))] := hl
  have w_fl_RX11_181 := hts _ (List.mem_cons_of_mem _ fl_RX11_181)
  have w_fl_RX11_44 := hts _ (List.mem_cons_of_mem _ fl_RX11_44)
  unfold wp_X11_offsetAt at h
  refine lv_aload_n hx hb dX11_offsetAt_0 rfl (lv_at hl 0 rfl) ?_
  refine lv_iload_n hx hb dX11_offsetAt_1 rfl (lv_at hl 1 rfl) ?_
  refine j_contv (va_runV (As := [.int (J a1)]) (rest := []) ⟨hx, hb, hml, hown, hts⟩ (A_X11_compiles l ka0 h) (cwV 1 hts (gj_V ml_RX11_187 i_X11_compiles s_X11_compiles n_RX11 k_X11_compiles) rfl rfl rfl (by decide +kernel) ⟨by exact Nat.le_of_ble_eq_true rfl, by exact Nat.le_of_ble_eq_true rfl⟩) (j_preV hK hSX hG (ci := 10) rfl ka0 (by decide)) rfl rfl hl.1 rfl (lv_room (Nat.le_of_ble_eq_true rfl)) dX11_offsetAt_2 ⟨by exact Nat.le_of_ble_eq_true rfl, by exact Nat.le_of_ble_eq_true rfl⟩) hG (c2 := 0) (s2 := 0) ⟨by exact Nat.le_of_ble_eq_true rfl, by exact Nat.le_of_ble_eq_true rfl⟩ (fun M2 h H locs hG => ?_)
  refine lv_iconst (v := J 0) hx hb dX11_offsetAt_5 (by decide) ?_
  refine lv_istore_n (lv' := [(3, .int (J 0)), (0, .ref (rA o a0)), (1, .int (J a1)), (2, .int (J a2))]) hx hb dX11_offsetAt_6 rfl hl (by decide) rfl (fun ls hl => ?_)
  obtain ⟨I4, ⟨n5s, iI4⟩, qI4⟩ := h
  have lI4 : ∀ (n5 : Nat) (x3 : Int), I4 n5 x3 → ∀ (H : Heap) (locs : List Loc), GM D cy o M2 s.heap H locs → ∀ ls : Array Slot, lv_has ls 4 [(0, .ref (rA o a0)), (1, .int (J a1)), (2, .int (J a2)), (3, .int (J x3))] → W p l e rm_X11_offsetAt s m args below meth c H locs 0 0 Qf (F0 m 7 ls []) := by
    intro n5
    induction n5 using Nat.strongRecOn with
    | ind n5 rI4 =>
      intro x3 iI4 H locs hG ls hl
      have h := qI4 n5 x3 iI4
      refine lv_iload_n hx hb dX11_offsetAt_7 rfl (lv_at hl 3 rfl) ?_
      refine lv_aload_n hx hb dX11_offsetAt_8 rfl (lv_at hl 0 rfl) ?_
      refine j_geti hx hb hts hown hK hG (k := a0) (fun w h => List.mem_cons_of_mem _ (u_X11 w h)) (ci := 10) rfl ka0 18 (by decide) (jz := 18) rfl w_fl_RX11_181 dX11_offsetAt_9 ?_
      obtain ⟨K15, hK15, h⟩ := h
      have jK15 : K15 → ∀ (H : Heap) (locs : List Loc), GM D cy o M2 s.heap H locs → ∀ ls : Array Slot, lv_has ls 4 [(0, .ref (rA o a0)), (1, .int (J a1)), (3, .int (J x3))] → W p l e rm_X11_offsetAt s m args below meth c H locs 0 0 Qf (F0 m 31 ls []) := by
        intro hcK15 H locs hG ls hl
        have h := hK15 hcK15
        refine lv_aload_n hx hb dX11_offsetAt_31 rfl (lv_at hl 0 rfl) ?_
        refine lv_iload_n hx hb dX11_offsetAt_32 rfl (lv_at hl 1 rfl) ?_
        refine lv_iload_n hx hb dX11_offsetAt_33 rfl (lv_at hl 2 rfl) ?_
        obtain ⟨g16, h⟩ := h
        refine j_conti (va_runV (As := [.int (J a1), .int (J x3)]) (rest := []) ⟨hx, hb, hml, hown, hts⟩ (A_X11_offsetIn l ka0 g16) (cwV 2 hts (gj_V ml_RX11_191 i_X11_offsetIn s_X11_offsetIn n_RX11 k_X11_offsetIn) rfl rfl rfl (by decide +kernel) ⟨by exact Nat.le_of_ble_eq_true rfl, by exact Nat.le_of_ble_eq_true rfl⟩) (j_preV hK hSX hG (ci := 10) rfl ka0 (by decide)) rfl rfl hl.1 rfl (lv_room (Nat.le_of_ble_eq_true rfl)) dX11_offsetAt_34 ⟨by exact Nat.le_of_ble_eq_true rfl, by exact Nat.le_of_ble_eq_true rfl⟩) hG (c2 := 0) (s2 := 0) ⟨by exact Nat.le_of_ble_eq_true rfl, by exact Nat.le_of_ble_eq_true rfl⟩ (fun z17 M18 ez17 H locs hG => ?_)
        obtain ⟨ez17, eM18⟩ := ez17
        subst ez17
        rw [eM18] at hG
        rw [hQf]
        exact j_ireti hx hb hr hlocks hG h (by decide) dX11_offsetAt_37
      obtain ⟨g20, h⟩ := h
      obtain ⟨g21, h⟩ := h
      refine j_icmp_ge (tgt := 31) hx hb dX11_offsetAt_12 (by decide) g20 g21 (fun c19 => ?_) (fun c19 => ?_)
      · have h := h.1 c19
        exact jK15 h H locs hG ls (lv_sub hl [0, 1, 3] rfl)
      · have h := h.2 c19
        refine lv_aload_n hx hb dX11_offsetAt_15 rfl (lv_at hl 0 rfl) ?_
        refine j_getr hx hb hts hown hK hG (k := a0) (fun w h => List.mem_cons_of_mem _ (u_X11 w h)) (ci := 10) rfl ka0 19 (k2 := a0 + 10) (by decide) (by show a0 + (10 : Int) = a0 + 10; omega) w_fl_RX11_44 dX11_offsetAt_16 ?_
        refine lv_iload_n hx hb dX11_offsetAt_19 rfl (lv_at hl 3 rfl) ?_
        obtain ⟨g22, h⟩ := h
        refine j_iald hx hb hK hG (n := 261) (kf_11_19 ka0) (by decide) g22 dX11_offsetAt_20 ?_
        refine lv_iload_n hx hb dX11_offsetAt_21 rfl (lv_at hl 2 rfl) ?_
        obtain ⟨g24, h⟩ := h
        obtain ⟨g25, h⟩ := h
        refine j_icmp_gt (tgt := 31) hx hb dX11_offsetAt_22 (by decide) g24 g25 (fun c23 => ?_) (fun c23 => ?_)
        · have h := h.1 c23
          exact jK15 h H locs hG ls (lv_sub hl [0, 1, 3] rfl)
        · have h := h.2 c23
          refine j_iinc hx hb dX11_offsetAt_25 hl (k := 3) rfl (by decide) (fun x26 ex26 ls hl => ?_)
          have h := h x26 ex26
          have hl : lv_has ls 4 [(3, .int (J x26)), (0, .ref (rA o a0)), (1, .int (J a1)), (2, .int (J a2))] := hl
          refine lv_goto (tgt := 7) hx hb dX11_offsetAt_28 (by decide) ?_
          obtain ⟨n27, ln27, iI4⟩ := h
          exact rI4 n27 ln27 x26 iI4 H locs hG ls (lv_sub hl [1, 2, 3, 0] rfl)
  exact lI4 n5s 0 iI4 H locs hG ls (lv_sub hl [1, 2, 3, 0] rfl)

abbrev rm_X11_zone : Room := { frames := 4, cells := 0, slots := 0, locals := 100 }
set_option maxRecDepth 100000 in
set_option maxHeartbeats 4000000 in
theorem A_X11_zone (l : Launch) {D : va_G} {cy : Nat → ClassId} {o : Nat} {sK sV : Nat → Nat} {M : jT} {a0 : Int} {a1 : Int} {a2 : Int} (ka0 : kd a0 = 11) {Q : Int → jT → Prop} (h : wp_X11_zone M a0 a1 a2 Q) : CoI l yX11_zone (wj yX11_zone cX11_zone 5 (some .int)) rm_X11_zone D cy o sK sV M [.ref (rA o a0), .int (J a1), .int (J a2)] Q := by
  refine j_ofW (cc := cX11_zone) (maxL := 5) (ret := (some .int)) (by decide) rfl (Nat.le_of_ble_eq_true rfl) ?_
  intro p e s m args below meth c hx hb hr hlocks hml hown hts hK hSX H locs hG ls hl Qf hQf
  have hown : s.vm.findClass RX11 = some m.cls := hown
  have hl : lv_has ls 5 [(0, .ref (rA o a0)), (1, .int (J a1)), (2, .int (J a2))] := hl
  have w_fl_RX11_80 := hts _ (List.mem_cons_of_mem _ fl_RX11_80)
  have w_fl_RX11_181 := hts _ (List.mem_cons_of_mem _ fl_RX11_181)
  have w_fl_RX11_168 := hts _ (List.mem_cons_of_mem _ fl_RX11_168)
  have w_fl_RX11_184 := hts _ (List.mem_cons_of_mem _ fl_RX11_184)
  have w_fl_RX11_9 := hts _ (List.mem_cons_of_mem _ fl_RX11_9)
  unfold wp_X11_zone at h
  refine lv_aload_n hx hb dX11_zone_0 rfl (lv_at hl 0 rfl) ?_
  refine lv_iconst (v := J 0) hx hb dX11_zone_1 (by decide) ?_
  refine j_puti hx hb hts hown hK hG (k := a0) (fun w h => List.mem_cons_of_mem _ (u_X11 w h)) tyX11 tyX11_ok nmX11 (ci := 10) rfl ka0 0 (by decide) (jz := 0) rfl w_fl_RX11_80 (hd := rfl) (hn := rfl) (hfit := rfl) (hdg := dX11_zone_2) (fun M1 eM1 H locs hG => ?_)
  have h := h M1 eM1
  refine lv_aload_n hx hb dX11_zone_5 rfl (lv_at hl 0 rfl) ?_
  refine lv_iload_n hx hb dX11_zone_6 rfl (lv_at hl 1 rfl) ?_
  obtain ⟨g2, h⟩ := h
  refine j_conti (va_runV (As := [.int (J a1)]) (rest := []) ⟨hx, hb, hml, hown, hts⟩ (A_X11_isZone l ka0 g2) (cwV 1 hts (gj_V ml_RX11_126 i_X11_isZone s_X11_isZone n_RX11 k_X11_isZone) rfl rfl rfl (by decide +kernel) ⟨by exact Nat.le_of_ble_eq_true rfl, by exact Nat.le_of_ble_eq_true rfl⟩) (j_preV hK hSX hG (ci := 10) rfl ka0 (by decide)) rfl rfl hl.1 rfl (lv_room (Nat.le_of_ble_eq_true rfl)) dX11_zone_7 ⟨by exact Nat.le_of_ble_eq_true rfl, by exact Nat.le_of_ble_eq_true rfl⟩) hG (c2 := 0) (s2 := 0) ⟨by exact Nat.le_of_ble_eq_true rfl, by exact Nat.le_of_ble_eq_true rfl⟩ (fun z3 M4 ez3 H locs hG => ?_)
  obtain ⟨ez3, eM4⟩ := ez3
  subst ez3
  rw [eM4] at hG
  refine j_if_ne_b (tgt := 19) hx hb dX11_zone_10 (by decide) (fun c5 => ?_) (fun c5 => ?_)
  · have h := h.1 c5
    refine lv_iload_n hx hb dX11_zone_19 rfl (lv_at hl 2 rfl) ?_
    refine lv_iconst (v := J 0) hx hb dX11_zone_20 (by decide) ?_
    refine lv_bipush (v := J 8) hx hb dX11_zone_21 (by decide) ?_
    obtain ⟨g6, h⟩ := h
    refine j_conti (va_runS (As := [.int (J a2), .int (J 0), .int (J 8)]) (rest := []) ⟨hx, hb, hml, hown, hts⟩ (A_X11_in l g6) (va_cwS 3 hts (gj_S ml_RX11_106 i_X11_in n_RX11 k_X11_in) rfl rfl rfl (by decide +kernel) ⟨by exact Nat.le_of_ble_eq_true rfl, by exact Nat.le_of_ble_eq_true rfl⟩) (j_preS hK hSX hG) rfl rfl hl.1 rfl (lv_room (Nat.le_of_ble_eq_true rfl)) dX11_zone_23 ⟨by exact Nat.le_of_ble_eq_true rfl, by exact Nat.le_of_ble_eq_true rfl⟩) hG (c2 := 0) (s2 := 0) ⟨by exact Nat.le_of_ble_eq_true rfl, by exact Nat.le_of_ble_eq_true rfl⟩ (fun z7 M8 ez7 H locs hG => ?_)
    obtain ⟨ez7, eM8⟩ := ez7
    subst ez7
    rw [eM8] at hG
    refine j_if_ne_b (tgt := 35) hx hb dX11_zone_26 (by decide) (fun c9 => ?_) (fun c9 => ?_)
    · have h := h.1 c9
      refine lv_iload_n hx hb dX11_zone_35 rfl (lv_at hl 2 rfl) ?_
      refine lv_iconst (v := J 3) hx hb dX11_zone_36 (by decide) ?_
      obtain ⟨g11, h⟩ := h
      refine j_icmp_ge (tgt := 52) hx hb dX11_zone_37 (by decide) g11 (by decide) (fun c10 => ?_) (fun c10 => ?_)
      · have h := h.1 c10
        refine lv_aload_n hx hb dX11_zone_52 rfl (lv_at hl 0 rfl) ?_
        refine lv_iload_n hx hb dX11_zone_53 rfl (lv_at hl 1 rfl) ?_
        refine j_contv (va_runV (As := [.int (J a1)]) (rest := []) ⟨hx, hb, hml, hown, hts⟩ (A_X11_compiles l ka0 h) (cwV 1 hts (gj_V ml_RX11_187 i_X11_compiles s_X11_compiles n_RX11 k_X11_compiles) rfl rfl rfl (by decide +kernel) ⟨by exact Nat.le_of_ble_eq_true rfl, by exact Nat.le_of_ble_eq_true rfl⟩) (j_preV hK hSX hG (ci := 10) rfl ka0 (by decide)) rfl rfl hl.1 rfl (lv_room (Nat.le_of_ble_eq_true rfl)) dX11_zone_54 ⟨by exact Nat.le_of_ble_eq_true rfl, by exact Nat.le_of_ble_eq_true rfl⟩) hG (c2 := 0) (s2 := 0) ⟨by exact Nat.le_of_ble_eq_true rfl, by exact Nat.le_of_ble_eq_true rfl⟩ (fun M13 h H locs hG => ?_)
        refine lv_iload_n hx hb dX11_zone_57 rfl (lv_at hl 2 rfl) ?_
        refine lv_iconst (v := J 3) hx hb dX11_zone_58 (by decide) ?_
        refine j_icmp_ne (tgt := 67) hx hb dX11_zone_59 (by decide) g11 (by decide) (fun c14 => ?_) (fun c14 => ?_)
        · have h := h.1 c14
          refine lv_iload_n hx hb dX11_zone_67 rfl (lv_at hl 2 rfl) ?_
          refine lv_iconst (v := J 4) hx hb dX11_zone_68 (by decide) ?_
          refine j_icmp_ne (tgt := 77) hx hb dX11_zone_69 (by decide) g11 (by decide) (fun c15 => ?_) (fun c15 => ?_)
          · have h := h.1 c15
            refine lv_iload_n hx hb dX11_zone_77 rfl (lv_at hl 2 rfl) ?_
            refine lv_iconst (v := J 5) hx hb dX11_zone_78 (by decide) ?_
            refine j_icmp_ne (tgt := 87) hx hb dX11_zone_79 (by decide) g11 (by decide) (fun c16 => ?_) (fun c16 => ?_)
            · have h := h.1 c16
              refine lv_iload_n hx hb dX11_zone_87 rfl (lv_at hl 2 rfl) ?_
              refine lv_bipush (v := J 6) hx hb dX11_zone_88 (by decide) ?_
              refine j_icmp_ne (tgt := 103) hx hb dX11_zone_90 (by decide) g11 (by decide) (fun c17 => ?_) (fun c17 => ?_)
              · have h := h.1 c17
                refine lv_aload_n hx hb dX11_zone_103 rfl (lv_at hl 0 rfl) ?_
                refine lv_iload_n hx hb dX11_zone_104 rfl (lv_at hl 1 rfl) ?_
                refine lv_iconst (v := J 0) hx hb dX11_zone_105 (by decide) ?_
                obtain ⟨g18, h⟩ := h
                refine j_conti (va_runV (As := [.int (J a1), .int (J 0)]) (rest := []) ⟨hx, hb, hml, hown, hts⟩ (A_X11_offsetIn l ka0 g18) (cwV 2 hts (gj_V ml_RX11_191 i_X11_offsetIn s_X11_offsetIn n_RX11 k_X11_offsetIn) rfl rfl rfl (by decide +kernel) ⟨by exact Nat.le_of_ble_eq_true rfl, by exact Nat.le_of_ble_eq_true rfl⟩) (j_preV hK hSX hG (ci := 10) rfl ka0 (by decide)) rfl rfl hl.1 rfl (lv_room (Nat.le_of_ble_eq_true rfl)) dX11_zone_106 ⟨by exact Nat.le_of_ble_eq_true rfl, by exact Nat.le_of_ble_eq_true rfl⟩) hG (c2 := 0) (s2 := 0) ⟨by exact Nat.le_of_ble_eq_true rfl, by exact Nat.le_of_ble_eq_true rfl⟩ (fun z19 M20 ez19 H locs hG => ?_)
                obtain ⟨ez19, eM20⟩ := ez19
                subst ez19
                rw [eM20] at hG
                refine j_topi (fun x21 ex21 => ?_)
                have h := h x21 ex21
                refine lv_istore_n (lv' := [(3, .int (J x21)), (0, .ref (rA o a0)), (1, .int (J a1)), (2, .int (J a2))]) hx hb dX11_zone_109 rfl hl (by decide) rfl (fun ls hl => ?_)
                refine lv_iconst (v := J 1) hx hb dX11_zone_110 (by decide) ?_
                refine lv_istore (lv' := [(4, .int (J 1)), (3, .int (J x21)), (0, .ref (rA o a0)), (1, .int (J a1)), (2, .int (J a2))]) hx hb dX11_zone_111 hl (by decide) rfl (fun ls hl => ?_)
                obtain ⟨I24, ⟨n25s, iI24⟩, qI24⟩ := h
                have lI24 : ∀ (n25 : Nat) (x22 : Int) (x23 : Int), I24 n25 x22 x23 → ∀ (H : Heap) (locs : List Loc), GM D cy o M13 s.heap H locs → ∀ ls : Array Slot, lv_has ls 5 [(0, .ref (rA o a0)), (1, .int (J a1)), (2, .int (J a2)), (3, .int (J x22)), (4, .int (J x23))] → W p l e rm_X11_zone s m args below meth c H locs 0 0 Qf (F0 m 113 ls []) := by
                  intro n25
                  induction n25 using Nat.strongRecOn with
                  | ind n25 rI24 =>
                    intro x22 x23 iI24 H locs hG ls hl
                    have h := qI24 n25 x22 x23 iI24
                    refine lv_iload hx hb dX11_zone_113 (lv_at hl 4 rfl) ?_
                    refine lv_aload_n hx hb dX11_zone_115 rfl (lv_at hl 0 rfl) ?_
                    refine j_geti hx hb hts hown hK hG (k := a0) (fun w h => List.mem_cons_of_mem _ (u_X11 w h)) (ci := 10) rfl ka0 18 (by decide) (jz := 18) rfl w_fl_RX11_181 dX11_zone_116 ?_
                    obtain ⟨g27, h⟩ := h
                    obtain ⟨g28, h⟩ := h
                    refine j_icmp_gt (tgt := 160) hx hb dX11_zone_119 (by decide) g27 g28 (fun c26 => ?_) (fun c26 => ?_)
                    · have h := h.1 c26
                      refine lv_iload_n hx hb dX11_zone_160 rfl (lv_at hl 3 rfl) ?_
                      rw [hQf]
                      exact j_ireti hx hb hr hlocks hG h (by decide) dX11_zone_161
                    · have h := h.2 c26
                      refine lv_iload_n hx hb dX11_zone_122 rfl (lv_at hl 2 rfl) ?_
                      refine lv_bipush (v := J 7) hx hb dX11_zone_123 (by decide) ?_
                      obtain ⟨K41, hK41, h⟩ := h
                      have jK41 : ∀ (x40 : Int), K41 x40 → ∀ (H : Heap) (locs : List Loc), GM D cy o M13 s.heap H locs → ∀ ls : Array Slot, lv_has ls 5 [(0, .ref (rA o a0)), (1, .int (J a1)), (2, .int (J a2)), (4, .int (J x23))] → W p l e rm_X11_zone s m args below meth c H locs 0 0 Qf (F0 m 153 ls [.int (J x40)]) := by
                        intro x40 hcK41 H locs hG ls hl
                        have h := hK41 x40 hcK41
                        refine lv_istore_n (lv' := [(3, .int (J x40)), (0, .ref (rA o a0)), (1, .int (J a1)), (2, .int (J a2)), (4, .int (J x23))]) hx hb dX11_zone_153 rfl hl (by decide) rfl (fun ls hl => ?_)
                        refine j_iinc hx hb dX11_zone_154 hl (k := 4) rfl (by decide) (fun x42 ex42 ls hl => ?_)
                        have h := h x42 ex42
                        have hl : lv_has ls 5 [(4, .int (J x42)), (3, .int (J x40)), (0, .ref (rA o a0)), (1, .int (J a1)), (2, .int (J a2))] := hl
                        refine lv_goto (tgt := 113) hx hb dX11_zone_157 (by decide) ?_
                        obtain ⟨n43, ln43, iI24⟩ := h
                        exact rI24 n43 ln43 x40 x42 iI24 H locs hG ls (lv_sub hl [2, 3, 4, 1, 0] rfl)
                      refine j_icmp_ne (tgt := 142) hx hb dX11_zone_125 (by decide) g11 (by decide) (fun c44 => ?_) (fun c44 => ?_)
                      · have h := h.1 c44
                        refine lv_iload_n hx hb dX11_zone_142 rfl (lv_at hl 3 rfl) ?_
                        refine lv_aload_n hx hb dX11_zone_143 rfl (lv_at hl 0 rfl) ?_
                        refine lv_iload_n hx hb dX11_zone_144 rfl (lv_at hl 1 rfl) ?_
                        refine lv_iload hx hb dX11_zone_145 (lv_at hl 4 rfl) ?_
                        obtain ⟨g45, h⟩ := h
                        refine j_conti (va_runV (As := [.int (J a1), .int (J x23)]) (rest := [.int (J x22)]) ⟨hx, hb, hml, hown, hts⟩ (A_X11_offsetIn l ka0 g45) (cwV 2 hts (gj_V ml_RX11_191 i_X11_offsetIn s_X11_offsetIn n_RX11 k_X11_offsetIn) rfl rfl rfl (by decide +kernel) ⟨by exact Nat.le_of_ble_eq_true rfl, by exact Nat.le_of_ble_eq_true rfl⟩) (j_preV hK hSX hG (ci := 10) rfl ka0 (by decide)) rfl rfl hl.1 rfl (lv_room (Nat.le_of_ble_eq_true rfl)) dX11_zone_147 ⟨by exact Nat.le_of_ble_eq_true rfl, by exact Nat.le_of_ble_eq_true rfl⟩) hG (c2 := 0) (s2 := 0) ⟨by exact Nat.le_of_ble_eq_true rfl, by exact Nat.le_of_ble_eq_true rfl⟩ (fun z46 M47 ez46 H locs hG => ?_)
                        obtain ⟨ez46, eM47⟩ := ez46
                        subst ez46
                        rw [eM47] at hG
                        obtain ⟨g48, h⟩ := h
                        obtain ⟨g49, h⟩ := h
                        refine j_mmin hx hb (hml.trans hl.1.symm) hown (hts _ (List.mem_cons_of_mem _ ml_RX11_199)) (hts _ (List.mem_cons_of_mem _ i_mmin)) (hts _ (List.mem_cons_of_mem _ n_Math)) (hts _ (List.mem_cons_of_mem _ k_mmin)) (by exact Nat.le_of_ble_eq_true rfl) (by exact Nat.le_of_ble_eq_true rfl) (by exact Nat.le_of_ble_eq_true rfl) (by exact Nat.le_of_ble_eq_true rfl) g48 g49 dX11_zone_150 ?_
                        exact jK41 (min x22 (pf_X11_offsetIn M13 a0 a1 x23)) h H locs hG ls (lv_sub hl [0, 1, 2, 4] rfl)
                      · have h := h.2 c44
                        refine lv_iload_n hx hb dX11_zone_128 rfl (lv_at hl 3 rfl) ?_
                        refine lv_aload_n hx hb dX11_zone_129 rfl (lv_at hl 0 rfl) ?_
                        refine lv_iload_n hx hb dX11_zone_130 rfl (lv_at hl 1 rfl) ?_
                        refine lv_iload hx hb dX11_zone_131 (lv_at hl 4 rfl) ?_
                        obtain ⟨g50, h⟩ := h
                        refine j_conti (va_runV (As := [.int (J a1), .int (J x23)]) (rest := [.int (J x22)]) ⟨hx, hb, hml, hown, hts⟩ (A_X11_offsetIn l ka0 g50) (cwV 2 hts (gj_V ml_RX11_191 i_X11_offsetIn s_X11_offsetIn n_RX11 k_X11_offsetIn) rfl rfl rfl (by decide +kernel) ⟨by exact Nat.le_of_ble_eq_true rfl, by exact Nat.le_of_ble_eq_true rfl⟩) (j_preV hK hSX hG (ci := 10) rfl ka0 (by decide)) rfl rfl hl.1 rfl (lv_room (Nat.le_of_ble_eq_true rfl)) dX11_zone_133 ⟨by exact Nat.le_of_ble_eq_true rfl, by exact Nat.le_of_ble_eq_true rfl⟩) hG (c2 := 0) (s2 := 0) ⟨by exact Nat.le_of_ble_eq_true rfl, by exact Nat.le_of_ble_eq_true rfl⟩ (fun z51 M52 ez51 H locs hG => ?_)
                        obtain ⟨ez51, eM52⟩ := ez51
                        subst ez51
                        rw [eM52] at hG
                        obtain ⟨g53, h⟩ := h
                        obtain ⟨g54, h⟩ := h
                        refine j_mmax hx hb (hml.trans hl.1.symm) hown (hts _ (List.mem_cons_of_mem _ ml_RX11_194)) (hts _ (List.mem_cons_of_mem _ i_mmax)) (hts _ (List.mem_cons_of_mem _ n_Math)) (hts _ (List.mem_cons_of_mem _ k_mmax)) (by exact Nat.le_of_ble_eq_true rfl) (by exact Nat.le_of_ble_eq_true rfl) (by exact Nat.le_of_ble_eq_true rfl) (by exact Nat.le_of_ble_eq_true rfl) g53 g54 dX11_zone_136 ?_
                        refine lv_goto (tgt := 153) hx hb dX11_zone_139 (by decide) ?_
                        exact jK41 (max x22 (pf_X11_offsetIn M13 a0 a1 x23)) h H locs hG ls (lv_sub hl [0, 1, 2, 4] rfl)
                exact lI24 n25s x21 1 iI24 H locs hG ls (lv_sub hl [2, 3, 4, 1, 0] rfl)
              · have h := h.2 c17
                refine lv_aload_n hx hb dX11_zone_93 rfl (lv_at hl 0 rfl) ?_
                refine lv_iload_n hx hb dX11_zone_94 rfl (lv_at hl 1 rfl) ?_
                refine lv_aload_n hx hb dX11_zone_95 rfl (lv_at hl 0 rfl) ?_
                refine j_geti hx hb hts hown hK hG (k := a0) (fun w h => List.mem_cons_of_mem _ (u_X11 w h)) (ci := 10) rfl ka0 18 (by decide) (jz := 18) rfl w_fl_RX11_181 dX11_zone_96 ?_
                obtain ⟨g55, h⟩ := h
                refine j_conti (va_runV (As := [.int (J a1), .int (J (M13 a0 18))]) (rest := []) ⟨hx, hb, hml, hown, hts⟩ (A_X11_offsetIn l ka0 g55) (cwV 2 hts (gj_V ml_RX11_191 i_X11_offsetIn s_X11_offsetIn n_RX11 k_X11_offsetIn) rfl rfl rfl (by decide +kernel) ⟨by exact Nat.le_of_ble_eq_true rfl, by exact Nat.le_of_ble_eq_true rfl⟩) (j_preV hK hSX hG (ci := 10) rfl ka0 (by decide)) rfl rfl hl.1 rfl (lv_room (Nat.le_of_ble_eq_true rfl)) dX11_zone_99 ⟨by exact Nat.le_of_ble_eq_true rfl, by exact Nat.le_of_ble_eq_true rfl⟩) hG (c2 := 0) (s2 := 0) ⟨by exact Nat.le_of_ble_eq_true rfl, by exact Nat.le_of_ble_eq_true rfl⟩ (fun z56 M57 ez56 H locs hG => ?_)
                obtain ⟨ez56, eM57⟩ := ez56
                subst ez56
                rw [eM57] at hG
                rw [hQf]
                exact j_ireti hx hb hr hlocks hG h (by decide) dX11_zone_102
            · have h := h.2 c16
              refine lv_aload_n hx hb dX11_zone_82 rfl (lv_at hl 0 rfl) ?_
              refine j_geti hx hb hts hown hK hG (k := a0) (fun w h => List.mem_cons_of_mem _ (u_X11 w h)) (ci := 10) rfl ka0 15 (by decide) (jz := 15) rfl w_fl_RX11_168 dX11_zone_83 ?_
              rw [hQf]
              exact j_ireti hx hb hr hlocks hG h (by decide) dX11_zone_86
          · have h := h.2 c15
            refine lv_aload_n hx hb dX11_zone_72 rfl (lv_at hl 0 rfl) ?_
            refine j_geti hx hb hts hown hK hG (k := a0) (fun w h => List.mem_cons_of_mem _ (u_X11 w h)) (ci := 10) rfl ka0 24 (by decide) (jz := 24) rfl w_fl_RX11_184 dX11_zone_73 ?_
            rw [hQf]
            exact j_ireti hx hb hr hlocks hG h (by decide) dX11_zone_76
        · have h := h.2 c14
          refine lv_aload_n hx hb dX11_zone_62 rfl (lv_at hl 0 rfl) ?_
          refine j_geti hx hb hts hown hK hG (k := a0) (fun w h => List.mem_cons_of_mem _ (u_X11 w h)) (ci := 10) rfl ka0 18 (by decide) (jz := 18) rfl w_fl_RX11_181 dX11_zone_63 ?_
          rw [hQf]
          exact j_ireti hx hb hr hlocks hG h (by decide) dX11_zone_66
      · have h := h.2 c10
        refine lv_aload_n hx hb dX11_zone_40 rfl (lv_at hl 0 rfl) ?_
        refine j_getr hx hb hts hown hK hG (k := a0) (fun w h => List.mem_cons_of_mem _ (u_X11 w h)) (ci := 10) rfl ka0 1 (k2 := a0 + 1) (by decide) (by show a0 + (1 : Int) = a0 + 1; omega) w_fl_RX11_9 dX11_zone_41 ?_
        refine lv_iload_n hx hb dX11_zone_44 rfl (lv_at hl 1 rfl) ?_
        refine j_conti (va_runS (As := [.int (J a1)]) (rest := [.ref (rA o (a0 + 1))]) ⟨hx, hb, hml, hown, hts⟩ (A_X11_zoneAt l) (va_cwS 1 hts (gj_S ml_RX11_123 i_X11_zoneAt n_RX11 k_X11_zoneAt) rfl rfl rfl (by decide +kernel) ⟨by exact Nat.le_of_ble_eq_true rfl, by exact Nat.le_of_ble_eq_true rfl⟩) (j_preS hK hSX hG) rfl rfl hl.1 rfl (lv_room (Nat.le_of_ble_eq_true rfl)) dX11_zone_45 ⟨by exact Nat.le_of_ble_eq_true rfl, by exact Nat.le_of_ble_eq_true rfl⟩) hG (c2 := 0) (s2 := 0) ⟨by exact Nat.le_of_ble_eq_true rfl, by exact Nat.le_of_ble_eq_true rfl⟩ (fun z58 M59 ez58 H locs hG => ?_)
        obtain ⟨ez58, eM59⟩ := ez58
        subst ez58
        rw [eM59] at hG
        refine lv_iload_n hx hb dX11_zone_48 rfl (lv_at hl 2 rfl) ?_
        refine j_iadd hx hb dX11_zone_49 ?_
        obtain ⟨g60, h⟩ := h
        refine j_iald hx hb hK hG (n := 1294) (kf_11_1 ka0) (by decide) g60 dX11_zone_50 ?_
        rw [hQf]
        exact j_ireti hx hb hr hlocks hG h (by decide) dX11_zone_51
    · have h := h.2 c9
      refine lv_aload_n hx hb dX11_zone_29 rfl (lv_at hl 0 rfl) ?_
      refine lv_iconst (v := J 2) hx hb dX11_zone_30 (by decide) ?_
      refine j_conti (va_runV (As := [.int (J 2)]) (rest := []) ⟨hx, hb, hml, hown, hts⟩ (A_X11_raises l ka0 h) (cwV 1 hts (gj_V ml_RX11_110 i_X11_raises s_X11_raises n_RX11 k_X11_raises) rfl rfl rfl (by decide +kernel) ⟨by exact Nat.le_of_ble_eq_true rfl, by exact Nat.le_of_ble_eq_true rfl⟩) (j_preV hK hSX hG (ci := 10) rfl ka0 (by decide)) rfl rfl hl.1 rfl (lv_room (Nat.le_of_ble_eq_true rfl)) dX11_zone_31 ⟨by exact Nat.le_of_ble_eq_true rfl, by exact Nat.le_of_ble_eq_true rfl⟩) hG (c2 := 0) (s2 := 0) ⟨by exact Nat.le_of_ble_eq_true rfl, by exact Nat.le_of_ble_eq_true rfl⟩ (fun z61 M62 h H locs hG => ?_)
      rw [hQf]
      exact j_ireti hx hb hr hlocks hG h (by decide) dX11_zone_34
  · have h := h.2 c5
    refine lv_aload_n hx hb dX11_zone_13 rfl (lv_at hl 0 rfl) ?_
    refine lv_iconst (v := J 1) hx hb dX11_zone_14 (by decide) ?_
    refine j_conti (va_runV (As := [.int (J 1)]) (rest := []) ⟨hx, hb, hml, hown, hts⟩ (A_X11_raises l ka0 h) (cwV 1 hts (gj_V ml_RX11_110 i_X11_raises s_X11_raises n_RX11 k_X11_raises) rfl rfl rfl (by decide +kernel) ⟨by exact Nat.le_of_ble_eq_true rfl, by exact Nat.le_of_ble_eq_true rfl⟩) (j_preV hK hSX hG (ci := 10) rfl ka0 (by decide)) rfl rfl hl.1 rfl (lv_room (Nat.le_of_ble_eq_true rfl)) dX11_zone_15 ⟨by exact Nat.le_of_ble_eq_true rfl, by exact Nat.le_of_ble_eq_true rfl⟩) hG (c2 := 0) (s2 := 0) ⟨by exact Nat.le_of_ble_eq_true rfl, by exact Nat.le_of_ble_eq_true rfl⟩ (fun z63 M64 h H locs hG => ?_)
    rw [hQf]
    exact j_ireti hx hb hr hlocks hG h (by decide) dX11_zone_18

abbrev rm_X11_rule : Room := { frames := 3, cells := 0, slots := 0, locals := 65 }
set_option maxRecDepth 100000 in
set_option maxHeartbeats 4000000 in
theorem A_X11_rule (l : Launch) {D : va_G} {cy : Nat → ClassId} {o : Nat} {sK sV : Nat → Nat} {M : jT} {a0 : Int} {a1 : Int} {a2 : Int} {a3 : Int} (ka0 : kd a0 = 11) {Q : Int → jT → Prop} (h : wp_X11_rule M a0 a1 a2 a3 Q) : CoI l yX11_rule (wj yX11_rule cX11_rule 4 (some .int)) rm_X11_rule D cy o sK sV M [.ref (rA o a0), .int (J a1), .int (J a2), .int (J a3)] Q := by
  refine j_ofW (cc := cX11_rule) (maxL := 4) (ret := (some .int)) (by decide) rfl (Nat.le_of_ble_eq_true rfl) ?_
  intro p e s m args below meth c hx hb hr hlocks hml hown hts hK hSX H locs hG ls hl Qf hQf
  have hown : s.vm.findClass RX11 = some m.cls := hown
  have hl : lv_has ls 4 [(0, .ref (rA o a0)), (1, .int (J a1)), (2, .int (J a2)), (3, .int (J a3))] := hl
  have w_fl_RX11_80 := hts _ (List.mem_cons_of_mem _ fl_RX11_80)
  have w_fl_RX11_9 := hts _ (List.mem_cons_of_mem _ fl_RX11_9)
  unfold wp_X11_rule at h
  refine lv_aload_n hx hb dX11_rule_0 rfl (lv_at hl 0 rfl) ?_
  refine lv_iconst (v := J 0) hx hb dX11_rule_1 (by decide) ?_
  refine j_puti hx hb hts hown hK hG (k := a0) (fun w h => List.mem_cons_of_mem _ (u_X11 w h)) tyX11 tyX11_ok nmX11 (ci := 10) rfl ka0 0 (by decide) (jz := 0) rfl w_fl_RX11_80 (hd := rfl) (hn := rfl) (hfit := rfl) (hdg := dX11_rule_2) (fun M1 eM1 H locs hG => ?_)
  have h := h M1 eM1
  refine lv_aload_n hx hb dX11_rule_5 rfl (lv_at hl 0 rfl) ?_
  refine lv_iload_n hx hb dX11_rule_6 rfl (lv_at hl 1 rfl) ?_
  refine lv_iload_n hx hb dX11_rule_7 rfl (lv_at hl 2 rfl) ?_
  obtain ⟨g2, h⟩ := h
  refine j_conti (va_runV (As := [.int (J a1), .int (J a2)]) (rest := []) ⟨hx, hb, hml, hown, hts⟩ (A_X11_isRule l ka0 g2) (cwV 2 hts (gj_V ml_RX11_138 i_X11_isRule s_X11_isRule n_RX11 k_X11_isRule) rfl rfl rfl (by decide +kernel) ⟨by exact Nat.le_of_ble_eq_true rfl, by exact Nat.le_of_ble_eq_true rfl⟩) (j_preV hK hSX hG (ci := 10) rfl ka0 (by decide)) rfl rfl hl.1 rfl (lv_room (Nat.le_of_ble_eq_true rfl)) dX11_rule_8 ⟨by exact Nat.le_of_ble_eq_true rfl, by exact Nat.le_of_ble_eq_true rfl⟩) hG (c2 := 0) (s2 := 0) ⟨by exact Nat.le_of_ble_eq_true rfl, by exact Nat.le_of_ble_eq_true rfl⟩ (fun z3 M4 ez3 H locs hG => ?_)
  obtain ⟨ez3, eM4⟩ := ez3
  subst ez3
  rw [eM4] at hG
  refine j_if_ne_b (tgt := 20) hx hb dX11_rule_11 (by decide) (fun c5 => ?_) (fun c5 => ?_)
  · have h := h.1 c5
    refine lv_iload_n hx hb dX11_rule_20 rfl (lv_at hl 3 rfl) ?_
    refine lv_iconst (v := J 0) hx hb dX11_rule_21 (by decide) ?_
    refine lv_bipush (v := J 6) hx hb dX11_rule_22 (by decide) ?_
    obtain ⟨g6, h⟩ := h
    refine j_conti (va_runS (As := [.int (J a3), .int (J 0), .int (J 6)]) (rest := []) ⟨hx, hb, hml, hown, hts⟩ (A_X11_in l g6) (va_cwS 3 hts (gj_S ml_RX11_106 i_X11_in n_RX11 k_X11_in) rfl rfl rfl (by decide +kernel) ⟨by exact Nat.le_of_ble_eq_true rfl, by exact Nat.le_of_ble_eq_true rfl⟩) (j_preS hK hSX hG) rfl rfl hl.1 rfl (lv_room (Nat.le_of_ble_eq_true rfl)) dX11_rule_24 ⟨by exact Nat.le_of_ble_eq_true rfl, by exact Nat.le_of_ble_eq_true rfl⟩) hG (c2 := 0) (s2 := 0) ⟨by exact Nat.le_of_ble_eq_true rfl, by exact Nat.le_of_ble_eq_true rfl⟩ (fun z7 M8 ez7 H locs hG => ?_)
    obtain ⟨ez7, eM8⟩ := ez7
    subst ez7
    rw [eM8] at hG
    obtain ⟨K17, hK17, h⟩ := h
    have jK17 : ∀ (x15 : Int) (M16 : jT), K17 x15 M16 → ∀ (H : Heap) (locs : List Loc), GM D cy o M16 s.heap H locs → ∀ ls : Array Slot, lv_has ls 4 [] → W p l e rm_X11_rule s m args below meth c H locs 0 0 Qf (F0 m 50 ls [.int (J x15)]) := by
      intro x15 M16 hcK17 H locs hG ls hl
      have h := hK17 x15 M16 hcK17
      rw [hQf]
      exact j_ireti hx hb hr hlocks hG h (by decide) dX11_rule_50
    refine j_if_eq_b (tgt := 45) hx hb dX11_rule_27 (by decide) (fun c18 => ?_) (fun c18 => ?_)
    · have h := h.1 c18
      refine lv_aload_n hx hb dX11_rule_45 rfl (lv_at hl 0 rfl) ?_
      refine lv_iconst (v := J 2) hx hb dX11_rule_46 (by decide) ?_
      refine j_conti (va_runV (As := [.int (J 2)]) (rest := []) ⟨hx, hb, hml, hown, hts⟩ (A_X11_raises l ka0 h) (cwV 1 hts (gj_V ml_RX11_110 i_X11_raises s_X11_raises n_RX11 k_X11_raises) rfl rfl rfl (by decide +kernel) ⟨by exact Nat.le_of_ble_eq_true rfl, by exact Nat.le_of_ble_eq_true rfl⟩) (j_preV hK hSX hG (ci := 10) rfl ka0 (by decide)) rfl rfl hl.1 rfl (lv_room (Nat.le_of_ble_eq_true rfl)) dX11_rule_47 ⟨by exact Nat.le_of_ble_eq_true rfl, by exact Nat.le_of_ble_eq_true rfl⟩) hG (c2 := 0) (s2 := 0) ⟨by exact Nat.le_of_ble_eq_true rfl, by exact Nat.le_of_ble_eq_true rfl⟩ (fun z19 M20 h H locs hG => ?_)
      exact jK17 z19 M20 h H locs hG ls (lv_sub hl [] rfl)
    · have h := h.2 c18
      refine lv_aload_n hx hb dX11_rule_30 rfl (lv_at hl 0 rfl) ?_
      refine j_getr hx hb hts hown hK hG (k := a0) (fun w h => List.mem_cons_of_mem _ (u_X11 w h)) (ci := 10) rfl ka0 1 (k2 := a0 + 1) (by decide) (by show a0 + (1 : Int) = a0 + 1; omega) w_fl_RX11_9 dX11_rule_31 ?_
      refine lv_iload_n hx hb dX11_rule_34 rfl (lv_at hl 1 rfl) ?_
      refine lv_iload_n hx hb dX11_rule_35 rfl (lv_at hl 2 rfl) ?_
      refine j_conti (va_runS (As := [.int (J a1), .int (J a2)]) (rest := [.ref (rA o (a0 + 1))]) ⟨hx, hb, hml, hown, hts⟩ (A_X11_ruleAt l) (va_cwS 2 hts (gj_S ml_RX11_135 i_X11_ruleAt n_RX11 k_X11_ruleAt) rfl rfl rfl (by decide +kernel) ⟨by exact Nat.le_of_ble_eq_true rfl, by exact Nat.le_of_ble_eq_true rfl⟩) (j_preS hK hSX hG) rfl rfl hl.1 rfl (lv_room (Nat.le_of_ble_eq_true rfl)) dX11_rule_36 ⟨by exact Nat.le_of_ble_eq_true rfl, by exact Nat.le_of_ble_eq_true rfl⟩) hG (c2 := 0) (s2 := 0) ⟨by exact Nat.le_of_ble_eq_true rfl, by exact Nat.le_of_ble_eq_true rfl⟩ (fun z21 M22 ez21 H locs hG => ?_)
      obtain ⟨ez21, eM22⟩ := ez21
      subst ez21
      rw [eM22] at hG
      refine lv_iload_n hx hb dX11_rule_39 rfl (lv_at hl 3 rfl) ?_
      refine j_iadd hx hb dX11_rule_40 ?_
      obtain ⟨g23, h⟩ := h
      refine j_iald hx hb hK hG (n := 1294) (kf_11_1 ka0) (by decide) g23 dX11_rule_41 ?_
      refine lv_goto (tgt := 50) hx hb dX11_rule_42 (by decide) ?_
      exact jK17 (M1 (a0 + 1) ((pf_X11_ruleAt a1 a2) + a3)) M1 h H locs hG ls (lv_sub hl [] rfl)
  · have h := h.2 c5
    refine lv_aload_n hx hb dX11_rule_14 rfl (lv_at hl 0 rfl) ?_
    refine lv_iconst (v := J 1) hx hb dX11_rule_15 (by decide) ?_
    refine j_conti (va_runV (As := [.int (J 1)]) (rest := []) ⟨hx, hb, hml, hown, hts⟩ (A_X11_raises l ka0 h) (cwV 1 hts (gj_V ml_RX11_110 i_X11_raises s_X11_raises n_RX11 k_X11_raises) rfl rfl rfl (by decide +kernel) ⟨by exact Nat.le_of_ble_eq_true rfl, by exact Nat.le_of_ble_eq_true rfl⟩) (j_preV hK hSX hG (ci := 10) rfl ka0 (by decide)) rfl rfl hl.1 rfl (lv_room (Nat.le_of_ble_eq_true rfl)) dX11_rule_16 ⟨by exact Nat.le_of_ble_eq_true rfl, by exact Nat.le_of_ble_eq_true rfl⟩) hG (c2 := 0) (s2 := 0) ⟨by exact Nat.le_of_ble_eq_true rfl, by exact Nat.le_of_ble_eq_true rfl⟩ (fun z24 M25 h H locs hG => ?_)
    rw [hQf]
    exact j_ireti hx hb hr hlocks hG h (by decide) dX11_rule_19

abbrev rm_X11_eventDay : Room := { frames := 3, cells := 0, slots := 0, locals := 71 }
set_option maxRecDepth 100000 in
set_option maxHeartbeats 4000000 in
theorem A_X11_eventDay (l : Launch) {D : va_G} {cy : Nat → ClassId} {o : Nat} {sK sV : Nat → Nat} {M : jT} {a0 : Int} {a1 : Int} {a2 : Int} {a3 : Int} (ka0 : kd a0 = 11) {Q : Int → jT → Prop} (h : wp_X11_eventDay M a0 a1 a2 a3 Q) : CoI l yX11_eventDay (wj yX11_eventDay cX11_eventDay 6 (some .int)) rm_X11_eventDay D cy o sK sV M [.ref (rA o a0), .int (J a1), .int (J a2), .int (J a3)] Q := by
  refine j_ofW (cc := cX11_eventDay) (maxL := 6) (ret := (some .int)) (by decide) rfl (Nat.le_of_ble_eq_true rfl) ?_
  intro p e s m args below meth c hx hb hr hlocks hml hown hts hK hSX H locs hG ls hl Qf hQf
  have hown : s.vm.findClass RX11 = some m.cls := hown
  have hl : lv_has ls 6 [(0, .ref (rA o a0)), (1, .int (J a1)), (2, .int (J a2)), (3, .int (J a3))] := hl
  have w_fl_RX11_80 := hts _ (List.mem_cons_of_mem _ fl_RX11_80)
  have w_fl_RX11_9 := hts _ (List.mem_cons_of_mem _ fl_RX11_9)
  unfold wp_X11_eventDay at h
  refine lv_aload_n hx hb dX11_eventDay_0 rfl (lv_at hl 0 rfl) ?_
  refine lv_iconst (v := J 0) hx hb dX11_eventDay_1 (by decide) ?_
  refine j_puti hx hb hts hown hK hG (k := a0) (fun w h => List.mem_cons_of_mem _ (u_X11 w h)) tyX11 tyX11_ok nmX11 (ci := 10) rfl ka0 0 (by decide) (jz := 0) rfl w_fl_RX11_80 (hd := rfl) (hn := rfl) (hfit := rfl) (hdg := dX11_eventDay_2) (fun M1 eM1 H locs hG => ?_)
  have h := h M1 eM1
  refine lv_aload_n hx hb dX11_eventDay_5 rfl (lv_at hl 0 rfl) ?_
  refine lv_iload_n hx hb dX11_eventDay_6 rfl (lv_at hl 1 rfl) ?_
  refine lv_iload_n hx hb dX11_eventDay_7 rfl (lv_at hl 2 rfl) ?_
  obtain ⟨g2, h⟩ := h
  refine j_conti (va_runV (As := [.int (J a1), .int (J a2)]) (rest := []) ⟨hx, hb, hml, hown, hts⟩ (A_X11_isRule l ka0 g2) (cwV 2 hts (gj_V ml_RX11_138 i_X11_isRule s_X11_isRule n_RX11 k_X11_isRule) rfl rfl rfl (by decide +kernel) ⟨by exact Nat.le_of_ble_eq_true rfl, by exact Nat.le_of_ble_eq_true rfl⟩) (j_preV hK hSX hG (ci := 10) rfl ka0 (by decide)) rfl rfl hl.1 rfl (lv_room (Nat.le_of_ble_eq_true rfl)) dX11_eventDay_8 ⟨by exact Nat.le_of_ble_eq_true rfl, by exact Nat.le_of_ble_eq_true rfl⟩) hG (c2 := 0) (s2 := 0) ⟨by exact Nat.le_of_ble_eq_true rfl, by exact Nat.le_of_ble_eq_true rfl⟩ (fun z3 M4 ez3 H locs hG => ?_)
  obtain ⟨ez3, eM4⟩ := ez3
  subst ez3
  rw [eM4] at hG
  refine j_if_ne_b (tgt := 20) hx hb dX11_eventDay_11 (by decide) (fun c5 => ?_) (fun c5 => ?_)
  · have h := h.1 c5
    refine lv_iload_n hx hb dX11_eventDay_20 rfl (lv_at hl 3 rfl) ?_
    refine lv_iconst (v := J 0) hx hb dX11_eventDay_21 (by decide) ?_
    refine lv_bipush (v := J 31) hx hb dX11_eventDay_22 (by decide) ?_
    obtain ⟨g6, h⟩ := h
    refine j_conti (va_runS (As := [.int (J a3), .int (J 0), .int (J 31)]) (rest := []) ⟨hx, hb, hml, hown, hts⟩ (A_X11_in l g6) (va_cwS 3 hts (gj_S ml_RX11_106 i_X11_in n_RX11 k_X11_in) rfl rfl rfl (by decide +kernel) ⟨by exact Nat.le_of_ble_eq_true rfl, by exact Nat.le_of_ble_eq_true rfl⟩) (j_preS hK hSX hG) rfl rfl hl.1 rfl (lv_room (Nat.le_of_ble_eq_true rfl)) dX11_eventDay_24 ⟨by exact Nat.le_of_ble_eq_true rfl, by exact Nat.le_of_ble_eq_true rfl⟩) hG (c2 := 0) (s2 := 0) ⟨by exact Nat.le_of_ble_eq_true rfl, by exact Nat.le_of_ble_eq_true rfl⟩ (fun z7 M8 ez7 H locs hG => ?_)
    obtain ⟨ez7, eM8⟩ := ez7
    subst ez7
    rw [eM8] at hG
    refine j_if_ne_b (tgt := 36) hx hb dX11_eventDay_27 (by decide) (fun c9 => ?_) (fun c9 => ?_)
    · have h := h.1 c9
      refine lv_iload_n hx hb dX11_eventDay_36 rfl (lv_at hl 1 rfl) ?_
      refine lv_iload_n hx hb dX11_eventDay_37 rfl (lv_at hl 2 rfl) ?_
      refine j_conti (va_runS (As := [.int (J a1), .int (J a2)]) (rest := []) ⟨hx, hb, hml, hown, hts⟩ (A_X11_ruleAt l) (va_cwS 2 hts (gj_S ml_RX11_135 i_X11_ruleAt n_RX11 k_X11_ruleAt) rfl rfl rfl (by decide +kernel) ⟨by exact Nat.le_of_ble_eq_true rfl, by exact Nat.le_of_ble_eq_true rfl⟩) (j_preS hK hSX hG) rfl rfl hl.1 rfl (lv_room (Nat.le_of_ble_eq_true rfl)) dX11_eventDay_38 ⟨by exact Nat.le_of_ble_eq_true rfl, by exact Nat.le_of_ble_eq_true rfl⟩) hG (c2 := 0) (s2 := 0) ⟨by exact Nat.le_of_ble_eq_true rfl, by exact Nat.le_of_ble_eq_true rfl⟩ (fun z10 M11 ez10 H locs hG => ?_)
      obtain ⟨ez10, eM11⟩ := ez10
      subst ez10
      rw [eM11] at hG
      refine j_topi (fun x12 ex12 => ?_)
      have h := h x12 ex12
      refine lv_istore (lv' := [(4, .int (J x12)), (0, .ref (rA o a0)), (1, .int (J a1)), (2, .int (J a2)), (3, .int (J a3))]) hx hb dX11_eventDay_41 hl (by decide) rfl (fun ls hl => ?_)
      refine lv_iload_n hx hb dX11_eventDay_43 rfl (lv_at hl 4 rfl) ?_
      refine lv_aload_n hx hb dX11_eventDay_44 rfl (lv_at hl 1 rfl) ?_
      refine j_getr hx hb hts hown hK hG (k := a0) (fun w h => List.mem_cons_of_mem _ (u_X11 w h)) (ci := 10) rfl ka0 1 (k2 := a0 + 1) (by decide) (by show a0 + (1 : Int) = a0 + 1; omega) w_fl_RX11_9 dX11_eventDay_45 ?_
      refine lv_iload hx hb dX11_eventDay_48 (lv_at hl 0 rfl) ?_
      obtain ⟨g13, h⟩ := h
      refine j_iald hx hb hK hG (n := 1294) (kf_11_1 ka0) (by decide) g13 dX11_eventDay_50 ?_
      refine lv_aload_n hx hb dX11_eventDay_51 rfl (lv_at hl 1 rfl) ?_
      refine j_getr hx hb hts hown hK hG (k := a0) (fun w h => List.mem_cons_of_mem _ (u_X11 w h)) (ci := 10) rfl ka0 1 (k2 := a0 + 1) (by decide) (by show a0 + (1 : Int) = a0 + 1; omega) w_fl_RX11_9 dX11_eventDay_52 ?_
      refine lv_iload hx hb dX11_eventDay_55 (lv_at hl 0 rfl) ?_
      refine lv_iconst (v := J 1) hx hb dX11_eventDay_57 (by decide) ?_
      refine j_iadd hx hb dX11_eventDay_58 ?_
      obtain ⟨g14, h⟩ := h
      refine j_iald hx hb hK hG (n := 1294) (kf_11_1 ka0) (by decide) g14 dX11_eventDay_59 ?_
      obtain ⟨g15, h⟩ := h
      refine j_conti (va_runS (As := [.int (J a3), .int (J (M1 (a0 + 1) x12)), .int (J (M1 (a0 + 1) (x12 + 1)))]) (rest := []) ⟨hx, hb, hml, hown, hts⟩ (A_X11_in l g15) (va_cwS 3 hts (gj_S ml_RX11_106 i_X11_in n_RX11 k_X11_in) rfl rfl rfl (by decide +kernel) ⟨by exact Nat.le_of_ble_eq_true rfl, by exact Nat.le_of_ble_eq_true rfl⟩) (j_preS hK hSX hG) rfl rfl hl.1 rfl (lv_room (Nat.le_of_ble_eq_true rfl)) dX11_eventDay_60 ⟨by exact Nat.le_of_ble_eq_true rfl, by exact Nat.le_of_ble_eq_true rfl⟩) hG (c2 := 0) (s2 := 0) ⟨by exact Nat.le_of_ble_eq_true rfl, by exact Nat.le_of_ble_eq_true rfl⟩ (fun z16 M17 ez16 H locs hG => ?_)
      obtain ⟨ez16, eM17⟩ := ez16
      subst ez16
      rw [eM17] at hG
      obtain ⟨K24, hK24, h⟩ := h
      have jK24 : ∀ (x23 : Int), K24 x23 → ∀ (H : Heap) (locs : List Loc), GM D cy o M1 s.heap H locs → ∀ ls : Array Slot, lv_has ls 6 [(0, .ref (rA o a0))] → W p l e rm_X11_eventDay s m args below meth c H locs 0 0 Qf (F0 m 92 ls [.int (J x23)]) := by
        intro x23 hcK24 H locs hG ls hl
        have h := hK24 x23 hcK24
        refine lv_istore (lv' := [(5, .int (J x23)), (0, .ref (rA o a0))]) hx hb dX11_eventDay_92 hl (by decide) rfl (fun ls hl => ?_)
        refine lv_iload hx hb dX11_eventDay_94 (lv_at hl 0 rfl) ?_
        obtain ⟨K31, hK31, h⟩ := h
        have jK31 : ∀ (x29 : Int) (M30 : jT), K31 x29 M30 → ∀ (H : Heap) (locs : List Loc), GM D cy o M30 s.heap H locs → ∀ ls : Array Slot, lv_has ls 6 [] → W p l e rm_X11_eventDay s m args below meth c H locs 0 0 Qf (F0 m 109 ls [.int (J x29)]) := by
          intro x29 M30 hcK31 H locs hG ls hl
          have h := hK31 x29 M30 hcK31
          rw [hQf]
          exact j_ireti hx hb hr hlocks hG h (by decide) dX11_eventDay_109
        obtain ⟨g33, h⟩ := h
        refine j_if_ge (tgt := 107) hx hb dX11_eventDay_96 (by decide) g33 (fun c32 => ?_) (fun c32 => ?_)
        · have h := h.1 c32
          refine lv_iload hx hb dX11_eventDay_107 (lv_at hl 0 rfl) ?_
          exact jK31 x23 M1 h H locs hG ls (lv_sub hl [] rfl)
        · have h := h.2 c32
          refine lv_aload_n hx hb dX11_eventDay_99 rfl (lv_at hl 1 rfl) ?_
          refine lv_iconst (v := J 3) hx hb dX11_eventDay_100 (by decide) ?_
          refine j_conti (va_runV (As := [.int (J 3)]) (rest := []) ⟨hx, hb, hml, hown, hts⟩ (A_X11_raises l ka0 h) (cwV 1 hts (gj_V ml_RX11_110 i_X11_raises s_X11_raises n_RX11 k_X11_raises) rfl rfl rfl (by decide +kernel) ⟨by exact Nat.le_of_ble_eq_true rfl, by exact Nat.le_of_ble_eq_true rfl⟩) (j_preV hK hSX hG (ci := 10) rfl ka0 (by decide)) rfl rfl hl.1 rfl (lv_room (Nat.le_of_ble_eq_true rfl)) dX11_eventDay_101 ⟨by exact Nat.le_of_ble_eq_true rfl, by exact Nat.le_of_ble_eq_true rfl⟩) hG (c2 := 0) (s2 := 0) ⟨by exact Nat.le_of_ble_eq_true rfl, by exact Nat.le_of_ble_eq_true rfl⟩ (fun z34 M35 h H locs hG => ?_)
          refine lv_goto (tgt := 109) hx hb dX11_eventDay_104 (by decide) ?_
          exact jK31 z34 M35 h H locs hG ls (lv_sub hl [] rfl)
      refine j_if_eq_b (tgt := 91) hx hb dX11_eventDay_63 (by decide) (fun c36 => ?_) (fun c36 => ?_)
      · have h := h.1 c36
        refine lv_iconst (v := J (-1)) hx hb dX11_eventDay_91 (by decide) ?_
        exact jK24 ((-1)) h H locs hG ls (lv_sub hl [1] rfl)
      · have h := h.2 c36
        refine lv_aload_n hx hb dX11_eventDay_66 rfl (lv_at hl 1 rfl) ?_
        refine j_getr hx hb hts hown hK hG (k := a0) (fun w h => List.mem_cons_of_mem _ (u_X11 w h)) (ci := 10) rfl ka0 1 (k2 := a0 + 1) (by decide) (by show a0 + (1 : Int) = a0 + 1; omega) w_fl_RX11_9 dX11_eventDay_67 ?_
        refine lv_iload hx hb dX11_eventDay_70 (lv_at hl 0 rfl) ?_
        refine lv_iconst (v := J 3) hx hb dX11_eventDay_72 (by decide) ?_
        refine j_iadd hx hb dX11_eventDay_73 ?_
        obtain ⟨g37, h⟩ := h
        refine j_iald hx hb hK hG (n := 1294) (kf_11_1 ka0) (by decide) g37 dX11_eventDay_74 ?_
        refine lv_iload_n hx hb dX11_eventDay_75 rfl (lv_at hl 4 rfl) ?_
        refine lv_aload_n hx hb dX11_eventDay_76 rfl (lv_at hl 1 rfl) ?_
        refine j_getr hx hb hts hown hK hG (k := a0) (fun w h => List.mem_cons_of_mem _ (u_X11 w h)) (ci := 10) rfl ka0 1 (k2 := a0 + 1) (by decide) (by show a0 + (1 : Int) = a0 + 1; omega) w_fl_RX11_9 dX11_eventDay_77 ?_
        refine lv_iload hx hb dX11_eventDay_80 (lv_at hl 0 rfl) ?_
        refine lv_iconst (v := J 2) hx hb dX11_eventDay_82 (by decide) ?_
        refine j_iadd hx hb dX11_eventDay_83 ?_
        obtain ⟨g38, h⟩ := h
        refine j_iald hx hb hK hG (n := 1294) (kf_11_1 ka0) (by decide) g38 dX11_eventDay_84 ?_
        refine j_conti (va_runS (As := [.int (J (M1 (a0 + 1) (x12 + 3))), .int (J a3), .int (J (M1 (a0 + 1) (x12 + 2)))]) (rest := []) ⟨hx, hb, hml, hown, hts⟩ (A_X11_dayBy l h) (va_cwS 3 hts (gj_S ml_RX11_174 i_X11_dayBy n_RX11 k_X11_dayBy) rfl rfl rfl (by decide +kernel) ⟨by exact Nat.le_of_ble_eq_true rfl, by exact Nat.le_of_ble_eq_true rfl⟩) (j_preS hK hSX hG) rfl rfl hl.1 rfl (lv_room (Nat.le_of_ble_eq_true rfl)) dX11_eventDay_85 ⟨by exact Nat.le_of_ble_eq_true rfl, by exact Nat.le_of_ble_eq_true rfl⟩) hG (c2 := 0) (s2 := 0) ⟨by exact Nat.le_of_ble_eq_true rfl, by exact Nat.le_of_ble_eq_true rfl⟩ (fun z39 M40 h H locs hG => ?_)
        obtain ⟨h, eM40⟩ := h
        rw [eM40] at hG
        refine lv_goto (tgt := 92) hx hb dX11_eventDay_88 (by decide) ?_
        exact jK24 z39 h H locs hG ls (lv_sub hl [1] rfl)
    · have h := h.2 c9
      refine lv_aload_n hx hb dX11_eventDay_30 rfl (lv_at hl 0 rfl) ?_
      refine lv_iconst (v := J 2) hx hb dX11_eventDay_31 (by decide) ?_
      refine j_conti (va_runV (As := [.int (J 2)]) (rest := []) ⟨hx, hb, hml, hown, hts⟩ (A_X11_raises l ka0 h) (cwV 1 hts (gj_V ml_RX11_110 i_X11_raises s_X11_raises n_RX11 k_X11_raises) rfl rfl rfl (by decide +kernel) ⟨by exact Nat.le_of_ble_eq_true rfl, by exact Nat.le_of_ble_eq_true rfl⟩) (j_preV hK hSX hG (ci := 10) rfl ka0 (by decide)) rfl rfl hl.1 rfl (lv_room (Nat.le_of_ble_eq_true rfl)) dX11_eventDay_32 ⟨by exact Nat.le_of_ble_eq_true rfl, by exact Nat.le_of_ble_eq_true rfl⟩) hG (c2 := 0) (s2 := 0) ⟨by exact Nat.le_of_ble_eq_true rfl, by exact Nat.le_of_ble_eq_true rfl⟩ (fun z41 M42 h H locs hG => ?_)
      rw [hQf]
      exact j_ireti hx hb hr hlocks hG h (by decide) dX11_eventDay_35
  · have h := h.2 c5
    refine lv_aload_n hx hb dX11_eventDay_14 rfl (lv_at hl 0 rfl) ?_
    refine lv_iconst (v := J 1) hx hb dX11_eventDay_15 (by decide) ?_
    refine j_conti (va_runV (As := [.int (J 1)]) (rest := []) ⟨hx, hb, hml, hown, hts⟩ (A_X11_raises l ka0 h) (cwV 1 hts (gj_V ml_RX11_110 i_X11_raises s_X11_raises n_RX11 k_X11_raises) rfl rfl rfl (by decide +kernel) ⟨by exact Nat.le_of_ble_eq_true rfl, by exact Nat.le_of_ble_eq_true rfl⟩) (j_preV hK hSX hG (ci := 10) rfl ka0 (by decide)) rfl rfl hl.1 rfl (lv_room (Nat.le_of_ble_eq_true rfl)) dX11_eventDay_16 ⟨by exact Nat.le_of_ble_eq_true rfl, by exact Nat.le_of_ble_eq_true rfl⟩) hG (c2 := 0) (s2 := 0) ⟨by exact Nat.le_of_ble_eq_true rfl, by exact Nat.le_of_ble_eq_true rfl⟩ (fun z43 M44 h H locs hG => ?_)
    rw [hQf]
    exact j_ireti hx hb hr hlocks hG h (by decide) dX11_eventDay_19

abbrev rm_X11_transition : Room := { frames := 4, cells := 0, slots := 0, locals := 100 }
set_option maxRecDepth 100000 in
set_option maxHeartbeats 4000000 in
theorem A_X11_transition (l : Launch) {D : va_G} {cy : Nat → ClassId} {o : Nat} {sK sV : Nat → Nat} {M : jT} {a0 : Int} {a1 : Int} {a2 : Int} {a3 : Int} (ka0 : kd a0 = 11) {Q : Int → jT → Prop} (h : wp_X11_transition M a0 a1 a2 a3 Q) : CoI l yX11_transition (wj yX11_transition cX11_transition 4 (some .int)) rm_X11_transition D cy o sK sV M [.ref (rA o a0), .int (J a1), .int (J a2), .int (J a3)] Q := by
  refine j_ofW (cc := cX11_transition) (maxL := 4) (ret := (some .int)) (by decide) rfl (Nat.le_of_ble_eq_true rfl) ?_
  intro p e s m args below meth c hx hb hr hlocks hml hown hts hK hSX H locs hG ls hl Qf hQf
  have hown : s.vm.findClass RX11 = some m.cls := hown
  have hl : lv_has ls 4 [(0, .ref (rA o a0)), (1, .int (J a1)), (2, .int (J a2)), (3, .int (J a3))] := hl
  have w_fl_RX11_80 := hts _ (List.mem_cons_of_mem _ fl_RX11_80)
  have w_fl_RX11_181 := hts _ (List.mem_cons_of_mem _ fl_RX11_181)
  have w_fl_RX11_44 := hts _ (List.mem_cons_of_mem _ fl_RX11_44)
  have w_fl_RX11_47 := hts _ (List.mem_cons_of_mem _ fl_RX11_47)
  have w_fl_RX11_50 := hts _ (List.mem_cons_of_mem _ fl_RX11_50)
  have w_fl_RX11_53 := hts _ (List.mem_cons_of_mem _ fl_RX11_53)
  have w_fl_RX11_56 := hts _ (List.mem_cons_of_mem _ fl_RX11_56)
  unfold wp_X11_transition at h
  refine lv_aload_n hx hb dX11_transition_0 rfl (lv_at hl 0 rfl) ?_
  refine lv_iconst (v := J 0) hx hb dX11_transition_1 (by decide) ?_
  refine j_puti hx hb hts hown hK hG (k := a0) (fun w h => List.mem_cons_of_mem _ (u_X11 w h)) tyX11 tyX11_ok nmX11 (ci := 10) rfl ka0 0 (by decide) (jz := 0) rfl w_fl_RX11_80 (hd := rfl) (hn := rfl) (hfit := rfl) (hdg := dX11_transition_2) (fun M1 eM1 H locs hG => ?_)
  have h := h M1 eM1
  refine lv_aload_n hx hb dX11_transition_5 rfl (lv_at hl 0 rfl) ?_
  refine lv_iload_n hx hb dX11_transition_6 rfl (lv_at hl 1 rfl) ?_
  obtain ⟨g2, h⟩ := h
  refine j_conti (va_runV (As := [.int (J a1)]) (rest := []) ⟨hx, hb, hml, hown, hts⟩ (A_X11_isZone l ka0 g2) (cwV 1 hts (gj_V ml_RX11_126 i_X11_isZone s_X11_isZone n_RX11 k_X11_isZone) rfl rfl rfl (by decide +kernel) ⟨by exact Nat.le_of_ble_eq_true rfl, by exact Nat.le_of_ble_eq_true rfl⟩) (j_preV hK hSX hG (ci := 10) rfl ka0 (by decide)) rfl rfl hl.1 rfl (lv_room (Nat.le_of_ble_eq_true rfl)) dX11_transition_7 ⟨by exact Nat.le_of_ble_eq_true rfl, by exact Nat.le_of_ble_eq_true rfl⟩) hG (c2 := 0) (s2 := 0) ⟨by exact Nat.le_of_ble_eq_true rfl, by exact Nat.le_of_ble_eq_true rfl⟩ (fun z3 M4 ez3 H locs hG => ?_)
  obtain ⟨ez3, eM4⟩ := ez3
  subst ez3
  rw [eM4] at hG
  refine j_if_ne_b (tgt := 19) hx hb dX11_transition_10 (by decide) (fun c5 => ?_) (fun c5 => ?_)
  · have h := h.1 c5
    refine lv_aload_n hx hb dX11_transition_19 rfl (lv_at hl 0 rfl) ?_
    refine lv_iload_n hx hb dX11_transition_20 rfl (lv_at hl 1 rfl) ?_
    refine j_contv (va_runV (As := [.int (J a1)]) (rest := []) ⟨hx, hb, hml, hown, hts⟩ (A_X11_compiles l ka0 h) (cwV 1 hts (gj_V ml_RX11_187 i_X11_compiles s_X11_compiles n_RX11 k_X11_compiles) rfl rfl rfl (by decide +kernel) ⟨by exact Nat.le_of_ble_eq_true rfl, by exact Nat.le_of_ble_eq_true rfl⟩) (j_preV hK hSX hG (ci := 10) rfl ka0 (by decide)) rfl rfl hl.1 rfl (lv_room (Nat.le_of_ble_eq_true rfl)) dX11_transition_21 ⟨by exact Nat.le_of_ble_eq_true rfl, by exact Nat.le_of_ble_eq_true rfl⟩) hG (c2 := 0) (s2 := 0) ⟨by exact Nat.le_of_ble_eq_true rfl, by exact Nat.le_of_ble_eq_true rfl⟩ (fun M7 h H locs hG => ?_)
    refine lv_iload_n hx hb dX11_transition_24 rfl (lv_at hl 2 rfl) ?_
    refine lv_iconst (v := J 0) hx hb dX11_transition_25 (by decide) ?_
    refine lv_aload_n hx hb dX11_transition_26 rfl (lv_at hl 0 rfl) ?_
    refine j_geti hx hb hts hown hK hG (k := a0) (fun w h => List.mem_cons_of_mem _ (u_X11 w h)) (ci := 10) rfl ka0 18 (by decide) (jz := 18) rfl w_fl_RX11_181 dX11_transition_27 ?_
    refine lv_iconst (v := J 1) hx hb dX11_transition_30 (by decide) ?_
    refine j_isub hx hb dX11_transition_31 ?_
    obtain ⟨g8, h⟩ := h
    refine j_conti (va_runS (As := [.int (J a2), .int (J 0), .int (J ((M7 a0 18) - 1))]) (rest := []) ⟨hx, hb, hml, hown, hts⟩ (A_X11_in l g8) (va_cwS 3 hts (gj_S ml_RX11_106 i_X11_in n_RX11 k_X11_in) rfl rfl rfl (by decide +kernel) ⟨by exact Nat.le_of_ble_eq_true rfl, by exact Nat.le_of_ble_eq_true rfl⟩) (j_preS hK hSX hG) rfl rfl hl.1 rfl (lv_room (Nat.le_of_ble_eq_true rfl)) dX11_transition_32 ⟨by exact Nat.le_of_ble_eq_true rfl, by exact Nat.le_of_ble_eq_true rfl⟩) hG (c2 := 0) (s2 := 0) ⟨by exact Nat.le_of_ble_eq_true rfl, by exact Nat.le_of_ble_eq_true rfl⟩ (fun z9 M10 ez9 H locs hG => ?_)
    obtain ⟨ez9, eM10⟩ := ez9
    subst ez9
    rw [eM10] at hG
    refine j_if_ne_b (tgt := 44) hx hb dX11_transition_35 (by decide) (fun c11 => ?_) (fun c11 => ?_)
    · have h := h.1 c11
      refine lv_iload_n hx hb dX11_transition_44 rfl (lv_at hl 3 rfl) ?_
      obtain ⟨g12, h⟩ := h
      rcases em_eqI (a3) 0 with c13 | c13_0
      · refine j_tsw hx hb dX11_transition_45 g12 (k := 0) (tgt := 80) c13 ⟨by decide, by decide, rfl⟩ (by decide) ?_
        have h := h.1 c13
        refine lv_aload_n hx hb dX11_transition_80 rfl (lv_at hl 0 rfl) ?_
        refine j_getr hx hb hts hown hK hG (k := a0) (fun w h => List.mem_cons_of_mem _ (u_X11 w h)) (ci := 10) rfl ka0 19 (k2 := a0 + 10) (by decide) (by show a0 + (10 : Int) = a0 + 10; omega) w_fl_RX11_44 dX11_transition_81 ?_
        refine lv_iload_n hx hb dX11_transition_84 rfl (lv_at hl 2 rfl) ?_
        obtain ⟨g14, h⟩ := h
        refine j_iald hx hb hK hG (n := 261) (kf_11_19 ka0) (by decide) g14 dX11_transition_85 ?_
        rw [hQf]
        exact j_ireti hx hb hr hlocks hG h (by decide) dX11_transition_86
      · rcases em_eqI (a3) 1 with c13 | c13_1
        · refine j_tsw hx hb dX11_transition_45 g12 (k := 1) (tgt := 87) c13 ⟨by decide, by decide, rfl⟩ (by decide) ?_
          have h := h.2.1 c13
          refine lv_aload_n hx hb dX11_transition_87 rfl (lv_at hl 0 rfl) ?_
          refine j_getr hx hb hts hown hK hG (k := a0) (fun w h => List.mem_cons_of_mem _ (u_X11 w h)) (ci := 10) rfl ka0 20 (k2 := a0 + 11) (by decide) (by show a0 + (11 : Int) = a0 + 11; omega) w_fl_RX11_47 dX11_transition_88 ?_
          refine lv_iload_n hx hb dX11_transition_91 rfl (lv_at hl 2 rfl) ?_
          obtain ⟨g15, h⟩ := h
          refine j_iald hx hb hK hG (n := 261) (kf_11_20 ka0) (by decide) g15 dX11_transition_92 ?_
          rw [hQf]
          exact j_ireti hx hb hr hlocks hG h (by decide) dX11_transition_93
        · rcases em_eqI (a3) 2 with c13 | c13_2
          · refine j_tsw hx hb dX11_transition_45 g12 (k := 2) (tgt := 94) c13 ⟨by decide, by decide, rfl⟩ (by decide) ?_
            have h := h.2.2.1 c13
            refine lv_aload_n hx hb dX11_transition_94 rfl (lv_at hl 0 rfl) ?_
            refine j_getr hx hb hts hown hK hG (k := a0) (fun w h => List.mem_cons_of_mem _ (u_X11 w h)) (ci := 10) rfl ka0 21 (k2 := a0 + 12) (by decide) (by show a0 + (12 : Int) = a0 + 12; omega) w_fl_RX11_50 dX11_transition_95 ?_
            refine lv_iload_n hx hb dX11_transition_98 rfl (lv_at hl 2 rfl) ?_
            obtain ⟨g16, h⟩ := h
            refine j_iald hx hb hK hG (n := 261) (kf_11_21 ka0) (by decide) g16 dX11_transition_99 ?_
            rw [hQf]
            exact j_ireti hx hb hr hlocks hG h (by decide) dX11_transition_100
          · rcases em_eqI (a3) 3 with c13 | c13_3
            · refine j_tsw hx hb dX11_transition_45 g12 (k := 3) (tgt := 101) c13 ⟨by decide, by decide, rfl⟩ (by decide) ?_
              have h := h.2.2.2.1 c13
              refine lv_aload_n hx hb dX11_transition_101 rfl (lv_at hl 0 rfl) ?_
              refine j_getr hx hb hts hown hK hG (k := a0) (fun w h => List.mem_cons_of_mem _ (u_X11 w h)) (ci := 10) rfl ka0 22 (k2 := a0 + 13) (by decide) (by show a0 + (13 : Int) = a0 + 13; omega) w_fl_RX11_53 dX11_transition_102 ?_
              refine lv_iload_n hx hb dX11_transition_105 rfl (lv_at hl 2 rfl) ?_
              obtain ⟨g17, h⟩ := h
              refine j_iald hx hb hK hG (n := 261) (kf_11_22 ka0) (by decide) g17 dX11_transition_106 ?_
              rw [hQf]
              exact j_ireti hx hb hr hlocks hG h (by decide) dX11_transition_107
            · rcases em_eqI (a3) 4 with c13 | c13_4
              · refine j_tsw hx hb dX11_transition_45 g12 (k := 4) (tgt := 108) c13 ⟨by decide, by decide, rfl⟩ (by decide) ?_
                have h := h.2.2.2.2.1 c13
                refine lv_aload_n hx hb dX11_transition_108 rfl (lv_at hl 0 rfl) ?_
                refine j_getr hx hb hts hown hK hG (k := a0) (fun w h => List.mem_cons_of_mem _ (u_X11 w h)) (ci := 10) rfl ka0 23 (k2 := a0 + 14) (by decide) (by show a0 + (14 : Int) = a0 + 14; omega) w_fl_RX11_56 dX11_transition_109 ?_
                refine lv_iload_n hx hb dX11_transition_112 rfl (lv_at hl 2 rfl) ?_
                obtain ⟨g18, h⟩ := h
                refine j_iald hx hb hK hG (n := 261) (kf_11_23 ka0) (by decide) g18 dX11_transition_113 ?_
                rw [hQf]
                exact j_ireti hx hb hr hlocks hG h (by decide) dX11_transition_114
              · have c13 : a3 ≠ 0 ∧ a3 ≠ 1 ∧ a3 ≠ 2 ∧ a3 ≠ 3 ∧ a3 ≠ 4 := ⟨c13_0, c13_1, c13_2, c13_3, c13_4⟩
                have h := h.2.2.2.2.2 c13
                refine j_tswd hx hb dX11_transition_45 g12 (tgt := 115) (by omega) (by decide) ?_
                refine lv_aload_n hx hb dX11_transition_115 rfl (lv_at hl 0 rfl) ?_
                refine lv_iconst (v := J 3) hx hb dX11_transition_116 (by decide) ?_
                refine j_conti (va_runV (As := [.int (J 3)]) (rest := []) ⟨hx, hb, hml, hown, hts⟩ (A_X11_raises l ka0 h) (cwV 1 hts (gj_V ml_RX11_110 i_X11_raises s_X11_raises n_RX11 k_X11_raises) rfl rfl rfl (by decide +kernel) ⟨by exact Nat.le_of_ble_eq_true rfl, by exact Nat.le_of_ble_eq_true rfl⟩) (j_preV hK hSX hG (ci := 10) rfl ka0 (by decide)) rfl rfl hl.1 rfl (lv_room (Nat.le_of_ble_eq_true rfl)) dX11_transition_117 ⟨by exact Nat.le_of_ble_eq_true rfl, by exact Nat.le_of_ble_eq_true rfl⟩) hG (c2 := 0) (s2 := 0) ⟨by exact Nat.le_of_ble_eq_true rfl, by exact Nat.le_of_ble_eq_true rfl⟩ (fun z19 M20 h H locs hG => ?_)
                rw [hQf]
                exact j_ireti hx hb hr hlocks hG h (by decide) dX11_transition_120
    · have h := h.2 c11
      refine lv_aload_n hx hb dX11_transition_38 rfl (lv_at hl 0 rfl) ?_
      refine lv_iconst (v := J 2) hx hb dX11_transition_39 (by decide) ?_
      refine j_conti (va_runV (As := [.int (J 2)]) (rest := []) ⟨hx, hb, hml, hown, hts⟩ (A_X11_raises l ka0 h) (cwV 1 hts (gj_V ml_RX11_110 i_X11_raises s_X11_raises n_RX11 k_X11_raises) rfl rfl rfl (by decide +kernel) ⟨by exact Nat.le_of_ble_eq_true rfl, by exact Nat.le_of_ble_eq_true rfl⟩) (j_preV hK hSX hG (ci := 10) rfl ka0 (by decide)) rfl rfl hl.1 rfl (lv_room (Nat.le_of_ble_eq_true rfl)) dX11_transition_40 ⟨by exact Nat.le_of_ble_eq_true rfl, by exact Nat.le_of_ble_eq_true rfl⟩) hG (c2 := 0) (s2 := 0) ⟨by exact Nat.le_of_ble_eq_true rfl, by exact Nat.le_of_ble_eq_true rfl⟩ (fun z21 M22 h H locs hG => ?_)
      rw [hQf]
      exact j_ireti hx hb hr hlocks hG h (by decide) dX11_transition_43
  · have h := h.2 c5
    refine lv_aload_n hx hb dX11_transition_13 rfl (lv_at hl 0 rfl) ?_
    refine lv_iconst (v := J 1) hx hb dX11_transition_14 (by decide) ?_
    refine j_conti (va_runV (As := [.int (J 1)]) (rest := []) ⟨hx, hb, hml, hown, hts⟩ (A_X11_raises l ka0 h) (cwV 1 hts (gj_V ml_RX11_110 i_X11_raises s_X11_raises n_RX11 k_X11_raises) rfl rfl rfl (by decide +kernel) ⟨by exact Nat.le_of_ble_eq_true rfl, by exact Nat.le_of_ble_eq_true rfl⟩) (j_preV hK hSX hG (ci := 10) rfl ka0 (by decide)) rfl rfl hl.1 rfl (lv_room (Nat.le_of_ble_eq_true rfl)) dX11_transition_15 ⟨by exact Nat.le_of_ble_eq_true rfl, by exact Nat.le_of_ble_eq_true rfl⟩) hG (c2 := 0) (s2 := 0) ⟨by exact Nat.le_of_ble_eq_true rfl, by exact Nat.le_of_ble_eq_true rfl⟩ (fun z23 M24 h H locs hG => ?_)
    rw [hQf]
    exact j_ireti hx hb hr hlocks hG h (by decide) dX11_transition_18

abbrev rm_X11_voidEvent : Room := { frames := 4, cells := 0, slots := 0, locals := 100 }
set_option maxRecDepth 100000 in
set_option maxHeartbeats 4000000 in
theorem A_X11_voidEvent (l : Launch) {D : va_G} {cy : Nat → ClassId} {o : Nat} {sK sV : Nat → Nat} {M : jT} {a0 : Int} {a1 : Int} {a2 : Int} {a3 : Int} (ka0 : kd a0 = 11) {Q : Int → jT → Prop} (h : wp_X11_voidEvent M a0 a1 a2 a3 Q) : CoI l yX11_voidEvent (wj yX11_voidEvent cX11_voidEvent 4 (some .int)) rm_X11_voidEvent D cy o sK sV M [.ref (rA o a0), .int (J a1), .int (J a2), .int (J a3)] Q := by
  refine j_ofW (cc := cX11_voidEvent) (maxL := 4) (ret := (some .int)) (by decide) rfl (Nat.le_of_ble_eq_true rfl) ?_
  intro p e s m args below meth c hx hb hr hlocks hml hown hts hK hSX H locs hG ls hl Qf hQf
  have hown : s.vm.findClass RX11 = some m.cls := hown
  have hl : lv_has ls 4 [(0, .ref (rA o a0)), (1, .int (J a1)), (2, .int (J a2)), (3, .int (J a3))] := hl
  have w_fl_RX11_80 := hts _ (List.mem_cons_of_mem _ fl_RX11_80)
  have w_fl_RX11_184 := hts _ (List.mem_cons_of_mem _ fl_RX11_184)
  have w_fl_RX11_65 := hts _ (List.mem_cons_of_mem _ fl_RX11_65)
  have w_fl_RX11_62 := hts _ (List.mem_cons_of_mem _ fl_RX11_62)
  have w_fl_RX11_59 := hts _ (List.mem_cons_of_mem _ fl_RX11_59)
  unfold wp_X11_voidEvent at h
  refine lv_aload_n hx hb dX11_voidEvent_0 rfl (lv_at hl 0 rfl) ?_
  refine lv_iconst (v := J 0) hx hb dX11_voidEvent_1 (by decide) ?_
  refine j_puti hx hb hts hown hK hG (k := a0) (fun w h => List.mem_cons_of_mem _ (u_X11 w h)) tyX11 tyX11_ok nmX11 (ci := 10) rfl ka0 0 (by decide) (jz := 0) rfl w_fl_RX11_80 (hd := rfl) (hn := rfl) (hfit := rfl) (hdg := dX11_voidEvent_2) (fun M1 eM1 H locs hG => ?_)
  have h := h M1 eM1
  refine lv_aload_n hx hb dX11_voidEvent_5 rfl (lv_at hl 0 rfl) ?_
  refine lv_iload_n hx hb dX11_voidEvent_6 rfl (lv_at hl 1 rfl) ?_
  obtain ⟨g2, h⟩ := h
  refine j_conti (va_runV (As := [.int (J a1)]) (rest := []) ⟨hx, hb, hml, hown, hts⟩ (A_X11_isZone l ka0 g2) (cwV 1 hts (gj_V ml_RX11_126 i_X11_isZone s_X11_isZone n_RX11 k_X11_isZone) rfl rfl rfl (by decide +kernel) ⟨by exact Nat.le_of_ble_eq_true rfl, by exact Nat.le_of_ble_eq_true rfl⟩) (j_preV hK hSX hG (ci := 10) rfl ka0 (by decide)) rfl rfl hl.1 rfl (lv_room (Nat.le_of_ble_eq_true rfl)) dX11_voidEvent_7 ⟨by exact Nat.le_of_ble_eq_true rfl, by exact Nat.le_of_ble_eq_true rfl⟩) hG (c2 := 0) (s2 := 0) ⟨by exact Nat.le_of_ble_eq_true rfl, by exact Nat.le_of_ble_eq_true rfl⟩ (fun z3 M4 ez3 H locs hG => ?_)
  obtain ⟨ez3, eM4⟩ := ez3
  subst ez3
  rw [eM4] at hG
  refine j_if_ne_b (tgt := 19) hx hb dX11_voidEvent_10 (by decide) (fun c5 => ?_) (fun c5 => ?_)
  · have h := h.1 c5
    refine lv_aload_n hx hb dX11_voidEvent_19 rfl (lv_at hl 0 rfl) ?_
    refine lv_iload_n hx hb dX11_voidEvent_20 rfl (lv_at hl 1 rfl) ?_
    refine j_contv (va_runV (As := [.int (J a1)]) (rest := []) ⟨hx, hb, hml, hown, hts⟩ (A_X11_compiles l ka0 h) (cwV 1 hts (gj_V ml_RX11_187 i_X11_compiles s_X11_compiles n_RX11 k_X11_compiles) rfl rfl rfl (by decide +kernel) ⟨by exact Nat.le_of_ble_eq_true rfl, by exact Nat.le_of_ble_eq_true rfl⟩) (j_preV hK hSX hG (ci := 10) rfl ka0 (by decide)) rfl rfl hl.1 rfl (lv_room (Nat.le_of_ble_eq_true rfl)) dX11_voidEvent_21 ⟨by exact Nat.le_of_ble_eq_true rfl, by exact Nat.le_of_ble_eq_true rfl⟩) hG (c2 := 0) (s2 := 0) ⟨by exact Nat.le_of_ble_eq_true rfl, by exact Nat.le_of_ble_eq_true rfl⟩ (fun M7 h H locs hG => ?_)
    refine lv_iload_n hx hb dX11_voidEvent_24 rfl (lv_at hl 2 rfl) ?_
    refine lv_iconst (v := J 0) hx hb dX11_voidEvent_25 (by decide) ?_
    refine lv_aload_n hx hb dX11_voidEvent_26 rfl (lv_at hl 0 rfl) ?_
    refine j_geti hx hb hts hown hK hG (k := a0) (fun w h => List.mem_cons_of_mem _ (u_X11 w h)) (ci := 10) rfl ka0 24 (by decide) (jz := 24) rfl w_fl_RX11_184 dX11_voidEvent_27 ?_
    refine lv_iconst (v := J 1) hx hb dX11_voidEvent_30 (by decide) ?_
    refine j_isub hx hb dX11_voidEvent_31 ?_
    obtain ⟨g8, h⟩ := h
    refine j_conti (va_runS (As := [.int (J a2), .int (J 0), .int (J ((M7 a0 24) - 1))]) (rest := []) ⟨hx, hb, hml, hown, hts⟩ (A_X11_in l g8) (va_cwS 3 hts (gj_S ml_RX11_106 i_X11_in n_RX11 k_X11_in) rfl rfl rfl (by decide +kernel) ⟨by exact Nat.le_of_ble_eq_true rfl, by exact Nat.le_of_ble_eq_true rfl⟩) (j_preS hK hSX hG) rfl rfl hl.1 rfl (lv_room (Nat.le_of_ble_eq_true rfl)) dX11_voidEvent_32 ⟨by exact Nat.le_of_ble_eq_true rfl, by exact Nat.le_of_ble_eq_true rfl⟩) hG (c2 := 0) (s2 := 0) ⟨by exact Nat.le_of_ble_eq_true rfl, by exact Nat.le_of_ble_eq_true rfl⟩ (fun z9 M10 ez9 H locs hG => ?_)
    obtain ⟨ez9, eM10⟩ := ez9
    subst ez9
    rw [eM10] at hG
    refine j_if_ne_b (tgt := 44) hx hb dX11_voidEvent_35 (by decide) (fun c11 => ?_) (fun c11 => ?_)
    · have h := h.1 c11
      refine lv_iload_n hx hb dX11_voidEvent_44 rfl (lv_at hl 3 rfl) ?_
      obtain ⟨K23, hK23, h⟩ := h
      have jK23 : ∀ (x21 : Int) (M22 : jT), K23 x21 M22 → ∀ (H : Heap) (locs : List Loc), GM D cy o M22 s.heap H locs → ∀ ls : Array Slot, lv_has ls 4 [] → W p l e rm_X11_voidEvent s m args below meth c H locs 0 0 Qf (F0 m 90 ls [.int (J x21)]) := by
        intro x21 M22 hcK23 H locs hG ls hl
        have h := hK23 x21 M22 hcK23
        rw [hQf]
        exact j_ireti hx hb hr hlocks hG h (by decide) dX11_voidEvent_90
      obtain ⟨g25, h⟩ := h
      refine j_if_ne (tgt := 57) hx hb dX11_voidEvent_45 (by decide) g25 (fun c24 => ?_) (fun c24 => ?_)
      · have h := h.1 c24
        refine lv_iload_n hx hb dX11_voidEvent_57 rfl (lv_at hl 3 rfl) ?_
        refine lv_iconst (v := J 1) hx hb dX11_voidEvent_58 (by decide) ?_
        refine j_icmp_ne (tgt := 71) hx hb dX11_voidEvent_59 (by decide) g25 (by decide) (fun c26 => ?_) (fun c26 => ?_)
        · have h := h.1 c26
          refine lv_iload_n hx hb dX11_voidEvent_71 rfl (lv_at hl 3 rfl) ?_
          refine lv_iconst (v := J 2) hx hb dX11_voidEvent_72 (by decide) ?_
          refine j_icmp_ne (tgt := 85) hx hb dX11_voidEvent_73 (by decide) g25 (by decide) (fun c27 => ?_) (fun c27 => ?_)
          · have h := h.1 c27
            refine lv_aload_n hx hb dX11_voidEvent_85 rfl (lv_at hl 0 rfl) ?_
            refine lv_iconst (v := J 3) hx hb dX11_voidEvent_86 (by decide) ?_
            refine j_conti (va_runV (As := [.int (J 3)]) (rest := []) ⟨hx, hb, hml, hown, hts⟩ (A_X11_raises l ka0 h) (cwV 1 hts (gj_V ml_RX11_110 i_X11_raises s_X11_raises n_RX11 k_X11_raises) rfl rfl rfl (by decide +kernel) ⟨by exact Nat.le_of_ble_eq_true rfl, by exact Nat.le_of_ble_eq_true rfl⟩) (j_preV hK hSX hG (ci := 10) rfl ka0 (by decide)) rfl rfl hl.1 rfl (lv_room (Nat.le_of_ble_eq_true rfl)) dX11_voidEvent_87 ⟨by exact Nat.le_of_ble_eq_true rfl, by exact Nat.le_of_ble_eq_true rfl⟩) hG (c2 := 0) (s2 := 0) ⟨by exact Nat.le_of_ble_eq_true rfl, by exact Nat.le_of_ble_eq_true rfl⟩ (fun z28 M29 h H locs hG => ?_)
            exact jK23 z28 M29 h H locs hG ls (lv_sub hl [] rfl)
          · have h := h.2 c27
            refine lv_aload_n hx hb dX11_voidEvent_76 rfl (lv_at hl 0 rfl) ?_
            refine j_getr hx hb hts hown hK hG (k := a0) (fun w h => List.mem_cons_of_mem _ (u_X11 w h)) (ci := 10) rfl ka0 27 (k2 := a0 + 17) (by decide) (by show a0 + (17 : Int) = a0 + 17; omega) w_fl_RX11_65 dX11_voidEvent_77 ?_
            refine lv_iload_n hx hb dX11_voidEvent_80 rfl (lv_at hl 2 rfl) ?_
            obtain ⟨g30, h⟩ := h
            refine j_iald hx hb hK hG (n := 261) (kf_11_27 ka0) (by decide) g30 dX11_voidEvent_81 ?_
            refine lv_goto (tgt := 90) hx hb dX11_voidEvent_82 (by decide) ?_
            exact jK23 (M7 (a0 + 17) a2) M7 h H locs hG ls (lv_sub hl [] rfl)
        · have h := h.2 c26
          refine lv_aload_n hx hb dX11_voidEvent_62 rfl (lv_at hl 0 rfl) ?_
          refine j_getr hx hb hts hown hK hG (k := a0) (fun w h => List.mem_cons_of_mem _ (u_X11 w h)) (ci := 10) rfl ka0 26 (k2 := a0 + 16) (by decide) (by show a0 + (16 : Int) = a0 + 16; omega) w_fl_RX11_62 dX11_voidEvent_63 ?_
          refine lv_iload_n hx hb dX11_voidEvent_66 rfl (lv_at hl 2 rfl) ?_
          obtain ⟨g31, h⟩ := h
          refine j_iald hx hb hK hG (n := 261) (kf_11_26 ka0) (by decide) g31 dX11_voidEvent_67 ?_
          refine lv_goto (tgt := 90) hx hb dX11_voidEvent_68 (by decide) ?_
          exact jK23 (M7 (a0 + 16) a2) M7 h H locs hG ls (lv_sub hl [] rfl)
      · have h := h.2 c24
        refine lv_aload_n hx hb dX11_voidEvent_48 rfl (lv_at hl 0 rfl) ?_
        refine j_getr hx hb hts hown hK hG (k := a0) (fun w h => List.mem_cons_of_mem _ (u_X11 w h)) (ci := 10) rfl ka0 25 (k2 := a0 + 15) (by decide) (by show a0 + (15 : Int) = a0 + 15; omega) w_fl_RX11_59 dX11_voidEvent_49 ?_
        refine lv_iload_n hx hb dX11_voidEvent_52 rfl (lv_at hl 2 rfl) ?_
        obtain ⟨g32, h⟩ := h
        refine j_iald hx hb hK hG (n := 261) (kf_11_25 ka0) (by decide) g32 dX11_voidEvent_53 ?_
        refine lv_goto (tgt := 90) hx hb dX11_voidEvent_54 (by decide) ?_
        exact jK23 (M7 (a0 + 15) a2) M7 h H locs hG ls (lv_sub hl [] rfl)
    · have h := h.2 c11
      refine lv_aload_n hx hb dX11_voidEvent_38 rfl (lv_at hl 0 rfl) ?_
      refine lv_iconst (v := J 2) hx hb dX11_voidEvent_39 (by decide) ?_
      refine j_conti (va_runV (As := [.int (J 2)]) (rest := []) ⟨hx, hb, hml, hown, hts⟩ (A_X11_raises l ka0 h) (cwV 1 hts (gj_V ml_RX11_110 i_X11_raises s_X11_raises n_RX11 k_X11_raises) rfl rfl rfl (by decide +kernel) ⟨by exact Nat.le_of_ble_eq_true rfl, by exact Nat.le_of_ble_eq_true rfl⟩) (j_preV hK hSX hG (ci := 10) rfl ka0 (by decide)) rfl rfl hl.1 rfl (lv_room (Nat.le_of_ble_eq_true rfl)) dX11_voidEvent_40 ⟨by exact Nat.le_of_ble_eq_true rfl, by exact Nat.le_of_ble_eq_true rfl⟩) hG (c2 := 0) (s2 := 0) ⟨by exact Nat.le_of_ble_eq_true rfl, by exact Nat.le_of_ble_eq_true rfl⟩ (fun z33 M34 h H locs hG => ?_)
      rw [hQf]
      exact j_ireti hx hb hr hlocks hG h (by decide) dX11_voidEvent_43
  · have h := h.2 c5
    refine lv_aload_n hx hb dX11_voidEvent_13 rfl (lv_at hl 0 rfl) ?_
    refine lv_iconst (v := J 1) hx hb dX11_voidEvent_14 (by decide) ?_
    refine j_conti (va_runV (As := [.int (J 1)]) (rest := []) ⟨hx, hb, hml, hown, hts⟩ (A_X11_raises l ka0 h) (cwV 1 hts (gj_V ml_RX11_110 i_X11_raises s_X11_raises n_RX11 k_X11_raises) rfl rfl rfl (by decide +kernel) ⟨by exact Nat.le_of_ble_eq_true rfl, by exact Nat.le_of_ble_eq_true rfl⟩) (j_preV hK hSX hG (ci := 10) rfl ka0 (by decide)) rfl rfl hl.1 rfl (lv_room (Nat.le_of_ble_eq_true rfl)) dX11_voidEvent_15 ⟨by exact Nat.le_of_ble_eq_true rfl, by exact Nat.le_of_ble_eq_true rfl⟩) hG (c2 := 0) (s2 := 0) ⟨by exact Nat.le_of_ble_eq_true rfl, by exact Nat.le_of_ble_eq_true rfl⟩ (fun z35 M36 h H locs hG => ?_)
    rw [hQf]
    exact j_ireti hx hb hr hlocks hG h (by decide) dX11_voidEvent_18

abbrev rm_X11_isInstant : Room := { frames := 1, cells := 0, slots := 0, locals := 22 }
set_option maxRecDepth 100000 in
set_option maxHeartbeats 4000000 in
theorem A_X11_isInstant (l : Launch) {D : va_G} {cy : Nat → ClassId} {o : Nat} {sK sV : Nat → Nat} {M : jT} {a0 : Int} (h : pg_X11_isInstant a0) : CoI l yX11_isInstant (wj yX11_isInstant cX11_isInstant 1 (some .boolean)) rm_X11_isInstant D cy o sK sV M [.int (J a0)] (fun z M9 => z = b2i (pb_X11_isInstant a0) ∧ M9 = M) := by
  refine j_ofW (cc := cX11_isInstant) (maxL := 1) (ret := (some .boolean)) (by decide) rfl (Nat.le_of_ble_eq_true rfl) ?_
  intro p e s m args below meth c hx hb hr hlocks hml hown hts hK hSX H locs hG ls hl Qf hQf
  have hown : s.vm.findClass RX11 = some m.cls := hown
  have hl : lv_has ls 1 [(0, .int (J a0))] := hl
  have w_ck_RX11_202 := hts _ (List.mem_cons_of_mem _ ck_RX11_202)
  unfold pg_X11_isInstant at h
  refine lv_iload_n hx hb dX11_isInstant_0 rfl (lv_at hl 0 rfl) ?_
  refine lv_sipush (v := J (-2000)) hx hb dX11_isInstant_1 (by decide) ?_
  refine lv_ldc (v := J 16832719) hx hb hown (show (Cond.constant RX11 202 (J 16832719)).before args s = true from w_ck_RX11_202) dX11_isInstant_4 ?_
  obtain ⟨g1, h⟩ := h
  refine j_conti (va_runS (As := [.int (J a0), .int (J ((-2000))), .int (J 16832719)]) (rest := []) ⟨hx, hb, hml, hown, hts⟩ (A_X11_in l g1) (va_cwS 3 hts (gj_S ml_RX11_106 i_X11_in n_RX11 k_X11_in) rfl rfl rfl (by decide +kernel) ⟨by exact Nat.le_of_ble_eq_true rfl, by exact Nat.le_of_ble_eq_true rfl⟩) (j_preS hK hSX hG) rfl rfl hl.1 rfl (lv_room (Nat.le_of_ble_eq_true rfl)) dX11_isInstant_6 ⟨by exact Nat.le_of_ble_eq_true rfl, by exact Nat.le_of_ble_eq_true rfl⟩) hG (c2 := 0) (s2 := 0) ⟨by exact Nat.le_of_ble_eq_true rfl, by exact Nat.le_of_ble_eq_true rfl⟩ (fun z2 M3 ez2 H locs hG => ?_)
  obtain ⟨ez2, eM3⟩ := ez2
  subst ez2
  rw [eM3] at hG
  rw [hQf]
  exact j_iretn hx hb hr hlocks (nar_b (b2i_rng _)) hG ⟨(b2i_iff Iff.rfl), rfl⟩ (by decide) dX11_isInstant_9
