noncomputable section
abbrev rm_L_day : Room := { frames := 8, cells := 1, slots := 6, locals := 133 }
theorem A_L_day (l : Launch) (hst : l.stackTraces = false) {D : va_G} {cy : Nat → ClassId} {o : Nat} {sK sV : Nat → Nat} {M : jT} {z : Int} {a0 a1 a2 : Int} {QA : Int → jT → Prop} {XA : Nat → jT → Prop} {Q : Int → Int → jT → Prop} (h : wp_X10_day M 0 a0 a1 a2 QA XA) (hA : ∀ v M1, QA v M1 → Q 0 (nzv v) M1) (hX : ∀ e M1, XA e M1 → (e = 2 ∧ Q 1 z M1)) : CoL l yL_day (wjW yL_day cL_day 6 (some .int) [(0, 12, 15, 13)]) rm_L_day D cy o sK sV M z [.ref (rA o 0), .int (J a0), .int (J a1), .int (J a2), .ref (o + 630)] Q := by
  refine l_ofW (cc := cL_day) (maxL := 6) (ret := (some .int)) (hh := [(0, 12, 15, 13)]) (by decide) rfl (Nat.le_of_ble_eq_true rfl) ?_
  intro p e s m args below meth c hx hb hr hlocks htab hml hown hts hK hSX hN hO H locs hG ls hl Qf hQf
  have hown : s.vm.findClass RL = some m.cls := hown
  have hl : lv_has ls 6 [(0, .ref (rA o 0)), (1, .int (J a0)), (2, .int (J a1)), (3, .int (J a2)), (4, .ref (o + 630))] := hl
  have ka0 : kd 0 = 10 := rfl
  refine lv_aload hx hb dL_day_0 (lv_at hl 4 rfl) ?_
  refine lv_iconst (v := J 0) hx hb dL_day_2 (by decide) ?_
  refine lv_aload_n hx hb dL_day_3 rfl (lv_at hl 0 rfl) ?_
  refine lv_iload_n hx hb dL_day_4 rfl (lv_at hl 1 rfl) ?_
  refine lv_iload_n hx hb dL_day_5 rfl (lv_at hl 2 rfl) ?_
  refine lv_iload_n hx hb dL_day_6 rfl (lv_at hl 3 rfl) ?_
  refine j_contxi (vx_runV (As := [.int (J a0), .int (J a1), .int (J a2)]) (rest := [.int (J 0), .ref (o + 630)]) ⟨hx, hb, hml, hown, hts⟩ (A_X10_day l hst ka0 h) (cwV 3 hts (gw_V ml_RL_7 i_X10_day s_X10_day n_RX10 k_X10_day) rfl rfl rfl (by decide +kernel) ⟨by exact Nat.le_of_ble_eq_true rfl, by exact Nat.le_of_ble_eq_true rfl⟩) (j_preV hK hSX hG (ci := 9) rfl ka0 (by decide)) rfl rfl hl.1 rfl (lv_room (Nat.le_of_ble_eq_true rfl)) dL_day_7 ⟨by exact Nat.le_of_ble_eq_true rfl, by exact Nat.le_of_ble_eq_true rfl⟩) hG (c2 := 1) (s2 := 6) ⟨by exact Nat.le_of_ble_eq_true rfl, by exact Nat.le_of_ble_eq_true rfl⟩ (fun x M h ce q H locs hG h1 h2 h3 => ?_) (fun v M h H locs hG => ?_)
  · rcases hX x M h with ⟨rfl, hq⟩
    · refine vx_catch (own := RL) (name := "java/lang/IllegalArgumentException") (E := "java/lang/IllegalArgumentException") hown [] ⟨0, 12, 15, 13⟩ [] htab (fun z hz => absurd hz List.not_mem_nil) (by decide) (by decide) (hts _ (List.mem_cons_of_mem _ xl_RL_13)) (cast_at hSX 1 rfl) h1 h2 h3 ?_
      refine lv_astore (lv' := [(5, .ref q), (0, .ref (rA o 0)), (1, .int (J a0)), (2, .int (J a1)), (3, .int (J a2)), (4, .ref (o + 630))]) hx hb dL_day_15 hl (by decide) rfl (fun ls hl => ?_)
      refine lv_iconst (v := J 1) hx hb dL_day_17 (by decide) ?_
      rw [hQf]
      exact l_ret hx hb hr hlocks (hG.gw hO) hq ⟨by exact Nat.le_of_ble_eq_true rfl, by exact Nat.le_of_ble_eq_true rfl⟩ dL_day_18
  · rw [hQf]
    exact l_fin (tgt := 19) hx hb hr hlocks hK (hG.gw hO) (hA v M h) ⟨by exact Nat.le_of_ble_eq_true rfl, by exact Nat.le_of_ble_eq_true rfl⟩ dL_day_10 dL_day_11 dL_day_12 (by decide) dL_day_19 dL_day_20
abbrev rm_L_date : Room := { frames := 8, cells := 1, slots := 6, locals := 135 }
theorem A_L_date (l : Launch) (hst : l.stackTraces = false) {D : va_G} {cy : Nat → ClassId} {o : Nat} {sK sV : Nat → Nat} {M : jT} {z : Int} {a0 a1 : Int} {QA : Int → jT → Prop} {XA : Nat → jT → Prop} {Q : Int → Int → jT → Prop} (h : wp_X10_date M 0 a0 a1 QA XA) (hA : ∀ v M1, QA v M1 → Q 0 (nzv v) M1) (hX : ∀ e M1, XA e M1 → (e = 1 ∧ Q 1 z M1) ∨ (e = 2 ∧ Q 2 z M1)) : CoL l yL_date (wjW yL_date cL_date 5 (some .int) [(0, 10, 13, 19), (0, 10, 17, 13)]) rm_L_date D cy o sK sV M z [.ref (rA o 0), .int (J a0), .int (J a1), .ref (o + 630)] Q := by
  refine l_ofW (cc := cL_date) (maxL := 5) (ret := (some .int)) (hh := [(0, 10, 13, 19), (0, 10, 17, 13)]) (by decide) rfl (Nat.le_of_ble_eq_true rfl) ?_
  intro p e s m args below meth c hx hb hr hlocks htab hml hown hts hK hSX hN hO H locs hG ls hl Qf hQf
  have hown : s.vm.findClass RL = some m.cls := hown
  have hl : lv_has ls 5 [(0, .ref (rA o 0)), (1, .int (J a0)), (2, .int (J a1)), (3, .ref (o + 630))] := hl
  have ka0 : kd 0 = 10 := rfl
  refine lv_aload_n hx hb dL_date_0 rfl (lv_at hl 3 rfl) ?_
  refine lv_iconst (v := J 0) hx hb dL_date_1 (by decide) ?_
  refine lv_aload_n hx hb dL_date_2 rfl (lv_at hl 0 rfl) ?_
  refine lv_iload_n hx hb dL_date_3 rfl (lv_at hl 1 rfl) ?_
  refine lv_iload_n hx hb dL_date_4 rfl (lv_at hl 2 rfl) ?_
  refine j_contxi (vx_runV (As := [.int (J a0), .int (J a1)]) (rest := [.int (J 0), .ref (o + 630)]) ⟨hx, hb, hml, hown, hts⟩ (A_X10_date l hst ka0 h) (cwV 2 hts (gw_V ml_RL_15 i_X10_date s_X10_date n_RX10 k_X10_date) rfl rfl rfl (by decide +kernel) ⟨by exact Nat.le_of_ble_eq_true rfl, by exact Nat.le_of_ble_eq_true rfl⟩) (j_preV hK hSX hG (ci := 9) rfl ka0 (by decide)) rfl rfl hl.1 rfl (lv_room (Nat.le_of_ble_eq_true rfl)) dL_date_5 ⟨by exact Nat.le_of_ble_eq_true rfl, by exact Nat.le_of_ble_eq_true rfl⟩) hG (c2 := 1) (s2 := 6) ⟨by exact Nat.le_of_ble_eq_true rfl, by exact Nat.le_of_ble_eq_true rfl⟩ (fun x M h ce q H locs hG h1 h2 h3 => ?_) (fun v M h H locs hG => ?_)
  · rcases hX x M h with ⟨rfl, hq⟩ | ⟨rfl, hq⟩
    · refine vx_catch (own := RL) (name := "java/lang/IndexOutOfBoundsException") (E := "java/lang/IndexOutOfBoundsException") hown [] ⟨0, 10, 13, 19⟩ [⟨0, 10, 17, 13⟩] htab (fun z hz => absurd hz List.not_mem_nil) (by decide) (by decide) (hts _ (List.mem_cons_of_mem _ xl_RL_19)) (cast_at hSX 0 rfl) h1 h2 h3 ?_
      refine lv_astore (lv' := [(4, .ref q), (0, .ref (rA o 0)), (1, .int (J a0)), (2, .int (J a1)), (3, .ref (o + 630))]) hx hb dL_date_13 hl (by decide) rfl (fun ls hl => ?_)
      refine lv_iconst (v := J 1) hx hb dL_date_15 (by decide) ?_
      rw [hQf]
      exact l_ret hx hb hr hlocks (hG.gw hO) hq ⟨by exact Nat.le_of_ble_eq_true rfl, by exact Nat.le_of_ble_eq_true rfl⟩ dL_date_16
    · refine vx_catch (own := RL) (name := "java/lang/IllegalArgumentException") (E := "java/lang/IllegalArgumentException") hown [⟨0, 10, 13, 19⟩] ⟨0, 10, 17, 13⟩ [] htab (fun z hz => by
        rcases List.mem_cons.mp hz with rfl | hz
        · exact Or.inr ⟨by decide, _, hts _ (List.mem_cons_of_mem _ xl_RL_19), nc_at hN 0 rfl⟩
        exact absurd hz List.not_mem_nil) (by decide) (by decide) (hts _ (List.mem_cons_of_mem _ xl_RL_13)) (cast_at hSX 1 rfl) h1 h2 h3 ?_
      refine lv_astore (lv' := [(4, .ref q), (0, .ref (rA o 0)), (1, .int (J a0)), (2, .int (J a1)), (3, .ref (o + 630))]) hx hb dL_date_17 hl (by decide) rfl (fun ls hl => ?_)
      refine lv_iconst (v := J 2) hx hb dL_date_19 (by decide) ?_
      rw [hQf]
      exact l_ret hx hb hr hlocks (hG.gw hO) hq ⟨by exact Nat.le_of_ble_eq_true rfl, by exact Nat.le_of_ble_eq_true rfl⟩ dL_date_20
  · rw [hQf]
    exact l_fin (tgt := 21) hx hb hr hlocks hK (hG.gw hO) (hA v M h) ⟨by exact Nat.le_of_ble_eq_true rfl, by exact Nat.le_of_ble_eq_true rfl⟩ dL_date_8 dL_date_9 dL_date_10 (by decide) dL_date_21 dL_date_22
abbrev rm_L_addZone : Room := { frames := 9, cells := 1, slots := 6, locals := 165 }
theorem A_L_addZone (l : Launch) (hst : l.stackTraces = false) {D : va_G} {cy : Nat → ClassId} {o : Nat} {sK sV : Nat → Nat} {M : jT} {z : Int} {a0 : Int} {QA : Int → jT → Prop} {XA : Nat → jT → Prop} {Q : Int → Int → jT → Prop} (h : wp_X10_addZone M 0 a0 QA XA) (hA : ∀ v M1, QA v M1 → Q 0 (nzv v) M1) (hX : ∀ e M1, XA e M1 → (e = 2 ∧ Q 1 z M1) ∨ (e = 3 ∧ Q 2 z M1)) : CoL l yL_addZone (wjW yL_addZone cL_addZone 4 (some .int) [(0, 9, 12, 13), (0, 9, 15, 25)]) rm_L_addZone D cy o sK sV M z [.ref (rA o 0), .int (J a0), .ref (o + 630)] Q := by
  refine l_ofW (cc := cL_addZone) (maxL := 4) (ret := (some .int)) (hh := [(0, 9, 12, 13), (0, 9, 15, 25)]) (by decide) rfl (Nat.le_of_ble_eq_true rfl) ?_
  intro p e s m args below meth c hx hb hr hlocks htab hml hown hts hK hSX hN hO H locs hG ls hl Qf hQf
  have hown : s.vm.findClass RL = some m.cls := hown
  have hl : lv_has ls 4 [(0, .ref (rA o 0)), (1, .int (J a0)), (2, .ref (o + 630))] := hl
  have ka0 : kd 0 = 10 := rfl
  refine lv_aload_n hx hb dL_addZone_0 rfl (lv_at hl 2 rfl) ?_
  refine lv_iconst (v := J 0) hx hb dL_addZone_1 (by decide) ?_
  refine lv_aload_n hx hb dL_addZone_2 rfl (lv_at hl 0 rfl) ?_
  refine lv_iload_n hx hb dL_addZone_3 rfl (lv_at hl 1 rfl) ?_
  refine j_contxi (vx_runV (As := [.int (J a0)]) (rest := [.int (J 0), .ref (o + 630)]) ⟨hx, hb, hml, hown, hts⟩ (A_X10_addZone l hst ka0 h) (cwV 1 hts (gw_V ml_RL_21 i_X10_addZone s_X10_addZone n_RX10 k_X10_addZone) rfl rfl rfl (by decide +kernel) ⟨by exact Nat.le_of_ble_eq_true rfl, by exact Nat.le_of_ble_eq_true rfl⟩) (j_preV hK hSX hG (ci := 9) rfl ka0 (by decide)) rfl rfl hl.1 rfl (lv_room (Nat.le_of_ble_eq_true rfl)) dL_addZone_4 ⟨by exact Nat.le_of_ble_eq_true rfl, by exact Nat.le_of_ble_eq_true rfl⟩) hG (c2 := 1) (s2 := 6) ⟨by exact Nat.le_of_ble_eq_true rfl, by exact Nat.le_of_ble_eq_true rfl⟩ (fun x M h ce q H locs hG h1 h2 h3 => ?_) (fun v M h H locs hG => ?_)
  · rcases hX x M h with ⟨rfl, hq⟩ | ⟨rfl, hq⟩
    · refine vx_catch (own := RL) (name := "java/lang/IllegalArgumentException") (E := "java/lang/IllegalArgumentException") hown [] ⟨0, 9, 12, 13⟩ [⟨0, 9, 15, 25⟩] htab (fun z hz => absurd hz List.not_mem_nil) (by decide) (by decide) (hts _ (List.mem_cons_of_mem _ xl_RL_13)) (cast_at hSX 1 rfl) h1 h2 h3 ?_
      refine lv_astore_n (lv' := [(3, .ref q), (0, .ref (rA o 0)), (1, .int (J a0)), (2, .ref (o + 630))]) hx hb dL_addZone_12 rfl hl (by decide) rfl (fun ls hl => ?_)
      refine lv_iconst (v := J 1) hx hb dL_addZone_13 (by decide) ?_
      rw [hQf]
      exact l_ret hx hb hr hlocks (hG.gw hO) hq ⟨by exact Nat.le_of_ble_eq_true rfl, by exact Nat.le_of_ble_eq_true rfl⟩ dL_addZone_14
    · refine vx_catch (own := RL) (name := "java/lang/IllegalStateException") (E := "java/lang/IllegalStateException") hown [⟨0, 9, 12, 13⟩] ⟨0, 9, 15, 25⟩ [] htab (fun z hz => by
        rcases List.mem_cons.mp hz with rfl | hz
        · exact Or.inr ⟨by decide, _, hts _ (List.mem_cons_of_mem _ xl_RL_13), nc_at hN 2 rfl⟩
        exact absurd hz List.not_mem_nil) (by decide) (by decide) (hts _ (List.mem_cons_of_mem _ xl_RL_25)) (cast_at hSX 2 rfl) h1 h2 h3 ?_
      refine lv_astore_n (lv' := [(3, .ref q), (0, .ref (rA o 0)), (1, .int (J a0)), (2, .ref (o + 630))]) hx hb dL_addZone_15 rfl hl (by decide) rfl (fun ls hl => ?_)
      refine lv_iconst (v := J 2) hx hb dL_addZone_16 (by decide) ?_
      rw [hQf]
      exact l_ret hx hb hr hlocks (hG.gw hO) hq ⟨by exact Nat.le_of_ble_eq_true rfl, by exact Nat.le_of_ble_eq_true rfl⟩ dL_addZone_17
  · rw [hQf]
    exact l_fin (tgt := 18) hx hb hr hlocks hK (hG.gw hO) (hA v M h) ⟨by exact Nat.le_of_ble_eq_true rfl, by exact Nat.le_of_ble_eq_true rfl⟩ dL_addZone_7 dL_addZone_8 dL_addZone_9 (by decide) dL_addZone_18 dL_addZone_19
abbrev rm_L_changeBase : Room := { frames := 9, cells := 1, slots := 6, locals := 167 }
theorem A_L_changeBase (l : Launch) (hst : l.stackTraces = false) {D : va_G} {cy : Nat → ClassId} {o : Nat} {sK sV : Nat → Nat} {M : jT} {z : Int} {a0 a1 a2 : Int} {QA : Int → jT → Prop} {XA : Nat → jT → Prop} {Q : Int → Int → jT → Prop} (h : wp_X10_changeBase M 0 a0 a1 a2 QA XA) (hA : ∀ v M1, QA v M1 → Q 0 (nzv v) M1) (hX : ∀ e M1, XA e M1 → (e = 1 ∧ Q 1 z M1) ∨ (e = 2 ∧ Q 2 z M1) ∨ (e = 3 ∧ Q 3 z M1)) : CoL l yL_changeBase (wjW yL_changeBase cL_changeBase 6 (some .int) [(0, 12, 15, 19), (0, 12, 19, 13), (0, 12, 23, 25)]) rm_L_changeBase D cy o sK sV M z [.ref (rA o 0), .int (J a0), .int (J a1), .int (J a2), .ref (o + 630)] Q := by
  refine l_ofW (cc := cL_changeBase) (maxL := 6) (ret := (some .int)) (hh := [(0, 12, 15, 19), (0, 12, 19, 13), (0, 12, 23, 25)]) (by decide) rfl (Nat.le_of_ble_eq_true rfl) ?_
  intro p e s m args below meth c hx hb hr hlocks htab hml hown hts hK hSX hN hO H locs hG ls hl Qf hQf
  have hown : s.vm.findClass RL = some m.cls := hown
  have hl : lv_has ls 6 [(0, .ref (rA o 0)), (1, .int (J a0)), (2, .int (J a1)), (3, .int (J a2)), (4, .ref (o + 630))] := hl
  have ka0 : kd 0 = 10 := rfl
  refine lv_aload hx hb dL_changeBase_0 (lv_at hl 4 rfl) ?_
  refine lv_iconst (v := J 0) hx hb dL_changeBase_2 (by decide) ?_
  refine lv_aload_n hx hb dL_changeBase_3 rfl (lv_at hl 0 rfl) ?_
  refine lv_iload_n hx hb dL_changeBase_4 rfl (lv_at hl 1 rfl) ?_
  refine lv_iload_n hx hb dL_changeBase_5 rfl (lv_at hl 2 rfl) ?_
  refine lv_iload_n hx hb dL_changeBase_6 rfl (lv_at hl 3 rfl) ?_
  refine j_contxi (vx_runV (As := [.int (J a0), .int (J a1), .int (J a2)]) (rest := [.int (J 0), .ref (o + 630)]) ⟨hx, hb, hml, hown, hts⟩ (A_X10_changeBase l hst ka0 h) (cwV 3 hts (gw_V ml_RL_27 i_X10_changeBase s_X10_changeBase n_RX10 k_X10_changeBase) rfl rfl rfl (by decide +kernel) ⟨by exact Nat.le_of_ble_eq_true rfl, by exact Nat.le_of_ble_eq_true rfl⟩) (j_preV hK hSX hG (ci := 9) rfl ka0 (by decide)) rfl rfl hl.1 rfl (lv_room (Nat.le_of_ble_eq_true rfl)) dL_changeBase_7 ⟨by exact Nat.le_of_ble_eq_true rfl, by exact Nat.le_of_ble_eq_true rfl⟩) hG (c2 := 1) (s2 := 6) ⟨by exact Nat.le_of_ble_eq_true rfl, by exact Nat.le_of_ble_eq_true rfl⟩ (fun x M h ce q H locs hG h1 h2 h3 => ?_) (fun v M h H locs hG => ?_)
  · rcases hX x M h with ⟨rfl, hq⟩ | ⟨rfl, hq⟩ | ⟨rfl, hq⟩
    · refine vx_catch (own := RL) (name := "java/lang/IndexOutOfBoundsException") (E := "java/lang/IndexOutOfBoundsException") hown [] ⟨0, 12, 15, 19⟩ [⟨0, 12, 19, 13⟩, ⟨0, 12, 23, 25⟩] htab (fun z hz => absurd hz List.not_mem_nil) (by decide) (by decide) (hts _ (List.mem_cons_of_mem _ xl_RL_19)) (cast_at hSX 0 rfl) h1 h2 h3 ?_
      refine lv_astore (lv' := [(5, .ref q), (0, .ref (rA o 0)), (1, .int (J a0)), (2, .int (J a1)), (3, .int (J a2)), (4, .ref (o + 630))]) hx hb dL_changeBase_15 hl (by decide) rfl (fun ls hl => ?_)
      refine lv_iconst (v := J 1) hx hb dL_changeBase_17 (by decide) ?_
      rw [hQf]
      exact l_ret hx hb hr hlocks (hG.gw hO) hq ⟨by exact Nat.le_of_ble_eq_true rfl, by exact Nat.le_of_ble_eq_true rfl⟩ dL_changeBase_18
    · refine vx_catch (own := RL) (name := "java/lang/IllegalArgumentException") (E := "java/lang/IllegalArgumentException") hown [⟨0, 12, 15, 19⟩] ⟨0, 12, 19, 13⟩ [⟨0, 12, 23, 25⟩] htab (fun z hz => by
        rcases List.mem_cons.mp hz with rfl | hz
        · exact Or.inr ⟨by decide, _, hts _ (List.mem_cons_of_mem _ xl_RL_19), nc_at hN 0 rfl⟩
        exact absurd hz List.not_mem_nil) (by decide) (by decide) (hts _ (List.mem_cons_of_mem _ xl_RL_13)) (cast_at hSX 1 rfl) h1 h2 h3 ?_
      refine lv_astore (lv' := [(5, .ref q), (0, .ref (rA o 0)), (1, .int (J a0)), (2, .int (J a1)), (3, .int (J a2)), (4, .ref (o + 630))]) hx hb dL_changeBase_19 hl (by decide) rfl (fun ls hl => ?_)
      refine lv_iconst (v := J 2) hx hb dL_changeBase_21 (by decide) ?_
      rw [hQf]
      exact l_ret hx hb hr hlocks (hG.gw hO) hq ⟨by exact Nat.le_of_ble_eq_true rfl, by exact Nat.le_of_ble_eq_true rfl⟩ dL_changeBase_22
    · refine vx_catch (own := RL) (name := "java/lang/IllegalStateException") (E := "java/lang/IllegalStateException") hown [⟨0, 12, 15, 19⟩, ⟨0, 12, 19, 13⟩] ⟨0, 12, 23, 25⟩ [] htab (fun z hz => by
        rcases List.mem_cons.mp hz with rfl | hz
        · exact Or.inr ⟨by decide, _, hts _ (List.mem_cons_of_mem _ xl_RL_19), nc_at hN 1 rfl⟩
        rcases List.mem_cons.mp hz with rfl | hz
        · exact Or.inr ⟨by decide, _, hts _ (List.mem_cons_of_mem _ xl_RL_13), nc_at hN 2 rfl⟩
        exact absurd hz List.not_mem_nil) (by decide) (by decide) (hts _ (List.mem_cons_of_mem _ xl_RL_25)) (cast_at hSX 2 rfl) h1 h2 h3 ?_
      refine lv_astore (lv' := [(5, .ref q), (0, .ref (rA o 0)), (1, .int (J a0)), (2, .int (J a1)), (3, .int (J a2)), (4, .ref (o + 630))]) hx hb dL_changeBase_23 hl (by decide) rfl (fun ls hl => ?_)
      refine lv_iconst (v := J 3) hx hb dL_changeBase_25 (by decide) ?_
      rw [hQf]
      exact l_ret hx hb hr hlocks (hG.gw hO) hq ⟨by exact Nat.le_of_ble_eq_true rfl, by exact Nat.le_of_ble_eq_true rfl⟩ dL_changeBase_26
  · rw [hQf]
    exact l_fin (tgt := 27) hx hb hr hlocks hK (hG.gw hO) (hA v M h) ⟨by exact Nat.le_of_ble_eq_true rfl, by exact Nat.le_of_ble_eq_true rfl⟩ dL_changeBase_10 dL_changeBase_11 dL_changeBase_12 (by decide) dL_changeBase_27 dL_changeBase_28
abbrev rm_L_addRule : Room := { frames := 9, cells := 1, slots := 6, locals := 170 }
theorem A_L_addRule (l : Launch) (hst : l.stackTraces = false) {D : va_G} {cy : Nat → ClassId} {o : Nat} {sK sV : Nat → Nat} {M : jT} {z : Int} {a0 a1 a2 a3 a4 a5 : Int} {QA : Int → jT → Prop} {XA : Nat → jT → Prop} {Q : Int → Int → jT → Prop} (h : wp_X10_addRule M 0 a0 a1 a2 a3 a4 a5 QA XA) (hA : ∀ v M1, QA v M1 → Q 0 (nzv v) M1) (hX : ∀ e M1, XA e M1 → (e = 1 ∧ Q 1 z M1) ∨ (e = 2 ∧ Q 2 z M1) ∨ (e = 3 ∧ Q 3 z M1)) : CoL l yL_addRule (wjW yL_addRule cL_addRule 9 (some .int) [(0, 18, 21, 19), (0, 18, 25, 13), (0, 18, 29, 25)]) rm_L_addRule D cy o sK sV M z [.ref (rA o 0), .int (J a0), .int (J a1), .int (J a2), .int (J a3), .int (J a4), .int (J a5), .ref (o + 630)] Q := by
  refine l_ofW (cc := cL_addRule) (maxL := 9) (ret := (some .int)) (hh := [(0, 18, 21, 19), (0, 18, 25, 13), (0, 18, 29, 25)]) (by decide) rfl (Nat.le_of_ble_eq_true rfl) ?_
  intro p e s m args below meth c hx hb hr hlocks htab hml hown hts hK hSX hN hO H locs hG ls hl Qf hQf
  have hown : s.vm.findClass RL = some m.cls := hown
  have hl : lv_has ls 9 [(0, .ref (rA o 0)), (1, .int (J a0)), (2, .int (J a1)), (3, .int (J a2)), (4, .int (J a3)), (5, .int (J a4)), (6, .int (J a5)), (7, .ref (o + 630))] := hl
  have ka0 : kd 0 = 10 := rfl
  refine lv_aload hx hb dL_addRule_0 (lv_at hl 7 rfl) ?_
  refine lv_iconst (v := J 0) hx hb dL_addRule_2 (by decide) ?_
  refine lv_aload_n hx hb dL_addRule_3 rfl (lv_at hl 0 rfl) ?_
  refine lv_iload_n hx hb dL_addRule_4 rfl (lv_at hl 1 rfl) ?_
  refine lv_iload_n hx hb dL_addRule_5 rfl (lv_at hl 2 rfl) ?_
  refine lv_iload_n hx hb dL_addRule_6 rfl (lv_at hl 3 rfl) ?_
  refine lv_iload hx hb dL_addRule_7 (lv_at hl 4 rfl) ?_
  refine lv_iload hx hb dL_addRule_9 (lv_at hl 5 rfl) ?_
  refine lv_iload hx hb dL_addRule_11 (lv_at hl 6 rfl) ?_
  refine j_contxi (vx_runV (As := [.int (J a0), .int (J a1), .int (J a2), .int (J a3), .int (J a4), .int (J a5)]) (rest := [.int (J 0), .ref (o + 630)]) ⟨hx, hb, hml, hown, hts⟩ (A_X10_addRule l hst ka0 h) (cwV 6 hts (gw_V ml_RL_30 i_X10_addRule s_X10_addRule n_RX10 k_X10_addRule) rfl rfl rfl (by decide +kernel) ⟨by exact Nat.le_of_ble_eq_true rfl, by exact Nat.le_of_ble_eq_true rfl⟩) (j_preV hK hSX hG (ci := 9) rfl ka0 (by decide)) rfl rfl hl.1 rfl (lv_room (Nat.le_of_ble_eq_true rfl)) dL_addRule_13 ⟨by exact Nat.le_of_ble_eq_true rfl, by exact Nat.le_of_ble_eq_true rfl⟩) hG (c2 := 1) (s2 := 6) ⟨by exact Nat.le_of_ble_eq_true rfl, by exact Nat.le_of_ble_eq_true rfl⟩ (fun x M h ce q H locs hG h1 h2 h3 => ?_) (fun v M h H locs hG => ?_)
  · rcases hX x M h with ⟨rfl, hq⟩ | ⟨rfl, hq⟩ | ⟨rfl, hq⟩
    · refine vx_catch (own := RL) (name := "java/lang/IndexOutOfBoundsException") (E := "java/lang/IndexOutOfBoundsException") hown [] ⟨0, 18, 21, 19⟩ [⟨0, 18, 25, 13⟩, ⟨0, 18, 29, 25⟩] htab (fun z hz => absurd hz List.not_mem_nil) (by decide) (by decide) (hts _ (List.mem_cons_of_mem _ xl_RL_19)) (cast_at hSX 0 rfl) h1 h2 h3 ?_
      refine lv_astore (lv' := [(8, .ref q), (0, .ref (rA o 0)), (1, .int (J a0)), (2, .int (J a1)), (3, .int (J a2)), (4, .int (J a3)), (5, .int (J a4)), (6, .int (J a5)), (7, .ref (o + 630))]) hx hb dL_addRule_21 hl (by decide) rfl (fun ls hl => ?_)
      refine lv_iconst (v := J 1) hx hb dL_addRule_23 (by decide) ?_
      rw [hQf]
      exact l_ret hx hb hr hlocks (hG.gw hO) hq ⟨by exact Nat.le_of_ble_eq_true rfl, by exact Nat.le_of_ble_eq_true rfl⟩ dL_addRule_24
    · refine vx_catch (own := RL) (name := "java/lang/IllegalArgumentException") (E := "java/lang/IllegalArgumentException") hown [⟨0, 18, 21, 19⟩] ⟨0, 18, 25, 13⟩ [⟨0, 18, 29, 25⟩] htab (fun z hz => by
        rcases List.mem_cons.mp hz with rfl | hz
        · exact Or.inr ⟨by decide, _, hts _ (List.mem_cons_of_mem _ xl_RL_19), nc_at hN 0 rfl⟩
        exact absurd hz List.not_mem_nil) (by decide) (by decide) (hts _ (List.mem_cons_of_mem _ xl_RL_13)) (cast_at hSX 1 rfl) h1 h2 h3 ?_
      refine lv_astore (lv' := [(8, .ref q), (0, .ref (rA o 0)), (1, .int (J a0)), (2, .int (J a1)), (3, .int (J a2)), (4, .int (J a3)), (5, .int (J a4)), (6, .int (J a5)), (7, .ref (o + 630))]) hx hb dL_addRule_25 hl (by decide) rfl (fun ls hl => ?_)
      refine lv_iconst (v := J 2) hx hb dL_addRule_27 (by decide) ?_
      rw [hQf]
      exact l_ret hx hb hr hlocks (hG.gw hO) hq ⟨by exact Nat.le_of_ble_eq_true rfl, by exact Nat.le_of_ble_eq_true rfl⟩ dL_addRule_28
    · refine vx_catch (own := RL) (name := "java/lang/IllegalStateException") (E := "java/lang/IllegalStateException") hown [⟨0, 18, 21, 19⟩, ⟨0, 18, 25, 13⟩] ⟨0, 18, 29, 25⟩ [] htab (fun z hz => by
        rcases List.mem_cons.mp hz with rfl | hz
        · exact Or.inr ⟨by decide, _, hts _ (List.mem_cons_of_mem _ xl_RL_19), nc_at hN 1 rfl⟩
        rcases List.mem_cons.mp hz with rfl | hz
        · exact Or.inr ⟨by decide, _, hts _ (List.mem_cons_of_mem _ xl_RL_13), nc_at hN 2 rfl⟩
        exact absurd hz List.not_mem_nil) (by decide) (by decide) (hts _ (List.mem_cons_of_mem _ xl_RL_25)) (cast_at hSX 2 rfl) h1 h2 h3 ?_
      refine lv_astore (lv' := [(8, .ref q), (0, .ref (rA o 0)), (1, .int (J a0)), (2, .int (J a1)), (3, .int (J a2)), (4, .int (J a3)), (5, .int (J a4)), (6, .int (J a5)), (7, .ref (o + 630))]) hx hb dL_addRule_29 hl (by decide) rfl (fun ls hl => ?_)
      refine lv_iconst (v := J 3) hx hb dL_addRule_31 (by decide) ?_
      rw [hQf]
      exact l_ret hx hb hr hlocks (hG.gw hO) hq ⟨by exact Nat.le_of_ble_eq_true rfl, by exact Nat.le_of_ble_eq_true rfl⟩ dL_addRule_32
  · rw [hQf]
    exact l_fin (tgt := 33) hx hb hr hlocks hK (hG.gw hO) (hA v M h) ⟨by exact Nat.le_of_ble_eq_true rfl, by exact Nat.le_of_ble_eq_true rfl⟩ dL_addRule_16 dL_addRule_17 dL_addRule_18 (by decide) dL_addRule_33 dL_addRule_34
abbrev rm_L_dropRule : Room := { frames := 9, cells := 1, slots := 6, locals := 166 }
theorem A_L_dropRule (l : Launch) (hst : l.stackTraces = false) {D : va_G} {cy : Nat → ClassId} {o : Nat} {sK sV : Nat → Nat} {M : jT} {z : Int} {a0 a1 : Int} {QA : Int → jT → Prop} {XA : Nat → jT → Prop} {Q : Int → Int → jT → Prop} (h : wp_X10_dropRule M 0 a0 a1 QA XA) (hA : ∀ v M1, QA v M1 → Q 0 (nzv v) M1) (hX : ∀ e M1, XA e M1 → (e = 1 ∧ Q 1 z M1)) : CoL l yL_dropRule (wjW yL_dropRule cL_dropRule 5 (some .int) [(0, 10, 13, 19)]) rm_L_dropRule D cy o sK sV M z [.ref (rA o 0), .int (J a0), .int (J a1), .ref (o + 630)] Q := by
  refine l_ofW (cc := cL_dropRule) (maxL := 5) (ret := (some .int)) (hh := [(0, 10, 13, 19)]) (by decide) rfl (Nat.le_of_ble_eq_true rfl) ?_
  intro p e s m args below meth c hx hb hr hlocks htab hml hown hts hK hSX hN hO H locs hG ls hl Qf hQf
  have hown : s.vm.findClass RL = some m.cls := hown
  have hl : lv_has ls 5 [(0, .ref (rA o 0)), (1, .int (J a0)), (2, .int (J a1)), (3, .ref (o + 630))] := hl
  have ka0 : kd 0 = 10 := rfl
  refine lv_aload_n hx hb dL_dropRule_0 rfl (lv_at hl 3 rfl) ?_
  refine lv_iconst (v := J 0) hx hb dL_dropRule_1 (by decide) ?_
  refine lv_aload_n hx hb dL_dropRule_2 rfl (lv_at hl 0 rfl) ?_
  refine lv_iload_n hx hb dL_dropRule_3 rfl (lv_at hl 1 rfl) ?_
  refine lv_iload_n hx hb dL_dropRule_4 rfl (lv_at hl 2 rfl) ?_
  refine j_contxi (vx_runV (As := [.int (J a0), .int (J a1)]) (rest := [.int (J 0), .ref (o + 630)]) ⟨hx, hb, hml, hown, hts⟩ (A_X10_dropRule l hst ka0 h) (cwV 2 hts (gw_V ml_RL_34 i_X10_dropRule s_X10_dropRule n_RX10 k_X10_dropRule) rfl rfl rfl (by decide +kernel) ⟨by exact Nat.le_of_ble_eq_true rfl, by exact Nat.le_of_ble_eq_true rfl⟩) (j_preV hK hSX hG (ci := 9) rfl ka0 (by decide)) rfl rfl hl.1 rfl (lv_room (Nat.le_of_ble_eq_true rfl)) dL_dropRule_5 ⟨by exact Nat.le_of_ble_eq_true rfl, by exact Nat.le_of_ble_eq_true rfl⟩) hG (c2 := 1) (s2 := 6) ⟨by exact Nat.le_of_ble_eq_true rfl, by exact Nat.le_of_ble_eq_true rfl⟩ (fun x M h ce q H locs hG h1 h2 h3 => ?_) (fun v M h H locs hG => ?_)
  · rcases hX x M h with ⟨rfl, hq⟩
    · refine vx_catch (own := RL) (name := "java/lang/IndexOutOfBoundsException") (E := "java/lang/IndexOutOfBoundsException") hown [] ⟨0, 10, 13, 19⟩ [] htab (fun z hz => absurd hz List.not_mem_nil) (by decide) (by decide) (hts _ (List.mem_cons_of_mem _ xl_RL_19)) (cast_at hSX 0 rfl) h1 h2 h3 ?_
      refine lv_astore (lv' := [(4, .ref q), (0, .ref (rA o 0)), (1, .int (J a0)), (2, .int (J a1)), (3, .ref (o + 630))]) hx hb dL_dropRule_13 hl (by decide) rfl (fun ls hl => ?_)
      refine lv_iconst (v := J 1) hx hb dL_dropRule_15 (by decide) ?_
      rw [hQf]
      exact l_ret hx hb hr hlocks (hG.gw hO) hq ⟨by exact Nat.le_of_ble_eq_true rfl, by exact Nat.le_of_ble_eq_true rfl⟩ dL_dropRule_16
  · rw [hQf]
    exact l_fin (tgt := 17) hx hb hr hlocks hK (hG.gw hO) (hA v M h) ⟨by exact Nat.le_of_ble_eq_true rfl, by exact Nat.le_of_ble_eq_true rfl⟩ dL_dropRule_8 dL_dropRule_9 dL_dropRule_10 (by decide) dL_dropRule_17 dL_dropRule_18
abbrev rm_L_zone : Room := { frames := 9, cells := 1, slots := 6, locals := 155 }
theorem A_L_zone (l : Launch) (hst : l.stackTraces = false) {D : va_G} {cy : Nat → ClassId} {o : Nat} {sK sV : Nat → Nat} {M : jT} {z : Int} {a0 a1 : Int} {QA : Int → jT → Prop} {XA : Nat → jT → Prop} {Q : Int → Int → jT → Prop} (h : wp_X10_zone M 0 a0 a1 QA XA) (hA : ∀ v M1, QA v M1 → Q 0 (nzv v) M1) (hX : ∀ e M1, XA e M1 → (e = 1 ∧ Q 1 z M1) ∨ (e = 2 ∧ Q 2 z M1)) : CoL l yL_zone (wjW yL_zone cL_zone 5 (some .int) [(0, 10, 13, 19), (0, 10, 17, 13)]) rm_L_zone D cy o sK sV M z [.ref (rA o 0), .int (J a0), .int (J a1), .ref (o + 630)] Q := by
  refine l_ofW (cc := cL_zone) (maxL := 5) (ret := (some .int)) (hh := [(0, 10, 13, 19), (0, 10, 17, 13)]) (by decide) rfl (Nat.le_of_ble_eq_true rfl) ?_
  intro p e s m args below meth c hx hb hr hlocks htab hml hown hts hK hSX hN hO H locs hG ls hl Qf hQf
  have hown : s.vm.findClass RL = some m.cls := hown
  have hl : lv_has ls 5 [(0, .ref (rA o 0)), (1, .int (J a0)), (2, .int (J a1)), (3, .ref (o + 630))] := hl
  have ka0 : kd 0 = 10 := rfl
  refine lv_aload_n hx hb dL_zone_0 rfl (lv_at hl 3 rfl) ?_
  refine lv_iconst (v := J 0) hx hb dL_zone_1 (by decide) ?_
  refine lv_aload_n hx hb dL_zone_2 rfl (lv_at hl 0 rfl) ?_
  refine lv_iload_n hx hb dL_zone_3 rfl (lv_at hl 1 rfl) ?_
  refine lv_iload_n hx hb dL_zone_4 rfl (lv_at hl 2 rfl) ?_
  refine j_contxi (vx_runV (As := [.int (J a0), .int (J a1)]) (rest := [.int (J 0), .ref (o + 630)]) ⟨hx, hb, hml, hown, hts⟩ (A_X10_zone l hst ka0 h) (cwV 2 hts (gw_V ml_RL_37 i_X10_zone s_X10_zone n_RX10 k_X10_zone) rfl rfl rfl (by decide +kernel) ⟨by exact Nat.le_of_ble_eq_true rfl, by exact Nat.le_of_ble_eq_true rfl⟩) (j_preV hK hSX hG (ci := 9) rfl ka0 (by decide)) rfl rfl hl.1 rfl (lv_room (Nat.le_of_ble_eq_true rfl)) dL_zone_5 ⟨by exact Nat.le_of_ble_eq_true rfl, by exact Nat.le_of_ble_eq_true rfl⟩) hG (c2 := 1) (s2 := 6) ⟨by exact Nat.le_of_ble_eq_true rfl, by exact Nat.le_of_ble_eq_true rfl⟩ (fun x M h ce q H locs hG h1 h2 h3 => ?_) (fun v M h H locs hG => ?_)
  · rcases hX x M h with ⟨rfl, hq⟩ | ⟨rfl, hq⟩
    · refine vx_catch (own := RL) (name := "java/lang/IndexOutOfBoundsException") (E := "java/lang/IndexOutOfBoundsException") hown [] ⟨0, 10, 13, 19⟩ [⟨0, 10, 17, 13⟩] htab (fun z hz => absurd hz List.not_mem_nil) (by decide) (by decide) (hts _ (List.mem_cons_of_mem _ xl_RL_19)) (cast_at hSX 0 rfl) h1 h2 h3 ?_
      refine lv_astore (lv' := [(4, .ref q), (0, .ref (rA o 0)), (1, .int (J a0)), (2, .int (J a1)), (3, .ref (o + 630))]) hx hb dL_zone_13 hl (by decide) rfl (fun ls hl => ?_)
      refine lv_iconst (v := J 1) hx hb dL_zone_15 (by decide) ?_
      rw [hQf]
      exact l_ret hx hb hr hlocks (hG.gw hO) hq ⟨by exact Nat.le_of_ble_eq_true rfl, by exact Nat.le_of_ble_eq_true rfl⟩ dL_zone_16
    · refine vx_catch (own := RL) (name := "java/lang/IllegalArgumentException") (E := "java/lang/IllegalArgumentException") hown [⟨0, 10, 13, 19⟩] ⟨0, 10, 17, 13⟩ [] htab (fun z hz => by
        rcases List.mem_cons.mp hz with rfl | hz
        · exact Or.inr ⟨by decide, _, hts _ (List.mem_cons_of_mem _ xl_RL_19), nc_at hN 0 rfl⟩
        exact absurd hz List.not_mem_nil) (by decide) (by decide) (hts _ (List.mem_cons_of_mem _ xl_RL_13)) (cast_at hSX 1 rfl) h1 h2 h3 ?_
      refine lv_astore (lv' := [(4, .ref q), (0, .ref (rA o 0)), (1, .int (J a0)), (2, .int (J a1)), (3, .ref (o + 630))]) hx hb dL_zone_17 hl (by decide) rfl (fun ls hl => ?_)
      refine lv_iconst (v := J 2) hx hb dL_zone_19 (by decide) ?_
      rw [hQf]
      exact l_ret hx hb hr hlocks (hG.gw hO) hq ⟨by exact Nat.le_of_ble_eq_true rfl, by exact Nat.le_of_ble_eq_true rfl⟩ dL_zone_20
  · rw [hQf]
    exact l_fin (tgt := 21) hx hb hr hlocks hK (hG.gw hO) (hA v M h) ⟨by exact Nat.le_of_ble_eq_true rfl, by exact Nat.le_of_ble_eq_true rfl⟩ dL_zone_8 dL_zone_9 dL_zone_10 (by decide) dL_zone_21 dL_zone_22
abbrev rm_L_rule : Room := { frames := 9, cells := 1, slots := 6, locals := 153 }
theorem A_L_rule (l : Launch) (hst : l.stackTraces = false) {D : va_G} {cy : Nat → ClassId} {o : Nat} {sK sV : Nat → Nat} {M : jT} {z : Int} {a0 a1 a2 : Int} {QA : Int → jT → Prop} {XA : Nat → jT → Prop} {Q : Int → Int → jT → Prop} (h : wp_X10_rule M 0 a0 a1 a2 QA XA) (hA : ∀ v M1, QA v M1 → Q 0 (nzv v) M1) (hX : ∀ e M1, XA e M1 → (e = 1 ∧ Q 1 z M1) ∨ (e = 2 ∧ Q 2 z M1)) : CoL l yL_rule (wjW yL_rule cL_rule 6 (some .int) [(0, 12, 15, 19), (0, 12, 19, 13)]) rm_L_rule D cy o sK sV M z [.ref (rA o 0), .int (J a0), .int (J a1), .int (J a2), .ref (o + 630)] Q := by
  refine l_ofW (cc := cL_rule) (maxL := 6) (ret := (some .int)) (hh := [(0, 12, 15, 19), (0, 12, 19, 13)]) (by decide) rfl (Nat.le_of_ble_eq_true rfl) ?_
  intro p e s m args below meth c hx hb hr hlocks htab hml hown hts hK hSX hN hO H locs hG ls hl Qf hQf
  have hown : s.vm.findClass RL = some m.cls := hown
  have hl : lv_has ls 6 [(0, .ref (rA o 0)), (1, .int (J a0)), (2, .int (J a1)), (3, .int (J a2)), (4, .ref (o + 630))] := hl
  have ka0 : kd 0 = 10 := rfl
  refine lv_aload hx hb dL_rule_0 (lv_at hl 4 rfl) ?_
  refine lv_iconst (v := J 0) hx hb dL_rule_2 (by decide) ?_
  refine lv_aload_n hx hb dL_rule_3 rfl (lv_at hl 0 rfl) ?_
  refine lv_iload_n hx hb dL_rule_4 rfl (lv_at hl 1 rfl) ?_
  refine lv_iload_n hx hb dL_rule_5 rfl (lv_at hl 2 rfl) ?_
  refine lv_iload_n hx hb dL_rule_6 rfl (lv_at hl 3 rfl) ?_
  refine j_contxi (vx_runV (As := [.int (J a0), .int (J a1), .int (J a2)]) (rest := [.int (J 0), .ref (o + 630)]) ⟨hx, hb, hml, hown, hts⟩ (A_X10_rule l hst ka0 h) (cwV 3 hts (gw_V ml_RL_40 i_X10_rule s_X10_rule n_RX10 k_X10_rule) rfl rfl rfl (by decide +kernel) ⟨by exact Nat.le_of_ble_eq_true rfl, by exact Nat.le_of_ble_eq_true rfl⟩) (j_preV hK hSX hG (ci := 9) rfl ka0 (by decide)) rfl rfl hl.1 rfl (lv_room (Nat.le_of_ble_eq_true rfl)) dL_rule_7 ⟨by exact Nat.le_of_ble_eq_true rfl, by exact Nat.le_of_ble_eq_true rfl⟩) hG (c2 := 1) (s2 := 6) ⟨by exact Nat.le_of_ble_eq_true rfl, by exact Nat.le_of_ble_eq_true rfl⟩ (fun x M h ce q H locs hG h1 h2 h3 => ?_) (fun v M h H locs hG => ?_)
  · rcases hX x M h with ⟨rfl, hq⟩ | ⟨rfl, hq⟩
    · refine vx_catch (own := RL) (name := "java/lang/IndexOutOfBoundsException") (E := "java/lang/IndexOutOfBoundsException") hown [] ⟨0, 12, 15, 19⟩ [⟨0, 12, 19, 13⟩] htab (fun z hz => absurd hz List.not_mem_nil) (by decide) (by decide) (hts _ (List.mem_cons_of_mem _ xl_RL_19)) (cast_at hSX 0 rfl) h1 h2 h3 ?_
      refine lv_astore (lv' := [(5, .ref q), (0, .ref (rA o 0)), (1, .int (J a0)), (2, .int (J a1)), (3, .int (J a2)), (4, .ref (o + 630))]) hx hb dL_rule_15 hl (by decide) rfl (fun ls hl => ?_)
      refine lv_iconst (v := J 1) hx hb dL_rule_17 (by decide) ?_
      rw [hQf]
      exact l_ret hx hb hr hlocks (hG.gw hO) hq ⟨by exact Nat.le_of_ble_eq_true rfl, by exact Nat.le_of_ble_eq_true rfl⟩ dL_rule_18
    · refine vx_catch (own := RL) (name := "java/lang/IllegalArgumentException") (E := "java/lang/IllegalArgumentException") hown [⟨0, 12, 15, 19⟩] ⟨0, 12, 19, 13⟩ [] htab (fun z hz => by
        rcases List.mem_cons.mp hz with rfl | hz
        · exact Or.inr ⟨by decide, _, hts _ (List.mem_cons_of_mem _ xl_RL_19), nc_at hN 0 rfl⟩
        exact absurd hz List.not_mem_nil) (by decide) (by decide) (hts _ (List.mem_cons_of_mem _ xl_RL_13)) (cast_at hSX 1 rfl) h1 h2 h3 ?_
      refine lv_astore (lv' := [(5, .ref q), (0, .ref (rA o 0)), (1, .int (J a0)), (2, .int (J a1)), (3, .int (J a2)), (4, .ref (o + 630))]) hx hb dL_rule_19 hl (by decide) rfl (fun ls hl => ?_)
      refine lv_iconst (v := J 2) hx hb dL_rule_21 (by decide) ?_
      rw [hQf]
      exact l_ret hx hb hr hlocks (hG.gw hO) hq ⟨by exact Nat.le_of_ble_eq_true rfl, by exact Nat.le_of_ble_eq_true rfl⟩ dL_rule_22
  · rw [hQf]
    exact l_fin (tgt := 23) hx hb hr hlocks hK (hG.gw hO) (hA v M h) ⟨by exact Nat.le_of_ble_eq_true rfl, by exact Nat.le_of_ble_eq_true rfl⟩ dL_rule_10 dL_rule_11 dL_rule_12 (by decide) dL_rule_23 dL_rule_24
abbrev rm_L_eventDay : Room := { frames := 9, cells := 1, slots := 6, locals := 154 }
theorem A_L_eventDay (l : Launch) (hst : l.stackTraces = false) {D : va_G} {cy : Nat → ClassId} {o : Nat} {sK sV : Nat → Nat} {M : jT} {z : Int} {a0 a1 a2 : Int} {QA : Int → jT → Prop} {XA : Nat → jT → Prop} {Q : Int → Int → jT → Prop} (h : wp_X10_eventDay M 0 a0 a1 a2 QA XA) (hA : ∀ v M1, QA v M1 → Q 0 (nzv v) M1) (hX : ∀ e M1, XA e M1 → (e = 1 ∧ Q 1 z M1) ∨ (e = 2 ∧ Q 2 z M1) ∨ (e = 4 ∧ Q 3 z M1)) : CoL l yL_eventDay (wjW yL_eventDay cL_eventDay 6 (some .int) [(0, 12, 15, 19), (0, 12, 19, 13), (0, 12, 23, 46)]) rm_L_eventDay D cy o sK sV M z [.ref (rA o 0), .int (J a0), .int (J a1), .int (J a2), .ref (o + 630)] Q := by
  refine l_ofW (cc := cL_eventDay) (maxL := 6) (ret := (some .int)) (hh := [(0, 12, 15, 19), (0, 12, 19, 13), (0, 12, 23, 46)]) (by decide) rfl (Nat.le_of_ble_eq_true rfl) ?_
  intro p e s m args below meth c hx hb hr hlocks htab hml hown hts hK hSX hN hO H locs hG ls hl Qf hQf
  have hown : s.vm.findClass RL = some m.cls := hown
  have hl : lv_has ls 6 [(0, .ref (rA o 0)), (1, .int (J a0)), (2, .int (J a1)), (3, .int (J a2)), (4, .ref (o + 630))] := hl
  have ka0 : kd 0 = 10 := rfl
  refine lv_aload hx hb dL_eventDay_0 (lv_at hl 4 rfl) ?_
  refine lv_iconst (v := J 0) hx hb dL_eventDay_2 (by decide) ?_
  refine lv_aload_n hx hb dL_eventDay_3 rfl (lv_at hl 0 rfl) ?_
  refine lv_iload_n hx hb dL_eventDay_4 rfl (lv_at hl 1 rfl) ?_
  refine lv_iload_n hx hb dL_eventDay_5 rfl (lv_at hl 2 rfl) ?_
  refine lv_iload_n hx hb dL_eventDay_6 rfl (lv_at hl 3 rfl) ?_
  refine j_contxi (vx_runV (As := [.int (J a0), .int (J a1), .int (J a2)]) (rest := [.int (J 0), .ref (o + 630)]) ⟨hx, hb, hml, hown, hts⟩ (A_X10_eventDay l hst ka0 h) (cwV 3 hts (gw_V ml_RL_43 i_X10_eventDay s_X10_eventDay n_RX10 k_X10_eventDay) rfl rfl rfl (by decide +kernel) ⟨by exact Nat.le_of_ble_eq_true rfl, by exact Nat.le_of_ble_eq_true rfl⟩) (j_preV hK hSX hG (ci := 9) rfl ka0 (by decide)) rfl rfl hl.1 rfl (lv_room (Nat.le_of_ble_eq_true rfl)) dL_eventDay_7 ⟨by exact Nat.le_of_ble_eq_true rfl, by exact Nat.le_of_ble_eq_true rfl⟩) hG (c2 := 1) (s2 := 6) ⟨by exact Nat.le_of_ble_eq_true rfl, by exact Nat.le_of_ble_eq_true rfl⟩ (fun x M h ce q H locs hG h1 h2 h3 => ?_) (fun v M h H locs hG => ?_)
  · rcases hX x M h with ⟨rfl, hq⟩ | ⟨rfl, hq⟩ | ⟨rfl, hq⟩
    · refine vx_catch (own := RL) (name := "java/lang/IndexOutOfBoundsException") (E := "java/lang/IndexOutOfBoundsException") hown [] ⟨0, 12, 15, 19⟩ [⟨0, 12, 19, 13⟩, ⟨0, 12, 23, 46⟩] htab (fun z hz => absurd hz List.not_mem_nil) (by decide) (by decide) (hts _ (List.mem_cons_of_mem _ xl_RL_19)) (cast_at hSX 0 rfl) h1 h2 h3 ?_
      refine lv_astore (lv' := [(5, .ref q), (0, .ref (rA o 0)), (1, .int (J a0)), (2, .int (J a1)), (3, .int (J a2)), (4, .ref (o + 630))]) hx hb dL_eventDay_15 hl (by decide) rfl (fun ls hl => ?_)
      refine lv_iconst (v := J 1) hx hb dL_eventDay_17 (by decide) ?_
      rw [hQf]
      exact l_ret hx hb hr hlocks (hG.gw hO) hq ⟨by exact Nat.le_of_ble_eq_true rfl, by exact Nat.le_of_ble_eq_true rfl⟩ dL_eventDay_18
    · refine vx_catch (own := RL) (name := "java/lang/IllegalArgumentException") (E := "java/lang/IllegalArgumentException") hown [⟨0, 12, 15, 19⟩] ⟨0, 12, 19, 13⟩ [⟨0, 12, 23, 46⟩] htab (fun z hz => by
        rcases List.mem_cons.mp hz with rfl | hz
        · exact Or.inr ⟨by decide, _, hts _ (List.mem_cons_of_mem _ xl_RL_19), nc_at hN 0 rfl⟩
        exact absurd hz List.not_mem_nil) (by decide) (by decide) (hts _ (List.mem_cons_of_mem _ xl_RL_13)) (cast_at hSX 1 rfl) h1 h2 h3 ?_
      refine lv_astore (lv' := [(5, .ref q), (0, .ref (rA o 0)), (1, .int (J a0)), (2, .int (J a1)), (3, .int (J a2)), (4, .ref (o + 630))]) hx hb dL_eventDay_19 hl (by decide) rfl (fun ls hl => ?_)
      refine lv_iconst (v := J 2) hx hb dL_eventDay_21 (by decide) ?_
      rw [hQf]
      exact l_ret hx hb hr hlocks (hG.gw hO) hq ⟨by exact Nat.le_of_ble_eq_true rfl, by exact Nat.le_of_ble_eq_true rfl⟩ dL_eventDay_22
    · refine vx_catch (own := RL) (name := "java/util/NoSuchElementException") (E := "java/util/NoSuchElementException") hown [⟨0, 12, 15, 19⟩, ⟨0, 12, 19, 13⟩] ⟨0, 12, 23, 46⟩ [] htab (fun z hz => by
        rcases List.mem_cons.mp hz with rfl | hz
        · exact Or.inr ⟨by decide, _, hts _ (List.mem_cons_of_mem _ xl_RL_19), nc_at hN 3 rfl⟩
        rcases List.mem_cons.mp hz with rfl | hz
        · exact Or.inr ⟨by decide, _, hts _ (List.mem_cons_of_mem _ xl_RL_13), nc_at hN 4 rfl⟩
        exact absurd hz List.not_mem_nil) (by decide) (by decide) (hts _ (List.mem_cons_of_mem _ xl_RL_46)) (cast_at hSX 3 rfl) h1 h2 h3 ?_
      refine lv_astore (lv' := [(5, .ref q), (0, .ref (rA o 0)), (1, .int (J a0)), (2, .int (J a1)), (3, .int (J a2)), (4, .ref (o + 630))]) hx hb dL_eventDay_23 hl (by decide) rfl (fun ls hl => ?_)
      refine lv_iconst (v := J 3) hx hb dL_eventDay_25 (by decide) ?_
      rw [hQf]
      exact l_ret hx hb hr hlocks (hG.gw hO) hq ⟨by exact Nat.le_of_ble_eq_true rfl, by exact Nat.le_of_ble_eq_true rfl⟩ dL_eventDay_26
  · rw [hQf]
    exact l_fin (tgt := 27) hx hb hr hlocks hK (hG.gw hO) (hA v M h) ⟨by exact Nat.le_of_ble_eq_true rfl, by exact Nat.le_of_ble_eq_true rfl⟩ dL_eventDay_10 dL_eventDay_11 dL_eventDay_12 (by decide) dL_eventDay_27 dL_eventDay_28
abbrev rm_L_transition : Room := { frames := 9, cells := 1, slots := 6, locals := 155 }
theorem A_L_transition (l : Launch) (hst : l.stackTraces = false) {D : va_G} {cy : Nat → ClassId} {o : Nat} {sK sV : Nat → Nat} {M : jT} {z : Int} {a0 a1 a2 : Int} {QA : Int → jT → Prop} {XA : Nat → jT → Prop} {Q : Int → Int → jT → Prop} (h : wp_X10_transition M 0 a0 a1 a2 QA XA) (hA : ∀ v M1, QA v M1 → Q 0 (nzv v) M1) (hX : ∀ e M1, XA e M1 → (e = 1 ∧ Q 1 z M1) ∨ (e = 4 ∧ Q 2 z M1) ∨ (e = 2 ∧ Q 3 z M1)) : CoL l yL_transition (wjW yL_transition cL_transition 6 (some .int) [(0, 12, 15, 19), (0, 12, 19, 46), (0, 12, 23, 13)]) rm_L_transition D cy o sK sV M z [.ref (rA o 0), .int (J a0), .int (J a1), .int (J a2), .ref (o + 630)] Q := by
  refine l_ofW (cc := cL_transition) (maxL := 6) (ret := (some .int)) (hh := [(0, 12, 15, 19), (0, 12, 19, 46), (0, 12, 23, 13)]) (by decide) rfl (Nat.le_of_ble_eq_true rfl) ?_
  intro p e s m args below meth c hx hb hr hlocks htab hml hown hts hK hSX hN hO H locs hG ls hl Qf hQf
  have hown : s.vm.findClass RL = some m.cls := hown
  have hl : lv_has ls 6 [(0, .ref (rA o 0)), (1, .int (J a0)), (2, .int (J a1)), (3, .int (J a2)), (4, .ref (o + 630))] := hl
  have ka0 : kd 0 = 10 := rfl
  refine lv_aload hx hb dL_transition_0 (lv_at hl 4 rfl) ?_
  refine lv_iconst (v := J 0) hx hb dL_transition_2 (by decide) ?_
  refine lv_aload_n hx hb dL_transition_3 rfl (lv_at hl 0 rfl) ?_
  refine lv_iload_n hx hb dL_transition_4 rfl (lv_at hl 1 rfl) ?_
  refine lv_iload_n hx hb dL_transition_5 rfl (lv_at hl 2 rfl) ?_
  refine lv_iload_n hx hb dL_transition_6 rfl (lv_at hl 3 rfl) ?_
  refine j_contxi (vx_runV (As := [.int (J a0), .int (J a1), .int (J a2)]) (rest := [.int (J 0), .ref (o + 630)]) ⟨hx, hb, hml, hown, hts⟩ (A_X10_transition l hst ka0 h) (cwV 3 hts (gw_V ml_RL_48 i_X10_transition s_X10_transition n_RX10 k_X10_transition) rfl rfl rfl (by decide +kernel) ⟨by exact Nat.le_of_ble_eq_true rfl, by exact Nat.le_of_ble_eq_true rfl⟩) (j_preV hK hSX hG (ci := 9) rfl ka0 (by decide)) rfl rfl hl.1 rfl (lv_room (Nat.le_of_ble_eq_true rfl)) dL_transition_7 ⟨by exact Nat.le_of_ble_eq_true rfl, by exact Nat.le_of_ble_eq_true rfl⟩) hG (c2 := 1) (s2 := 6) ⟨by exact Nat.le_of_ble_eq_true rfl, by exact Nat.le_of_ble_eq_true rfl⟩ (fun x M h ce q H locs hG h1 h2 h3 => ?_) (fun v M h H locs hG => ?_)
  · rcases hX x M h with ⟨rfl, hq⟩ | ⟨rfl, hq⟩ | ⟨rfl, hq⟩
    · refine vx_catch (own := RL) (name := "java/lang/IndexOutOfBoundsException") (E := "java/lang/IndexOutOfBoundsException") hown [] ⟨0, 12, 15, 19⟩ [⟨0, 12, 19, 46⟩, ⟨0, 12, 23, 13⟩] htab (fun z hz => absurd hz List.not_mem_nil) (by decide) (by decide) (hts _ (List.mem_cons_of_mem _ xl_RL_19)) (cast_at hSX 0 rfl) h1 h2 h3 ?_
      refine lv_astore (lv' := [(5, .ref q), (0, .ref (rA o 0)), (1, .int (J a0)), (2, .int (J a1)), (3, .int (J a2)), (4, .ref (o + 630))]) hx hb dL_transition_15 hl (by decide) rfl (fun ls hl => ?_)
      refine lv_iconst (v := J 1) hx hb dL_transition_17 (by decide) ?_
      rw [hQf]
      exact l_ret hx hb hr hlocks (hG.gw hO) hq ⟨by exact Nat.le_of_ble_eq_true rfl, by exact Nat.le_of_ble_eq_true rfl⟩ dL_transition_18
    · refine vx_catch (own := RL) (name := "java/util/NoSuchElementException") (E := "java/util/NoSuchElementException") hown [⟨0, 12, 15, 19⟩] ⟨0, 12, 19, 46⟩ [⟨0, 12, 23, 13⟩] htab (fun z hz => by
        rcases List.mem_cons.mp hz with rfl | hz
        · exact Or.inr ⟨by decide, _, hts _ (List.mem_cons_of_mem _ xl_RL_19), nc_at hN 3 rfl⟩
        exact absurd hz List.not_mem_nil) (by decide) (by decide) (hts _ (List.mem_cons_of_mem _ xl_RL_46)) (cast_at hSX 3 rfl) h1 h2 h3 ?_
      refine lv_astore (lv' := [(5, .ref q), (0, .ref (rA o 0)), (1, .int (J a0)), (2, .int (J a1)), (3, .int (J a2)), (4, .ref (o + 630))]) hx hb dL_transition_19 hl (by decide) rfl (fun ls hl => ?_)
      refine lv_iconst (v := J 2) hx hb dL_transition_21 (by decide) ?_
      rw [hQf]
      exact l_ret hx hb hr hlocks (hG.gw hO) hq ⟨by exact Nat.le_of_ble_eq_true rfl, by exact Nat.le_of_ble_eq_true rfl⟩ dL_transition_22
    · refine vx_catch (own := RL) (name := "java/lang/IllegalArgumentException") (E := "java/lang/IllegalArgumentException") hown [⟨0, 12, 15, 19⟩, ⟨0, 12, 19, 46⟩] ⟨0, 12, 23, 13⟩ [] htab (fun z hz => by
        rcases List.mem_cons.mp hz with rfl | hz
        · exact Or.inr ⟨by decide, _, hts _ (List.mem_cons_of_mem _ xl_RL_19), nc_at hN 0 rfl⟩
        rcases List.mem_cons.mp hz with rfl | hz
        · exact Or.inr ⟨by decide, _, hts _ (List.mem_cons_of_mem _ xl_RL_46), nc_at hN 5 rfl⟩
        exact absurd hz List.not_mem_nil) (by decide) (by decide) (hts _ (List.mem_cons_of_mem _ xl_RL_13)) (cast_at hSX 1 rfl) h1 h2 h3 ?_
      refine lv_astore (lv' := [(5, .ref q), (0, .ref (rA o 0)), (1, .int (J a0)), (2, .int (J a1)), (3, .int (J a2)), (4, .ref (o + 630))]) hx hb dL_transition_23 hl (by decide) rfl (fun ls hl => ?_)
      refine lv_iconst (v := J 3) hx hb dL_transition_25 (by decide) ?_
      rw [hQf]
      exact l_ret hx hb hr hlocks (hG.gw hO) hq ⟨by exact Nat.le_of_ble_eq_true rfl, by exact Nat.le_of_ble_eq_true rfl⟩ dL_transition_26
  · rw [hQf]
    exact l_fin (tgt := 27) hx hb hr hlocks hK (hG.gw hO) (hA v M h) ⟨by exact Nat.le_of_ble_eq_true rfl, by exact Nat.le_of_ble_eq_true rfl⟩ dL_transition_10 dL_transition_11 dL_transition_12 (by decide) dL_transition_27 dL_transition_28
abbrev rm_L_voidEvent : Room := { frames := 9, cells := 1, slots := 6, locals := 155 }
theorem A_L_voidEvent (l : Launch) (hst : l.stackTraces = false) {D : va_G} {cy : Nat → ClassId} {o : Nat} {sK sV : Nat → Nat} {M : jT} {z : Int} {a0 a1 a2 : Int} {QA : Int → jT → Prop} {XA : Nat → jT → Prop} {Q : Int → Int → jT → Prop} (h : wp_X10_voidEvent M 0 a0 a1 a2 QA XA) (hA : ∀ v M1, QA v M1 → Q 0 (nzv v) M1) (hX : ∀ e M1, XA e M1 → (e = 1 ∧ Q 1 z M1) ∨ (e = 4 ∧ Q 2 z M1) ∨ (e = 2 ∧ Q 3 z M1)) : CoL l yL_voidEvent (wjW yL_voidEvent cL_voidEvent 6 (some .int) [(0, 12, 15, 19), (0, 12, 19, 46), (0, 12, 23, 13)]) rm_L_voidEvent D cy o sK sV M z [.ref (rA o 0), .int (J a0), .int (J a1), .int (J a2), .ref (o + 630)] Q := by
  refine l_ofW (cc := cL_voidEvent) (maxL := 6) (ret := (some .int)) (hh := [(0, 12, 15, 19), (0, 12, 19, 46), (0, 12, 23, 13)]) (by decide) rfl (Nat.le_of_ble_eq_true rfl) ?_
  intro p e s m args below meth c hx hb hr hlocks htab hml hown hts hK hSX hN hO H locs hG ls hl Qf hQf
  have hown : s.vm.findClass RL = some m.cls := hown
  have hl : lv_has ls 6 [(0, .ref (rA o 0)), (1, .int (J a0)), (2, .int (J a1)), (3, .int (J a2)), (4, .ref (o + 630))] := hl
  have ka0 : kd 0 = 10 := rfl
  refine lv_aload hx hb dL_voidEvent_0 (lv_at hl 4 rfl) ?_
  refine lv_iconst (v := J 0) hx hb dL_voidEvent_2 (by decide) ?_
  refine lv_aload_n hx hb dL_voidEvent_3 rfl (lv_at hl 0 rfl) ?_
  refine lv_iload_n hx hb dL_voidEvent_4 rfl (lv_at hl 1 rfl) ?_
  refine lv_iload_n hx hb dL_voidEvent_5 rfl (lv_at hl 2 rfl) ?_
  refine lv_iload_n hx hb dL_voidEvent_6 rfl (lv_at hl 3 rfl) ?_
  refine j_contxi (vx_runV (As := [.int (J a0), .int (J a1), .int (J a2)]) (rest := [.int (J 0), .ref (o + 630)]) ⟨hx, hb, hml, hown, hts⟩ (A_X10_voidEvent l hst ka0 h) (cwV 3 hts (gw_V ml_RL_51 i_X10_voidEvent s_X10_voidEvent n_RX10 k_X10_voidEvent) rfl rfl rfl (by decide +kernel) ⟨by exact Nat.le_of_ble_eq_true rfl, by exact Nat.le_of_ble_eq_true rfl⟩) (j_preV hK hSX hG (ci := 9) rfl ka0 (by decide)) rfl rfl hl.1 rfl (lv_room (Nat.le_of_ble_eq_true rfl)) dL_voidEvent_7 ⟨by exact Nat.le_of_ble_eq_true rfl, by exact Nat.le_of_ble_eq_true rfl⟩) hG (c2 := 1) (s2 := 6) ⟨by exact Nat.le_of_ble_eq_true rfl, by exact Nat.le_of_ble_eq_true rfl⟩ (fun x M h ce q H locs hG h1 h2 h3 => ?_) (fun v M h H locs hG => ?_)
  · rcases hX x M h with ⟨rfl, hq⟩ | ⟨rfl, hq⟩ | ⟨rfl, hq⟩
    · refine vx_catch (own := RL) (name := "java/lang/IndexOutOfBoundsException") (E := "java/lang/IndexOutOfBoundsException") hown [] ⟨0, 12, 15, 19⟩ [⟨0, 12, 19, 46⟩, ⟨0, 12, 23, 13⟩] htab (fun z hz => absurd hz List.not_mem_nil) (by decide) (by decide) (hts _ (List.mem_cons_of_mem _ xl_RL_19)) (cast_at hSX 0 rfl) h1 h2 h3 ?_
      refine lv_astore (lv' := [(5, .ref q), (0, .ref (rA o 0)), (1, .int (J a0)), (2, .int (J a1)), (3, .int (J a2)), (4, .ref (o + 630))]) hx hb dL_voidEvent_15 hl (by decide) rfl (fun ls hl => ?_)
      refine lv_iconst (v := J 1) hx hb dL_voidEvent_17 (by decide) ?_
      rw [hQf]
      exact l_ret hx hb hr hlocks (hG.gw hO) hq ⟨by exact Nat.le_of_ble_eq_true rfl, by exact Nat.le_of_ble_eq_true rfl⟩ dL_voidEvent_18
    · refine vx_catch (own := RL) (name := "java/util/NoSuchElementException") (E := "java/util/NoSuchElementException") hown [⟨0, 12, 15, 19⟩] ⟨0, 12, 19, 46⟩ [⟨0, 12, 23, 13⟩] htab (fun z hz => by
        rcases List.mem_cons.mp hz with rfl | hz
        · exact Or.inr ⟨by decide, _, hts _ (List.mem_cons_of_mem _ xl_RL_19), nc_at hN 3 rfl⟩
        exact absurd hz List.not_mem_nil) (by decide) (by decide) (hts _ (List.mem_cons_of_mem _ xl_RL_46)) (cast_at hSX 3 rfl) h1 h2 h3 ?_
      refine lv_astore (lv' := [(5, .ref q), (0, .ref (rA o 0)), (1, .int (J a0)), (2, .int (J a1)), (3, .int (J a2)), (4, .ref (o + 630))]) hx hb dL_voidEvent_19 hl (by decide) rfl (fun ls hl => ?_)
      refine lv_iconst (v := J 2) hx hb dL_voidEvent_21 (by decide) ?_
      rw [hQf]
      exact l_ret hx hb hr hlocks (hG.gw hO) hq ⟨by exact Nat.le_of_ble_eq_true rfl, by exact Nat.le_of_ble_eq_true rfl⟩ dL_voidEvent_22
    · refine vx_catch (own := RL) (name := "java/lang/IllegalArgumentException") (E := "java/lang/IllegalArgumentException") hown [⟨0, 12, 15, 19⟩, ⟨0, 12, 19, 46⟩] ⟨0, 12, 23, 13⟩ [] htab (fun z hz => by
        rcases List.mem_cons.mp hz with rfl | hz
        · exact Or.inr ⟨by decide, _, hts _ (List.mem_cons_of_mem _ xl_RL_19), nc_at hN 0 rfl⟩
        rcases List.mem_cons.mp hz with rfl | hz
        · exact Or.inr ⟨by decide, _, hts _ (List.mem_cons_of_mem _ xl_RL_46), nc_at hN 5 rfl⟩
        exact absurd hz List.not_mem_nil) (by decide) (by decide) (hts _ (List.mem_cons_of_mem _ xl_RL_13)) (cast_at hSX 1 rfl) h1 h2 h3 ?_
      refine lv_astore (lv' := [(5, .ref q), (0, .ref (rA o 0)), (1, .int (J a0)), (2, .int (J a1)), (3, .int (J a2)), (4, .ref (o + 630))]) hx hb dL_voidEvent_23 hl (by decide) rfl (fun ls hl => ?_)
      refine lv_iconst (v := J 3) hx hb dL_voidEvent_25 (by decide) ?_
      rw [hQf]
      exact l_ret hx hb hr hlocks (hG.gw hO) hq ⟨by exact Nat.le_of_ble_eq_true rfl, by exact Nat.le_of_ble_eq_true rfl⟩ dL_voidEvent_26
  · rw [hQf]
    exact l_fin (tgt := 27) hx hb hr hlocks hK (hG.gw hO) (hA v M h) ⟨by exact Nat.le_of_ble_eq_true rfl, by exact Nat.le_of_ble_eq_true rfl⟩ dL_voidEvent_10 dL_voidEvent_11 dL_voidEvent_12 (by decide) dL_voidEvent_27 dL_voidEvent_28
abbrev rm_L_offset : Room := { frames := 9, cells := 1, slots := 6, locals := 153 }
theorem A_L_offset (l : Launch) (hst : l.stackTraces = false) {D : va_G} {cy : Nat → ClassId} {o : Nat} {sK sV : Nat → Nat} {M : jT} {z : Int} {a0 a1 : Int} {QA : Int → jT → Prop} {XA : Nat → jT → Prop} {Q : Int → Int → jT → Prop} (h : wp_X10_offset M 0 a0 a1 QA XA) (hA : ∀ v M1, QA v M1 → Q 0 (nzv v) M1) (hX : ∀ e M1, XA e M1 → (e = 1 ∧ Q 1 z M1) ∨ (e = 2 ∧ Q 2 z M1)) : CoL l yL_offset (wjW yL_offset cL_offset 5 (some .int) [(0, 10, 13, 19), (0, 10, 17, 13)]) rm_L_offset D cy o sK sV M z [.ref (rA o 0), .int (J a0), .int (J a1), .ref (o + 630)] Q := by
  refine l_ofW (cc := cL_offset) (maxL := 5) (ret := (some .int)) (hh := [(0, 10, 13, 19), (0, 10, 17, 13)]) (by decide) rfl (Nat.le_of_ble_eq_true rfl) ?_
  intro p e s m args below meth c hx hb hr hlocks htab hml hown hts hK hSX hN hO H locs hG ls hl Qf hQf
  have hown : s.vm.findClass RL = some m.cls := hown
  have hl : lv_has ls 5 [(0, .ref (rA o 0)), (1, .int (J a0)), (2, .int (J a1)), (3, .ref (o + 630))] := hl
  have ka0 : kd 0 = 10 := rfl
  refine lv_aload_n hx hb dL_offset_0 rfl (lv_at hl 3 rfl) ?_
  refine lv_iconst (v := J 0) hx hb dL_offset_1 (by decide) ?_
  refine lv_aload_n hx hb dL_offset_2 rfl (lv_at hl 0 rfl) ?_
  refine lv_iload_n hx hb dL_offset_3 rfl (lv_at hl 1 rfl) ?_
  refine lv_iload_n hx hb dL_offset_4 rfl (lv_at hl 2 rfl) ?_
  refine j_contxi (vx_runV (As := [.int (J a0), .int (J a1)]) (rest := [.int (J 0), .ref (o + 630)]) ⟨hx, hb, hml, hown, hts⟩ (A_X10_offset l hst ka0 h) (cwV 2 hts (gw_V ml_RL_54 i_X10_offset s_X10_offset n_RX10 k_X10_offset) rfl rfl rfl (by decide +kernel) ⟨by exact Nat.le_of_ble_eq_true rfl, by exact Nat.le_of_ble_eq_true rfl⟩) (j_preV hK hSX hG (ci := 9) rfl ka0 (by decide)) rfl rfl hl.1 rfl (lv_room (Nat.le_of_ble_eq_true rfl)) dL_offset_5 ⟨by exact Nat.le_of_ble_eq_true rfl, by exact Nat.le_of_ble_eq_true rfl⟩) hG (c2 := 1) (s2 := 6) ⟨by exact Nat.le_of_ble_eq_true rfl, by exact Nat.le_of_ble_eq_true rfl⟩ (fun x M h ce q H locs hG h1 h2 h3 => ?_) (fun v M h H locs hG => ?_)
  · rcases hX x M h with ⟨rfl, hq⟩ | ⟨rfl, hq⟩
    · refine vx_catch (own := RL) (name := "java/lang/IndexOutOfBoundsException") (E := "java/lang/IndexOutOfBoundsException") hown [] ⟨0, 10, 13, 19⟩ [⟨0, 10, 17, 13⟩] htab (fun z hz => absurd hz List.not_mem_nil) (by decide) (by decide) (hts _ (List.mem_cons_of_mem _ xl_RL_19)) (cast_at hSX 0 rfl) h1 h2 h3 ?_
      refine lv_astore (lv' := [(4, .ref q), (0, .ref (rA o 0)), (1, .int (J a0)), (2, .int (J a1)), (3, .ref (o + 630))]) hx hb dL_offset_13 hl (by decide) rfl (fun ls hl => ?_)
      refine lv_iconst (v := J 1) hx hb dL_offset_15 (by decide) ?_
      rw [hQf]
      exact l_ret hx hb hr hlocks (hG.gw hO) hq ⟨by exact Nat.le_of_ble_eq_true rfl, by exact Nat.le_of_ble_eq_true rfl⟩ dL_offset_16
    · refine vx_catch (own := RL) (name := "java/lang/IllegalArgumentException") (E := "java/lang/IllegalArgumentException") hown [⟨0, 10, 13, 19⟩] ⟨0, 10, 17, 13⟩ [] htab (fun z hz => by
        rcases List.mem_cons.mp hz with rfl | hz
        · exact Or.inr ⟨by decide, _, hts _ (List.mem_cons_of_mem _ xl_RL_19), nc_at hN 0 rfl⟩
        exact absurd hz List.not_mem_nil) (by decide) (by decide) (hts _ (List.mem_cons_of_mem _ xl_RL_13)) (cast_at hSX 1 rfl) h1 h2 h3 ?_
      refine lv_astore (lv' := [(4, .ref q), (0, .ref (rA o 0)), (1, .int (J a0)), (2, .int (J a1)), (3, .ref (o + 630))]) hx hb dL_offset_17 hl (by decide) rfl (fun ls hl => ?_)
      refine lv_iconst (v := J 2) hx hb dL_offset_19 (by decide) ?_
      rw [hQf]
      exact l_ret hx hb hr hlocks (hG.gw hO) hq ⟨by exact Nat.le_of_ble_eq_true rfl, by exact Nat.le_of_ble_eq_true rfl⟩ dL_offset_20
  · rw [hQf]
    exact l_fin (tgt := 21) hx hb hr hlocks hK (hG.gw hO) (hA v M h) ⟨by exact Nat.le_of_ble_eq_true rfl, by exact Nat.le_of_ble_eq_true rfl⟩ dL_offset_8 dL_offset_9 dL_offset_10 (by decide) dL_offset_21 dL_offset_22
abbrev rm_L_offsetAgain : Room := { frames := 9, cells := 1, slots := 6, locals := 158 }
theorem A_L_offsetAgain (l : Launch) (hst : l.stackTraces = false) {D : va_G} {cy : Nat → ClassId} {o : Nat} {sK sV : Nat → Nat} {M : jT} {z : Int} {a0 a1 : Int} {QA : Int → jT → Prop} {XA : Nat → jT → Prop} {Q : Int → Int → jT → Prop} (h : wp_X10_offsetAgain M 0 a0 a1 QA XA) (hA : ∀ v M1, QA v M1 → Q 0 (nzv v) M1) (hX : ∀ e M1, XA e M1 → (e = 1 ∧ Q 1 z M1) ∨ (e = 2 ∧ Q 2 z M1)) : CoL l yL_offsetAgain (wjW yL_offsetAgain cL_offsetAgain 5 (some .int) [(0, 10, 13, 19), (0, 10, 17, 13)]) rm_L_offsetAgain D cy o sK sV M z [.ref (rA o 0), .int (J a0), .int (J a1), .ref (o + 630)] Q := by
  refine l_ofW (cc := cL_offsetAgain) (maxL := 5) (ret := (some .int)) (hh := [(0, 10, 13, 19), (0, 10, 17, 13)]) (by decide) rfl (Nat.le_of_ble_eq_true rfl) ?_
  intro p e s m args below meth c hx hb hr hlocks htab hml hown hts hK hSX hN hO H locs hG ls hl Qf hQf
  have hown : s.vm.findClass RL = some m.cls := hown
  have hl : lv_has ls 5 [(0, .ref (rA o 0)), (1, .int (J a0)), (2, .int (J a1)), (3, .ref (o + 630))] := hl
  have ka0 : kd 0 = 10 := rfl
  refine lv_aload_n hx hb dL_offsetAgain_0 rfl (lv_at hl 3 rfl) ?_
  refine lv_iconst (v := J 0) hx hb dL_offsetAgain_1 (by decide) ?_
  refine lv_aload_n hx hb dL_offsetAgain_2 rfl (lv_at hl 0 rfl) ?_
  refine lv_iload_n hx hb dL_offsetAgain_3 rfl (lv_at hl 1 rfl) ?_
  refine lv_iload_n hx hb dL_offsetAgain_4 rfl (lv_at hl 2 rfl) ?_
  refine j_contxi (vx_runV (As := [.int (J a0), .int (J a1)]) (rest := [.int (J 0), .ref (o + 630)]) ⟨hx, hb, hml, hown, hts⟩ (A_X10_offsetAgain l hst ka0 h) (cwV 2 hts (gw_V ml_RL_57 i_X10_offsetAgain s_X10_offsetAgain n_RX10 k_X10_offsetAgain) rfl rfl rfl (by decide +kernel) ⟨by exact Nat.le_of_ble_eq_true rfl, by exact Nat.le_of_ble_eq_true rfl⟩) (j_preV hK hSX hG (ci := 9) rfl ka0 (by decide)) rfl rfl hl.1 rfl (lv_room (Nat.le_of_ble_eq_true rfl)) dL_offsetAgain_5 ⟨by exact Nat.le_of_ble_eq_true rfl, by exact Nat.le_of_ble_eq_true rfl⟩) hG (c2 := 1) (s2 := 6) ⟨by exact Nat.le_of_ble_eq_true rfl, by exact Nat.le_of_ble_eq_true rfl⟩ (fun x M h ce q H locs hG h1 h2 h3 => ?_) (fun v M h H locs hG => ?_)
  · rcases hX x M h with ⟨rfl, hq⟩ | ⟨rfl, hq⟩
    · refine vx_catch (own := RL) (name := "java/lang/IndexOutOfBoundsException") (E := "java/lang/IndexOutOfBoundsException") hown [] ⟨0, 10, 13, 19⟩ [⟨0, 10, 17, 13⟩] htab (fun z hz => absurd hz List.not_mem_nil) (by decide) (by decide) (hts _ (List.mem_cons_of_mem _ xl_RL_19)) (cast_at hSX 0 rfl) h1 h2 h3 ?_
      refine lv_astore (lv' := [(4, .ref q), (0, .ref (rA o 0)), (1, .int (J a0)), (2, .int (J a1)), (3, .ref (o + 630))]) hx hb dL_offsetAgain_13 hl (by decide) rfl (fun ls hl => ?_)
      refine lv_iconst (v := J 1) hx hb dL_offsetAgain_15 (by decide) ?_
      rw [hQf]
      exact l_ret hx hb hr hlocks (hG.gw hO) hq ⟨by exact Nat.le_of_ble_eq_true rfl, by exact Nat.le_of_ble_eq_true rfl⟩ dL_offsetAgain_16
    · refine vx_catch (own := RL) (name := "java/lang/IllegalArgumentException") (E := "java/lang/IllegalArgumentException") hown [⟨0, 10, 13, 19⟩] ⟨0, 10, 17, 13⟩ [] htab (fun z hz => by
        rcases List.mem_cons.mp hz with rfl | hz
        · exact Or.inr ⟨by decide, _, hts _ (List.mem_cons_of_mem _ xl_RL_19), nc_at hN 0 rfl⟩
        exact absurd hz List.not_mem_nil) (by decide) (by decide) (hts _ (List.mem_cons_of_mem _ xl_RL_13)) (cast_at hSX 1 rfl) h1 h2 h3 ?_
      refine lv_astore (lv' := [(4, .ref q), (0, .ref (rA o 0)), (1, .int (J a0)), (2, .int (J a1)), (3, .ref (o + 630))]) hx hb dL_offsetAgain_17 hl (by decide) rfl (fun ls hl => ?_)
      refine lv_iconst (v := J 2) hx hb dL_offsetAgain_19 (by decide) ?_
      rw [hQf]
      exact l_ret hx hb hr hlocks (hG.gw hO) hq ⟨by exact Nat.le_of_ble_eq_true rfl, by exact Nat.le_of_ble_eq_true rfl⟩ dL_offsetAgain_20
  · rw [hQf]
    exact l_fin (tgt := 21) hx hb hr hlocks hK (hG.gw hO) (hA v M h) ⟨by exact Nat.le_of_ble_eq_true rfl, by exact Nat.le_of_ble_eq_true rfl⟩ dL_offsetAgain_8 dL_offsetAgain_9 dL_offsetAgain_10 (by decide) dL_offsetAgain_21 dL_offsetAgain_22
abbrev rm_L_toLocal : Room := { frames := 9, cells := 1, slots := 6, locals := 153 }
theorem A_L_toLocal (l : Launch) (hst : l.stackTraces = false) {D : va_G} {cy : Nat → ClassId} {o : Nat} {sK sV : Nat → Nat} {M : jT} {z : Int} {a0 a1 : Int} {QA : Int → jT → Prop} {XA : Nat → jT → Prop} {Q : Int → Int → jT → Prop} (h : wp_X10_toLocal M 0 a0 a1 QA XA) (hA : ∀ v M1, QA v M1 → Q 0 (nzv v) M1) (hX : ∀ e M1, XA e M1 → (e = 1 ∧ Q 1 z M1) ∨ (e = 2 ∧ Q 2 z M1)) : CoL l yL_toLocal (wjW yL_toLocal cL_toLocal 5 (some .int) [(0, 10, 13, 19), (0, 10, 17, 13)]) rm_L_toLocal D cy o sK sV M z [.ref (rA o 0), .int (J a0), .int (J a1), .ref (o + 630)] Q := by
  refine l_ofW (cc := cL_toLocal) (maxL := 5) (ret := (some .int)) (hh := [(0, 10, 13, 19), (0, 10, 17, 13)]) (by decide) rfl (Nat.le_of_ble_eq_true rfl) ?_
  intro p e s m args below meth c hx hb hr hlocks htab hml hown hts hK hSX hN hO H locs hG ls hl Qf hQf
  have hown : s.vm.findClass RL = some m.cls := hown
  have hl : lv_has ls 5 [(0, .ref (rA o 0)), (1, .int (J a0)), (2, .int (J a1)), (3, .ref (o + 630))] := hl
  have ka0 : kd 0 = 10 := rfl
  refine lv_aload_n hx hb dL_toLocal_0 rfl (lv_at hl 3 rfl) ?_
  refine lv_iconst (v := J 0) hx hb dL_toLocal_1 (by decide) ?_
  refine lv_aload_n hx hb dL_toLocal_2 rfl (lv_at hl 0 rfl) ?_
  refine lv_iload_n hx hb dL_toLocal_3 rfl (lv_at hl 1 rfl) ?_
  refine lv_iload_n hx hb dL_toLocal_4 rfl (lv_at hl 2 rfl) ?_
  refine j_contxi (vx_runV (As := [.int (J a0), .int (J a1)]) (rest := [.int (J 0), .ref (o + 630)]) ⟨hx, hb, hml, hown, hts⟩ (A_X10_toLocal l hst ka0 h) (cwV 2 hts (gw_V ml_RL_60 i_X10_toLocal s_X10_toLocal n_RX10 k_X10_toLocal) rfl rfl rfl (by decide +kernel) ⟨by exact Nat.le_of_ble_eq_true rfl, by exact Nat.le_of_ble_eq_true rfl⟩) (j_preV hK hSX hG (ci := 9) rfl ka0 (by decide)) rfl rfl hl.1 rfl (lv_room (Nat.le_of_ble_eq_true rfl)) dL_toLocal_5 ⟨by exact Nat.le_of_ble_eq_true rfl, by exact Nat.le_of_ble_eq_true rfl⟩) hG (c2 := 1) (s2 := 6) ⟨by exact Nat.le_of_ble_eq_true rfl, by exact Nat.le_of_ble_eq_true rfl⟩ (fun x M h ce q H locs hG h1 h2 h3 => ?_) (fun v M h H locs hG => ?_)
  · rcases hX x M h with ⟨rfl, hq⟩ | ⟨rfl, hq⟩
    · refine vx_catch (own := RL) (name := "java/lang/IndexOutOfBoundsException") (E := "java/lang/IndexOutOfBoundsException") hown [] ⟨0, 10, 13, 19⟩ [⟨0, 10, 17, 13⟩] htab (fun z hz => absurd hz List.not_mem_nil) (by decide) (by decide) (hts _ (List.mem_cons_of_mem _ xl_RL_19)) (cast_at hSX 0 rfl) h1 h2 h3 ?_
      refine lv_astore (lv' := [(4, .ref q), (0, .ref (rA o 0)), (1, .int (J a0)), (2, .int (J a1)), (3, .ref (o + 630))]) hx hb dL_toLocal_13 hl (by decide) rfl (fun ls hl => ?_)
      refine lv_iconst (v := J 1) hx hb dL_toLocal_15 (by decide) ?_
      rw [hQf]
      exact l_ret hx hb hr hlocks (hG.gw hO) hq ⟨by exact Nat.le_of_ble_eq_true rfl, by exact Nat.le_of_ble_eq_true rfl⟩ dL_toLocal_16
    · refine vx_catch (own := RL) (name := "java/lang/IllegalArgumentException") (E := "java/lang/IllegalArgumentException") hown [⟨0, 10, 13, 19⟩] ⟨0, 10, 17, 13⟩ [] htab (fun z hz => by
        rcases List.mem_cons.mp hz with rfl | hz
        · exact Or.inr ⟨by decide, _, hts _ (List.mem_cons_of_mem _ xl_RL_19), nc_at hN 0 rfl⟩
        exact absurd hz List.not_mem_nil) (by decide) (by decide) (hts _ (List.mem_cons_of_mem _ xl_RL_13)) (cast_at hSX 1 rfl) h1 h2 h3 ?_
      refine lv_astore (lv' := [(4, .ref q), (0, .ref (rA o 0)), (1, .int (J a0)), (2, .int (J a1)), (3, .ref (o + 630))]) hx hb dL_toLocal_17 hl (by decide) rfl (fun ls hl => ?_)
      refine lv_iconst (v := J 2) hx hb dL_toLocal_19 (by decide) ?_
      rw [hQf]
      exact l_ret hx hb hr hlocks (hG.gw hO) hq ⟨by exact Nat.le_of_ble_eq_true rfl, by exact Nat.le_of_ble_eq_true rfl⟩ dL_toLocal_20
  · rw [hQf]
    exact l_fin (tgt := 21) hx hb hr hlocks hK (hG.gw hO) (hA v M h) ⟨by exact Nat.le_of_ble_eq_true rfl, by exact Nat.le_of_ble_eq_true rfl⟩ dL_toLocal_8 dL_toLocal_9 dL_toLocal_10 (by decide) dL_toLocal_21 dL_toLocal_22
abbrev rm_L_instants : Room := { frames := 9, cells := 1, slots := 6, locals := 154 }
theorem A_L_instants (l : Launch) (hst : l.stackTraces = false) {D : va_G} {cy : Nat → ClassId} {o : Nat} {sK sV : Nat → Nat} {M : jT} {z : Int} {a0 a1 : Int} {QA : Int → jT → Prop} {XA : Nat → jT → Prop} {Q : Int → Int → jT → Prop} (h : wp_X10_instants M 0 a0 a1 QA XA) (hA : ∀ v M1, QA v M1 → Q 0 (nzv v) M1) (hX : ∀ e M1, XA e M1 → (e = 1 ∧ Q 1 z M1) ∨ (e = 2 ∧ Q 2 z M1)) : CoL l yL_instants (wjW yL_instants cL_instants 5 (some .int) [(0, 10, 13, 19), (0, 10, 17, 13)]) rm_L_instants D cy o sK sV M z [.ref (rA o 0), .int (J a0), .int (J a1), .ref (o + 630)] Q := by
  refine l_ofW (cc := cL_instants) (maxL := 5) (ret := (some .int)) (hh := [(0, 10, 13, 19), (0, 10, 17, 13)]) (by decide) rfl (Nat.le_of_ble_eq_true rfl) ?_
  intro p e s m args below meth c hx hb hr hlocks htab hml hown hts hK hSX hN hO H locs hG ls hl Qf hQf
  have hown : s.vm.findClass RL = some m.cls := hown
  have hl : lv_has ls 5 [(0, .ref (rA o 0)), (1, .int (J a0)), (2, .int (J a1)), (3, .ref (o + 630))] := hl
  have ka0 : kd 0 = 10 := rfl
  refine lv_aload_n hx hb dL_instants_0 rfl (lv_at hl 3 rfl) ?_
  refine lv_iconst (v := J 0) hx hb dL_instants_1 (by decide) ?_
  refine lv_aload_n hx hb dL_instants_2 rfl (lv_at hl 0 rfl) ?_
  refine lv_iload_n hx hb dL_instants_3 rfl (lv_at hl 1 rfl) ?_
  refine lv_iload_n hx hb dL_instants_4 rfl (lv_at hl 2 rfl) ?_
  refine j_contxi (vx_runV (As := [.int (J a0), .int (J a1)]) (rest := [.int (J 0), .ref (o + 630)]) ⟨hx, hb, hml, hown, hts⟩ (A_X10_instants l hst ka0 h) (cwV 2 hts (gw_V ml_RL_63 i_X10_instants s_X10_instants n_RX10 k_X10_instants) rfl rfl rfl (by decide +kernel) ⟨by exact Nat.le_of_ble_eq_true rfl, by exact Nat.le_of_ble_eq_true rfl⟩) (j_preV hK hSX hG (ci := 9) rfl ka0 (by decide)) rfl rfl hl.1 rfl (lv_room (Nat.le_of_ble_eq_true rfl)) dL_instants_5 ⟨by exact Nat.le_of_ble_eq_true rfl, by exact Nat.le_of_ble_eq_true rfl⟩) hG (c2 := 1) (s2 := 6) ⟨by exact Nat.le_of_ble_eq_true rfl, by exact Nat.le_of_ble_eq_true rfl⟩ (fun x M h ce q H locs hG h1 h2 h3 => ?_) (fun v M h H locs hG => ?_)
  · rcases hX x M h with ⟨rfl, hq⟩ | ⟨rfl, hq⟩
    · refine vx_catch (own := RL) (name := "java/lang/IndexOutOfBoundsException") (E := "java/lang/IndexOutOfBoundsException") hown [] ⟨0, 10, 13, 19⟩ [⟨0, 10, 17, 13⟩] htab (fun z hz => absurd hz List.not_mem_nil) (by decide) (by decide) (hts _ (List.mem_cons_of_mem _ xl_RL_19)) (cast_at hSX 0 rfl) h1 h2 h3 ?_
      refine lv_astore (lv' := [(4, .ref q), (0, .ref (rA o 0)), (1, .int (J a0)), (2, .int (J a1)), (3, .ref (o + 630))]) hx hb dL_instants_13 hl (by decide) rfl (fun ls hl => ?_)
      refine lv_iconst (v := J 1) hx hb dL_instants_15 (by decide) ?_
      rw [hQf]
      exact l_ret hx hb hr hlocks (hG.gw hO) hq ⟨by exact Nat.le_of_ble_eq_true rfl, by exact Nat.le_of_ble_eq_true rfl⟩ dL_instants_16
    · refine vx_catch (own := RL) (name := "java/lang/IllegalArgumentException") (E := "java/lang/IllegalArgumentException") hown [⟨0, 10, 13, 19⟩] ⟨0, 10, 17, 13⟩ [] htab (fun z hz => by
        rcases List.mem_cons.mp hz with rfl | hz
        · exact Or.inr ⟨by decide, _, hts _ (List.mem_cons_of_mem _ xl_RL_19), nc_at hN 0 rfl⟩
        exact absurd hz List.not_mem_nil) (by decide) (by decide) (hts _ (List.mem_cons_of_mem _ xl_RL_13)) (cast_at hSX 1 rfl) h1 h2 h3 ?_
      refine lv_astore (lv' := [(4, .ref q), (0, .ref (rA o 0)), (1, .int (J a0)), (2, .int (J a1)), (3, .ref (o + 630))]) hx hb dL_instants_17 hl (by decide) rfl (fun ls hl => ?_)
      refine lv_iconst (v := J 2) hx hb dL_instants_19 (by decide) ?_
      rw [hQf]
      exact l_ret hx hb hr hlocks (hG.gw hO) hq ⟨by exact Nat.le_of_ble_eq_true rfl, by exact Nat.le_of_ble_eq_true rfl⟩ dL_instants_20
  · rw [hQf]
    exact l_fin (tgt := 21) hx hb hr hlocks hK (hG.gw hO) (hA v M h) ⟨by exact Nat.le_of_ble_eq_true rfl, by exact Nat.le_of_ble_eq_true rfl⟩ dL_instants_8 dL_instants_9 dL_instants_10 (by decide) dL_instants_21 dL_instants_22
abbrev rm_L_instantsAgain : Room := { frames := 9, cells := 1, slots := 6, locals := 159 }
theorem A_L_instantsAgain (l : Launch) (hst : l.stackTraces = false) {D : va_G} {cy : Nat → ClassId} {o : Nat} {sK sV : Nat → Nat} {M : jT} {z : Int} {a0 a1 : Int} {QA : Int → jT → Prop} {XA : Nat → jT → Prop} {Q : Int → Int → jT → Prop} (h : wp_X10_instantsAgain M 0 a0 a1 QA XA) (hA : ∀ v M1, QA v M1 → Q 0 (nzv v) M1) (hX : ∀ e M1, XA e M1 → (e = 1 ∧ Q 1 z M1) ∨ (e = 2 ∧ Q 2 z M1)) : CoL l yL_instantsAgain (wjW yL_instantsAgain cL_instantsAgain 5 (some .int) [(0, 10, 13, 19), (0, 10, 17, 13)]) rm_L_instantsAgain D cy o sK sV M z [.ref (rA o 0), .int (J a0), .int (J a1), .ref (o + 630)] Q := by
  refine l_ofW (cc := cL_instantsAgain) (maxL := 5) (ret := (some .int)) (hh := [(0, 10, 13, 19), (0, 10, 17, 13)]) (by decide) rfl (Nat.le_of_ble_eq_true rfl) ?_
  intro p e s m args below meth c hx hb hr hlocks htab hml hown hts hK hSX hN hO H locs hG ls hl Qf hQf
  have hown : s.vm.findClass RL = some m.cls := hown
  have hl : lv_has ls 5 [(0, .ref (rA o 0)), (1, .int (J a0)), (2, .int (J a1)), (3, .ref (o + 630))] := hl
  have ka0 : kd 0 = 10 := rfl
  refine lv_aload_n hx hb dL_instantsAgain_0 rfl (lv_at hl 3 rfl) ?_
  refine lv_iconst (v := J 0) hx hb dL_instantsAgain_1 (by decide) ?_
  refine lv_aload_n hx hb dL_instantsAgain_2 rfl (lv_at hl 0 rfl) ?_
  refine lv_iload_n hx hb dL_instantsAgain_3 rfl (lv_at hl 1 rfl) ?_
  refine lv_iload_n hx hb dL_instantsAgain_4 rfl (lv_at hl 2 rfl) ?_
  refine j_contxi (vx_runV (As := [.int (J a0), .int (J a1)]) (rest := [.int (J 0), .ref (o + 630)]) ⟨hx, hb, hml, hown, hts⟩ (A_X10_instantsAgain l hst ka0 h) (cwV 2 hts (gw_V ml_RL_66 i_X10_instantsAgain s_X10_instantsAgain n_RX10 k_X10_instantsAgain) rfl rfl rfl (by decide +kernel) ⟨by exact Nat.le_of_ble_eq_true rfl, by exact Nat.le_of_ble_eq_true rfl⟩) (j_preV hK hSX hG (ci := 9) rfl ka0 (by decide)) rfl rfl hl.1 rfl (lv_room (Nat.le_of_ble_eq_true rfl)) dL_instantsAgain_5 ⟨by exact Nat.le_of_ble_eq_true rfl, by exact Nat.le_of_ble_eq_true rfl⟩) hG (c2 := 1) (s2 := 6) ⟨by exact Nat.le_of_ble_eq_true rfl, by exact Nat.le_of_ble_eq_true rfl⟩ (fun x M h ce q H locs hG h1 h2 h3 => ?_) (fun v M h H locs hG => ?_)
  · rcases hX x M h with ⟨rfl, hq⟩ | ⟨rfl, hq⟩
    · refine vx_catch (own := RL) (name := "java/lang/IndexOutOfBoundsException") (E := "java/lang/IndexOutOfBoundsException") hown [] ⟨0, 10, 13, 19⟩ [⟨0, 10, 17, 13⟩] htab (fun z hz => absurd hz List.not_mem_nil) (by decide) (by decide) (hts _ (List.mem_cons_of_mem _ xl_RL_19)) (cast_at hSX 0 rfl) h1 h2 h3 ?_
      refine lv_astore (lv' := [(4, .ref q), (0, .ref (rA o 0)), (1, .int (J a0)), (2, .int (J a1)), (3, .ref (o + 630))]) hx hb dL_instantsAgain_13 hl (by decide) rfl (fun ls hl => ?_)
      refine lv_iconst (v := J 1) hx hb dL_instantsAgain_15 (by decide) ?_
      rw [hQf]
      exact l_ret hx hb hr hlocks (hG.gw hO) hq ⟨by exact Nat.le_of_ble_eq_true rfl, by exact Nat.le_of_ble_eq_true rfl⟩ dL_instantsAgain_16
    · refine vx_catch (own := RL) (name := "java/lang/IllegalArgumentException") (E := "java/lang/IllegalArgumentException") hown [⟨0, 10, 13, 19⟩] ⟨0, 10, 17, 13⟩ [] htab (fun z hz => by
        rcases List.mem_cons.mp hz with rfl | hz
        · exact Or.inr ⟨by decide, _, hts _ (List.mem_cons_of_mem _ xl_RL_19), nc_at hN 0 rfl⟩
        exact absurd hz List.not_mem_nil) (by decide) (by decide) (hts _ (List.mem_cons_of_mem _ xl_RL_13)) (cast_at hSX 1 rfl) h1 h2 h3 ?_
      refine lv_astore (lv' := [(4, .ref q), (0, .ref (rA o 0)), (1, .int (J a0)), (2, .int (J a1)), (3, .ref (o + 630))]) hx hb dL_instantsAgain_17 hl (by decide) rfl (fun ls hl => ?_)
      refine lv_iconst (v := J 2) hx hb dL_instantsAgain_19 (by decide) ?_
      rw [hQf]
      exact l_ret hx hb hr hlocks (hG.gw hO) hq ⟨by exact Nat.le_of_ble_eq_true rfl, by exact Nat.le_of_ble_eq_true rfl⟩ dL_instantsAgain_20
  · rw [hQf]
    exact l_fin (tgt := 21) hx hb hr hlocks hK (hG.gw hO) (hA v M h) ⟨by exact Nat.le_of_ble_eq_true rfl, by exact Nat.le_of_ble_eq_true rfl⟩ dL_instantsAgain_8 dL_instantsAgain_9 dL_instantsAgain_10 (by decide) dL_instantsAgain_21 dL_instantsAgain_22
abbrev rm_L_cause : Room := { frames := 9, cells := 1, slots := 6, locals := 153 }
theorem A_L_cause (l : Launch) (hst : l.stackTraces = false) {D : va_G} {cy : Nat → ClassId} {o : Nat} {sK sV : Nat → Nat} {M : jT} {z : Int} {a0 a1 : Int} {QA : Int → jT → Prop} {XA : Nat → jT → Prop} {Q : Int → Int → jT → Prop} (h : wp_X10_cause M 0 a0 a1 QA XA) (hA : ∀ v M1, QA v M1 → Q 0 (nzv v) M1) (hX : ∀ e M1, XA e M1 → (e = 1 ∧ Q 1 z M1) ∨ (e = 2 ∧ Q 2 z M1)) : CoL l yL_cause (wjW yL_cause cL_cause 5 (some .int) [(0, 10, 13, 19), (0, 10, 17, 13)]) rm_L_cause D cy o sK sV M z [.ref (rA o 0), .int (J a0), .int (J a1), .ref (o + 630)] Q := by
  refine l_ofW (cc := cL_cause) (maxL := 5) (ret := (some .int)) (hh := [(0, 10, 13, 19), (0, 10, 17, 13)]) (by decide) rfl (Nat.le_of_ble_eq_true rfl) ?_
  intro p e s m args below meth c hx hb hr hlocks htab hml hown hts hK hSX hN hO H locs hG ls hl Qf hQf
  have hown : s.vm.findClass RL = some m.cls := hown
  have hl : lv_has ls 5 [(0, .ref (rA o 0)), (1, .int (J a0)), (2, .int (J a1)), (3, .ref (o + 630))] := hl
  have ka0 : kd 0 = 10 := rfl
  refine lv_aload_n hx hb dL_cause_0 rfl (lv_at hl 3 rfl) ?_
  refine lv_iconst (v := J 0) hx hb dL_cause_1 (by decide) ?_
  refine lv_aload_n hx hb dL_cause_2 rfl (lv_at hl 0 rfl) ?_
  refine lv_iload_n hx hb dL_cause_3 rfl (lv_at hl 1 rfl) ?_
  refine lv_iload_n hx hb dL_cause_4 rfl (lv_at hl 2 rfl) ?_
  refine j_contxi (vx_runV (As := [.int (J a0), .int (J a1)]) (rest := [.int (J 0), .ref (o + 630)]) ⟨hx, hb, hml, hown, hts⟩ (A_X10_cause l hst ka0 h) (cwV 2 hts (gw_V ml_RL_69 i_X10_cause s_X10_cause n_RX10 k_X10_cause) rfl rfl rfl (by decide +kernel) ⟨by exact Nat.le_of_ble_eq_true rfl, by exact Nat.le_of_ble_eq_true rfl⟩) (j_preV hK hSX hG (ci := 9) rfl ka0 (by decide)) rfl rfl hl.1 rfl (lv_room (Nat.le_of_ble_eq_true rfl)) dL_cause_5 ⟨by exact Nat.le_of_ble_eq_true rfl, by exact Nat.le_of_ble_eq_true rfl⟩) hG (c2 := 1) (s2 := 6) ⟨by exact Nat.le_of_ble_eq_true rfl, by exact Nat.le_of_ble_eq_true rfl⟩ (fun x M h ce q H locs hG h1 h2 h3 => ?_) (fun v M h H locs hG => ?_)
  · rcases hX x M h with ⟨rfl, hq⟩ | ⟨rfl, hq⟩
    · refine vx_catch (own := RL) (name := "java/lang/IndexOutOfBoundsException") (E := "java/lang/IndexOutOfBoundsException") hown [] ⟨0, 10, 13, 19⟩ [⟨0, 10, 17, 13⟩] htab (fun z hz => absurd hz List.not_mem_nil) (by decide) (by decide) (hts _ (List.mem_cons_of_mem _ xl_RL_19)) (cast_at hSX 0 rfl) h1 h2 h3 ?_
      refine lv_astore (lv' := [(4, .ref q), (0, .ref (rA o 0)), (1, .int (J a0)), (2, .int (J a1)), (3, .ref (o + 630))]) hx hb dL_cause_13 hl (by decide) rfl (fun ls hl => ?_)
      refine lv_iconst (v := J 1) hx hb dL_cause_15 (by decide) ?_
      rw [hQf]
      exact l_ret hx hb hr hlocks (hG.gw hO) hq ⟨by exact Nat.le_of_ble_eq_true rfl, by exact Nat.le_of_ble_eq_true rfl⟩ dL_cause_16
    · refine vx_catch (own := RL) (name := "java/lang/IllegalArgumentException") (E := "java/lang/IllegalArgumentException") hown [⟨0, 10, 13, 19⟩] ⟨0, 10, 17, 13⟩ [] htab (fun z hz => by
        rcases List.mem_cons.mp hz with rfl | hz
        · exact Or.inr ⟨by decide, _, hts _ (List.mem_cons_of_mem _ xl_RL_19), nc_at hN 0 rfl⟩
        exact absurd hz List.not_mem_nil) (by decide) (by decide) (hts _ (List.mem_cons_of_mem _ xl_RL_13)) (cast_at hSX 1 rfl) h1 h2 h3 ?_
      refine lv_astore (lv' := [(4, .ref q), (0, .ref (rA o 0)), (1, .int (J a0)), (2, .int (J a1)), (3, .ref (o + 630))]) hx hb dL_cause_17 hl (by decide) rfl (fun ls hl => ?_)
      refine lv_iconst (v := J 2) hx hb dL_cause_19 (by decide) ?_
      rw [hQf]
      exact l_ret hx hb hr hlocks (hG.gw hO) hq ⟨by exact Nat.le_of_ble_eq_true rfl, by exact Nat.le_of_ble_eq_true rfl⟩ dL_cause_20
  · rw [hQf]
    exact l_fin (tgt := 21) hx hb hr hlocks hK (hG.gw hO) (hA v M h) ⟨by exact Nat.le_of_ble_eq_true rfl, by exact Nat.le_of_ble_eq_true rfl⟩ dL_cause_8 dL_cause_9 dL_cause_10 (by decide) dL_cause_21 dL_cause_22
abbrev rm_L_toInstant : Room := { frames := 9, cells := 1, slots := 6, locals := 154 }
theorem A_L_toInstant (l : Launch) (hst : l.stackTraces = false) {D : va_G} {cy : Nat → ClassId} {o : Nat} {sK sV : Nat → Nat} {M : jT} {z : Int} {a0 a1 a2 : Int} {QA : Int → jT → Prop} {XA : Nat → jT → Prop} {Q : Int → Int → jT → Prop} (h : wp_X10_toInstant M 0 a0 a1 a2 QA XA) (hA : ∀ v M1, QA v M1 → Q 0 (nzv v) M1) (hX : ∀ e M1, XA e M1 → (e = 1 ∧ Q 1 z M1) ∨ (e = 2 ∧ Q 2 z M1) ∨ (e = 5 ∧ Q 3 z M1)) : CoL l yL_toInstant (wjW yL_toInstant cL_toInstant 6 (some .int) [(0, 12, 15, 19), (0, 12, 19, 13), (0, 12, 23, 75)]) rm_L_toInstant D cy o sK sV M z [.ref (rA o 0), .int (J a0), .int (J a1), .int (J a2), .ref (o + 630)] Q := by
  refine l_ofW (cc := cL_toInstant) (maxL := 6) (ret := (some .int)) (hh := [(0, 12, 15, 19), (0, 12, 19, 13), (0, 12, 23, 75)]) (by decide) rfl (Nat.le_of_ble_eq_true rfl) ?_
  intro p e s m args below meth c hx hb hr hlocks htab hml hown hts hK hSX hN hO H locs hG ls hl Qf hQf
  have hown : s.vm.findClass RL = some m.cls := hown
  have hl : lv_has ls 6 [(0, .ref (rA o 0)), (1, .int (J a0)), (2, .int (J a1)), (3, .int (J a2)), (4, .ref (o + 630))] := hl
  have ka0 : kd 0 = 10 := rfl
  refine lv_aload hx hb dL_toInstant_0 (lv_at hl 4 rfl) ?_
  refine lv_iconst (v := J 0) hx hb dL_toInstant_2 (by decide) ?_
  refine lv_aload_n hx hb dL_toInstant_3 rfl (lv_at hl 0 rfl) ?_
  refine lv_iload_n hx hb dL_toInstant_4 rfl (lv_at hl 1 rfl) ?_
  refine lv_iload_n hx hb dL_toInstant_5 rfl (lv_at hl 2 rfl) ?_
  refine lv_iload_n hx hb dL_toInstant_6 rfl (lv_at hl 3 rfl) ?_
  refine j_contxi (vx_runV (As := [.int (J a0), .int (J a1), .int (J a2)]) (rest := [.int (J 0), .ref (o + 630)]) ⟨hx, hb, hml, hown, hts⟩ (A_X10_toInstant l hst ka0 h) (cwV 3 hts (gw_V ml_RL_72 i_X10_toInstant s_X10_toInstant n_RX10 k_X10_toInstant) rfl rfl rfl (by decide +kernel) ⟨by exact Nat.le_of_ble_eq_true rfl, by exact Nat.le_of_ble_eq_true rfl⟩) (j_preV hK hSX hG (ci := 9) rfl ka0 (by decide)) rfl rfl hl.1 rfl (lv_room (Nat.le_of_ble_eq_true rfl)) dL_toInstant_7 ⟨by exact Nat.le_of_ble_eq_true rfl, by exact Nat.le_of_ble_eq_true rfl⟩) hG (c2 := 1) (s2 := 6) ⟨by exact Nat.le_of_ble_eq_true rfl, by exact Nat.le_of_ble_eq_true rfl⟩ (fun x M h ce q H locs hG h1 h2 h3 => ?_) (fun v M h H locs hG => ?_)
  · rcases hX x M h with ⟨rfl, hq⟩ | ⟨rfl, hq⟩ | ⟨rfl, hq⟩
    · refine vx_catch (own := RL) (name := "java/lang/IndexOutOfBoundsException") (E := "java/lang/IndexOutOfBoundsException") hown [] ⟨0, 12, 15, 19⟩ [⟨0, 12, 19, 13⟩, ⟨0, 12, 23, 75⟩] htab (fun z hz => absurd hz List.not_mem_nil) (by decide) (by decide) (hts _ (List.mem_cons_of_mem _ xl_RL_19)) (cast_at hSX 0 rfl) h1 h2 h3 ?_
      refine lv_astore (lv' := [(5, .ref q), (0, .ref (rA o 0)), (1, .int (J a0)), (2, .int (J a1)), (3, .int (J a2)), (4, .ref (o + 630))]) hx hb dL_toInstant_15 hl (by decide) rfl (fun ls hl => ?_)
      refine lv_iconst (v := J 1) hx hb dL_toInstant_17 (by decide) ?_
      rw [hQf]
      exact l_ret hx hb hr hlocks (hG.gw hO) hq ⟨by exact Nat.le_of_ble_eq_true rfl, by exact Nat.le_of_ble_eq_true rfl⟩ dL_toInstant_18
    · refine vx_catch (own := RL) (name := "java/lang/IllegalArgumentException") (E := "java/lang/IllegalArgumentException") hown [⟨0, 12, 15, 19⟩] ⟨0, 12, 19, 13⟩ [⟨0, 12, 23, 75⟩] htab (fun z hz => by
        rcases List.mem_cons.mp hz with rfl | hz
        · exact Or.inr ⟨by decide, _, hts _ (List.mem_cons_of_mem _ xl_RL_19), nc_at hN 0 rfl⟩
        exact absurd hz List.not_mem_nil) (by decide) (by decide) (hts _ (List.mem_cons_of_mem _ xl_RL_13)) (cast_at hSX 1 rfl) h1 h2 h3 ?_
      refine lv_astore (lv' := [(5, .ref q), (0, .ref (rA o 0)), (1, .int (J a0)), (2, .int (J a1)), (3, .int (J a2)), (4, .ref (o + 630))]) hx hb dL_toInstant_19 hl (by decide) rfl (fun ls hl => ?_)
      refine lv_iconst (v := J 2) hx hb dL_toInstant_21 (by decide) ?_
      rw [hQf]
      exact l_ret hx hb hr hlocks (hG.gw hO) hq ⟨by exact Nat.le_of_ble_eq_true rfl, by exact Nat.le_of_ble_eq_true rfl⟩ dL_toInstant_22
    · refine vx_catch (own := RL) (name := "java/lang/UnsupportedOperationException") (E := "java/lang/UnsupportedOperationException") hown [⟨0, 12, 15, 19⟩, ⟨0, 12, 19, 13⟩] ⟨0, 12, 23, 75⟩ [] htab (fun z hz => by
        rcases List.mem_cons.mp hz with rfl | hz
        · exact Or.inr ⟨by decide, _, hts _ (List.mem_cons_of_mem _ xl_RL_19), nc_at hN 6 rfl⟩
        rcases List.mem_cons.mp hz with rfl | hz
        · exact Or.inr ⟨by decide, _, hts _ (List.mem_cons_of_mem _ xl_RL_13), nc_at hN 7 rfl⟩
        exact absurd hz List.not_mem_nil) (by decide) (by decide) (hts _ (List.mem_cons_of_mem _ xl_RL_75)) (cast_at hSX 4 rfl) h1 h2 h3 ?_
      refine lv_astore (lv' := [(5, .ref q), (0, .ref (rA o 0)), (1, .int (J a0)), (2, .int (J a1)), (3, .int (J a2)), (4, .ref (o + 630))]) hx hb dL_toInstant_23 hl (by decide) rfl (fun ls hl => ?_)
      refine lv_iconst (v := J 3) hx hb dL_toInstant_25 (by decide) ?_
      rw [hQf]
      exact l_ret hx hb hr hlocks (hG.gw hO) hq ⟨by exact Nat.le_of_ble_eq_true rfl, by exact Nat.le_of_ble_eq_true rfl⟩ dL_toInstant_26
  · rw [hQf]
    exact l_fin (tgt := 27) hx hb hr hlocks hK (hG.gw hO) (hA v M h) ⟨by exact Nat.le_of_ble_eq_true rfl, by exact Nat.le_of_ble_eq_true rfl⟩ dL_toInstant_10 dL_toInstant_11 dL_toInstant_12 (by decide) dL_toInstant_27 dL_toInstant_28
abbrev rm_L_convert : Room := { frames := 9, cells := 1, slots := 6, locals := 156 }
theorem A_L_convert (l : Launch) (hst : l.stackTraces = false) {D : va_G} {cy : Nat → ClassId} {o : Nat} {sK sV : Nat → Nat} {M : jT} {z : Int} {a0 a1 a2 a3 : Int} {QA : Int → jT → Prop} {XA : Nat → jT → Prop} {Q : Int → Int → jT → Prop} (h : wp_X10_convert M 0 a0 a1 a2 a3 QA XA) (hA : ∀ v M1, QA v M1 → Q 0 (nzv v) M1) (hX : ∀ e M1, XA e M1 → (e = 1 ∧ Q 1 z M1) ∨ (e = 2 ∧ Q 2 z M1) ∨ (e = 5 ∧ Q 3 z M1)) : CoL l yL_convert (wjW yL_convert cL_convert 7 (some .int) [(0, 14, 17, 19), (0, 14, 21, 13), (0, 14, 25, 75)]) rm_L_convert D cy o sK sV M z [.ref (rA o 0), .int (J a0), .int (J a1), .int (J a2), .int (J a3), .ref (o + 630)] Q := by
  refine l_ofW (cc := cL_convert) (maxL := 7) (ret := (some .int)) (hh := [(0, 14, 17, 19), (0, 14, 21, 13), (0, 14, 25, 75)]) (by decide) rfl (Nat.le_of_ble_eq_true rfl) ?_
  intro p e s m args below meth c hx hb hr hlocks htab hml hown hts hK hSX hN hO H locs hG ls hl Qf hQf
  have hown : s.vm.findClass RL = some m.cls := hown
  have hl : lv_has ls 7 [(0, .ref (rA o 0)), (1, .int (J a0)), (2, .int (J a1)), (3, .int (J a2)), (4, .int (J a3)), (5, .ref (o + 630))] := hl
  have ka0 : kd 0 = 10 := rfl
  refine lv_aload hx hb dL_convert_0 (lv_at hl 5 rfl) ?_
  refine lv_iconst (v := J 0) hx hb dL_convert_2 (by decide) ?_
  refine lv_aload_n hx hb dL_convert_3 rfl (lv_at hl 0 rfl) ?_
  refine lv_iload_n hx hb dL_convert_4 rfl (lv_at hl 1 rfl) ?_
  refine lv_iload_n hx hb dL_convert_5 rfl (lv_at hl 2 rfl) ?_
  refine lv_iload_n hx hb dL_convert_6 rfl (lv_at hl 3 rfl) ?_
  refine lv_iload hx hb dL_convert_7 (lv_at hl 4 rfl) ?_
  refine j_contxi (vx_runV (As := [.int (J a0), .int (J a1), .int (J a2), .int (J a3)]) (rest := [.int (J 0), .ref (o + 630)]) ⟨hx, hb, hml, hown, hts⟩ (A_X10_convert l hst ka0 h) (cwV 4 hts (gw_V ml_RL_77 i_X10_convert s_X10_convert n_RX10 k_X10_convert) rfl rfl rfl (by decide +kernel) ⟨by exact Nat.le_of_ble_eq_true rfl, by exact Nat.le_of_ble_eq_true rfl⟩) (j_preV hK hSX hG (ci := 9) rfl ka0 (by decide)) rfl rfl hl.1 rfl (lv_room (Nat.le_of_ble_eq_true rfl)) dL_convert_9 ⟨by exact Nat.le_of_ble_eq_true rfl, by exact Nat.le_of_ble_eq_true rfl⟩) hG (c2 := 1) (s2 := 6) ⟨by exact Nat.le_of_ble_eq_true rfl, by exact Nat.le_of_ble_eq_true rfl⟩ (fun x M h ce q H locs hG h1 h2 h3 => ?_) (fun v M h H locs hG => ?_)
  · rcases hX x M h with ⟨rfl, hq⟩ | ⟨rfl, hq⟩ | ⟨rfl, hq⟩
    · refine vx_catch (own := RL) (name := "java/lang/IndexOutOfBoundsException") (E := "java/lang/IndexOutOfBoundsException") hown [] ⟨0, 14, 17, 19⟩ [⟨0, 14, 21, 13⟩, ⟨0, 14, 25, 75⟩] htab (fun z hz => absurd hz List.not_mem_nil) (by decide) (by decide) (hts _ (List.mem_cons_of_mem _ xl_RL_19)) (cast_at hSX 0 rfl) h1 h2 h3 ?_
      refine lv_astore (lv' := [(6, .ref q), (0, .ref (rA o 0)), (1, .int (J a0)), (2, .int (J a1)), (3, .int (J a2)), (4, .int (J a3)), (5, .ref (o + 630))]) hx hb dL_convert_17 hl (by decide) rfl (fun ls hl => ?_)
      refine lv_iconst (v := J 1) hx hb dL_convert_19 (by decide) ?_
      rw [hQf]
      exact l_ret hx hb hr hlocks (hG.gw hO) hq ⟨by exact Nat.le_of_ble_eq_true rfl, by exact Nat.le_of_ble_eq_true rfl⟩ dL_convert_20
    · refine vx_catch (own := RL) (name := "java/lang/IllegalArgumentException") (E := "java/lang/IllegalArgumentException") hown [⟨0, 14, 17, 19⟩] ⟨0, 14, 21, 13⟩ [⟨0, 14, 25, 75⟩] htab (fun z hz => by
        rcases List.mem_cons.mp hz with rfl | hz
        · exact Or.inr ⟨by decide, _, hts _ (List.mem_cons_of_mem _ xl_RL_19), nc_at hN 0 rfl⟩
        exact absurd hz List.not_mem_nil) (by decide) (by decide) (hts _ (List.mem_cons_of_mem _ xl_RL_13)) (cast_at hSX 1 rfl) h1 h2 h3 ?_
      refine lv_astore (lv' := [(6, .ref q), (0, .ref (rA o 0)), (1, .int (J a0)), (2, .int (J a1)), (3, .int (J a2)), (4, .int (J a3)), (5, .ref (o + 630))]) hx hb dL_convert_21 hl (by decide) rfl (fun ls hl => ?_)
      refine lv_iconst (v := J 2) hx hb dL_convert_23 (by decide) ?_
      rw [hQf]
      exact l_ret hx hb hr hlocks (hG.gw hO) hq ⟨by exact Nat.le_of_ble_eq_true rfl, by exact Nat.le_of_ble_eq_true rfl⟩ dL_convert_24
    · refine vx_catch (own := RL) (name := "java/lang/UnsupportedOperationException") (E := "java/lang/UnsupportedOperationException") hown [⟨0, 14, 17, 19⟩, ⟨0, 14, 21, 13⟩] ⟨0, 14, 25, 75⟩ [] htab (fun z hz => by
        rcases List.mem_cons.mp hz with rfl | hz
        · exact Or.inr ⟨by decide, _, hts _ (List.mem_cons_of_mem _ xl_RL_19), nc_at hN 6 rfl⟩
        rcases List.mem_cons.mp hz with rfl | hz
        · exact Or.inr ⟨by decide, _, hts _ (List.mem_cons_of_mem _ xl_RL_13), nc_at hN 7 rfl⟩
        exact absurd hz List.not_mem_nil) (by decide) (by decide) (hts _ (List.mem_cons_of_mem _ xl_RL_75)) (cast_at hSX 4 rfl) h1 h2 h3 ?_
      refine lv_astore (lv' := [(6, .ref q), (0, .ref (rA o 0)), (1, .int (J a0)), (2, .int (J a1)), (3, .int (J a2)), (4, .int (J a3)), (5, .ref (o + 630))]) hx hb dL_convert_25 hl (by decide) rfl (fun ls hl => ?_)
      refine lv_iconst (v := J 3) hx hb dL_convert_27 (by decide) ?_
      rw [hQf]
      exact l_ret hx hb hr hlocks (hG.gw hO) hq ⟨by exact Nat.le_of_ble_eq_true rfl, by exact Nat.le_of_ble_eq_true rfl⟩ dL_convert_28
  · rw [hQf]
    exact l_fin (tgt := 29) hx hb hr hlocks hK (hG.gw hO) (hA v M h) ⟨by exact Nat.le_of_ble_eq_true rfl, by exact Nat.le_of_ble_eq_true rfl⟩ dL_convert_12 dL_convert_13 dL_convert_14 (by decide) dL_convert_29 dL_convert_30
end
