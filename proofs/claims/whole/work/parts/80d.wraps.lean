noncomputable section
abbrev rm_L_dayLength : Room := { frames := 9, cells := 1, slots := 6, locals := 154 }
theorem A_L_dayLength (l : Launch) (hst : l.stackTraces = false) {D : va_G} {cy : Nat → ClassId} {o : Nat} {sK sV : Nat → Nat} {M : jT} {z : Int} {a0 a1 : Int} {QA : Int → jT → Prop} {XA : Nat → jT → Prop} {Q : Int → Int → jT → Prop} (h : wp_X10_dayLength M 0 a0 a1 QA XA) (hA : ∀ v M1, QA v M1 → Q 0 (nzv v) M1) (hX : ∀ e M1, XA e M1 → (e = 1 ∧ Q 1 z M1)) : CoL l yL_dayLength (wjW yL_dayLength cL_dayLength 5 (some .int) [(0, 10, 13, 19)]) rm_L_dayLength D cy o sK sV M z [.ref (rA o 0), .int (J a0), .int (J a1), .ref (o + 630)] Q := by
  refine l_ofW (cc := cL_dayLength) (maxL := 5) (ret := (some .int)) (hh := [(0, 10, 13, 19)]) (by decide) rfl (Nat.le_of_ble_eq_true rfl) ?_
  intro p e s m args below meth c hx hb hr hlocks htab hml hown hts hK hSX hN hO H locs hG ls hl Qf hQf
  have hown : s.vm.findClass RL = some m.cls := hown
  have hl : lv_has ls 5 [(0, .ref (rA o 0)), (1, .int (J a0)), (2, .int (J a1)), (3, .ref (o + 630))] := hl
  have ka0 : kd 0 = 10 := rfl
  refine lv_aload_n hx hb dL_dayLength_0 rfl (lv_at hl 3 rfl) ?_
  refine lv_iconst (v := J 0) hx hb dL_dayLength_1 (by decide) ?_
  refine lv_aload_n hx hb dL_dayLength_2 rfl (lv_at hl 0 rfl) ?_
  refine lv_iload_n hx hb dL_dayLength_3 rfl (lv_at hl 1 rfl) ?_
  refine lv_iload_n hx hb dL_dayLength_4 rfl (lv_at hl 2 rfl) ?_
  refine j_contxi (vx_runV (As := [.int (J a0), .int (J a1)]) (rest := [.int (J 0), .ref (o + 630)]) ⟨hx, hb, hml, hown, hts⟩ (A_X10_dayLength l hst ka0 h) (cwV 2 hts (gw_V ml_RL_81 i_X10_dayLength s_X10_dayLength n_RX10 k_X10_dayLength) rfl rfl rfl (by decide +kernel) ⟨by exact Nat.le_of_ble_eq_true rfl, by exact Nat.le_of_ble_eq_true rfl⟩) (j_preV hK hSX hG (ci := 9) rfl ka0 (by decide)) rfl rfl hl.1 rfl (lv_room (Nat.le_of_ble_eq_true rfl)) dL_dayLength_5 ⟨by exact Nat.le_of_ble_eq_true rfl, by exact Nat.le_of_ble_eq_true rfl⟩) hG (c2 := 1) (s2 := 6) ⟨by exact Nat.le_of_ble_eq_true rfl, by exact Nat.le_of_ble_eq_true rfl⟩ (fun x M h ce q H locs hG h1 h2 h3 => ?_) (fun v M h H locs hG => ?_)
  · rcases hX x M h with ⟨rfl, hq⟩
    · refine vx_catch (own := RL) (name := "java/lang/IndexOutOfBoundsException") (E := "java/lang/IndexOutOfBoundsException") hown [] ⟨0, 10, 13, 19⟩ [] htab (fun z hz => absurd hz List.not_mem_nil) (by decide) (by decide) (hts _ (List.mem_cons_of_mem _ xl_RL_19)) (cast_at hSX 0 rfl) h1 h2 h3 ?_
      refine lv_astore (lv' := [(4, .ref q), (0, .ref (rA o 0)), (1, .int (J a0)), (2, .int (J a1)), (3, .ref (o + 630))]) hx hb dL_dayLength_13 hl (by decide) rfl (fun ls hl => ?_)
      refine lv_iconst (v := J 1) hx hb dL_dayLength_15 (by decide) ?_
      rw [hQf]
      exact l_ret hx hb hr hlocks (hG.gw hO) hq ⟨by exact Nat.le_of_ble_eq_true rfl, by exact Nat.le_of_ble_eq_true rfl⟩ dL_dayLength_16
  · rw [hQf]
    exact l_fin (tgt := 17) hx hb hr hlocks hK (hG.gw hO) (hA v M h) ⟨by exact Nat.le_of_ble_eq_true rfl, by exact Nat.le_of_ble_eq_true rfl⟩ dL_dayLength_8 dL_dayLength_9 dL_dayLength_10 (by decide) dL_dayLength_17 dL_dayLength_18
abbrev rm_L_account : Room := { frames := 9, cells := 1, slots := 6, locals := 157 }
theorem A_L_account (l : Launch) (hst : l.stackTraces = false) {D : va_G} {cy : Nat → ClassId} {o : Nat} {sK sV : Nat → Nat} {M : jT} {z : Int} {a0 a1 a2 : Int} {QA : Int → jT → Prop} {XA : Nat → jT → Prop} {Q : Int → Int → jT → Prop} (h : wp_X10_account M 0 a0 a1 a2 QA XA) (hA : ∀ v M1, QA v M1 → Q 0 (nzv v) M1) (hX : ∀ e M1, XA e M1 → (e = 1 ∧ Q 1 z M1) ∨ (e = 2 ∧ Q 2 z M1)) : CoL l yL_account (wjW yL_account cL_account 6 (some .int) [(0, 12, 15, 19), (0, 12, 19, 13)]) rm_L_account D cy o sK sV M z [.ref (rA o 0), .int (J a0), .int (J a1), .int (J a2), .ref (o + 630)] Q := by
  refine l_ofW (cc := cL_account) (maxL := 6) (ret := (some .int)) (hh := [(0, 12, 15, 19), (0, 12, 19, 13)]) (by decide) rfl (Nat.le_of_ble_eq_true rfl) ?_
  intro p e s m args below meth c hx hb hr hlocks htab hml hown hts hK hSX hN hO H locs hG ls hl Qf hQf
  have hown : s.vm.findClass RL = some m.cls := hown
  have hl : lv_has ls 6 [(0, .ref (rA o 0)), (1, .int (J a0)), (2, .int (J a1)), (3, .int (J a2)), (4, .ref (o + 630))] := hl
  have ka0 : kd 0 = 10 := rfl
  refine lv_aload hx hb dL_account_0 (lv_at hl 4 rfl) ?_
  refine lv_iconst (v := J 0) hx hb dL_account_2 (by decide) ?_
  refine lv_aload_n hx hb dL_account_3 rfl (lv_at hl 0 rfl) ?_
  refine lv_iload_n hx hb dL_account_4 rfl (lv_at hl 1 rfl) ?_
  refine lv_iload_n hx hb dL_account_5 rfl (lv_at hl 2 rfl) ?_
  refine lv_iload_n hx hb dL_account_6 rfl (lv_at hl 3 rfl) ?_
  refine j_contxi (vx_runV (As := [.int (J a0), .int (J a1), .int (J a2)]) (rest := [.int (J 0), .ref (o + 630)]) ⟨hx, hb, hml, hown, hts⟩ (A_X10_account l hst ka0 h) (cwV 3 hts (gw_V ml_RL_84 i_X10_account s_X10_account n_RX10 k_X10_account) rfl rfl rfl (by decide +kernel) ⟨by exact Nat.le_of_ble_eq_true rfl, by exact Nat.le_of_ble_eq_true rfl⟩) (j_preV hK hSX hG (ci := 9) rfl ka0 (by decide)) rfl rfl hl.1 rfl (lv_room (Nat.le_of_ble_eq_true rfl)) dL_account_7 ⟨by exact Nat.le_of_ble_eq_true rfl, by exact Nat.le_of_ble_eq_true rfl⟩) hG (c2 := 1) (s2 := 6) ⟨by exact Nat.le_of_ble_eq_true rfl, by exact Nat.le_of_ble_eq_true rfl⟩ (fun x M h ce q H locs hG h1 h2 h3 => ?_) (fun v M h H locs hG => ?_)
  · rcases hX x M h with ⟨rfl, hq⟩ | ⟨rfl, hq⟩
    · refine vx_catch (own := RL) (name := "java/lang/IndexOutOfBoundsException") (E := "java/lang/IndexOutOfBoundsException") hown [] ⟨0, 12, 15, 19⟩ [⟨0, 12, 19, 13⟩] htab (fun z hz => absurd hz List.not_mem_nil) (by decide) (by decide) (hts _ (List.mem_cons_of_mem _ xl_RL_19)) (cast_at hSX 0 rfl) h1 h2 h3 ?_
      refine lv_astore (lv' := [(5, .ref q), (0, .ref (rA o 0)), (1, .int (J a0)), (2, .int (J a1)), (3, .int (J a2)), (4, .ref (o + 630))]) hx hb dL_account_15 hl (by decide) rfl (fun ls hl => ?_)
      refine lv_iconst (v := J 1) hx hb dL_account_17 (by decide) ?_
      rw [hQf]
      exact l_ret hx hb hr hlocks (hG.gw hO) hq ⟨by exact Nat.le_of_ble_eq_true rfl, by exact Nat.le_of_ble_eq_true rfl⟩ dL_account_18
    · refine vx_catch (own := RL) (name := "java/lang/IllegalArgumentException") (E := "java/lang/IllegalArgumentException") hown [⟨0, 12, 15, 19⟩] ⟨0, 12, 19, 13⟩ [] htab (fun z hz => by
        rcases List.mem_cons.mp hz with rfl | hz
        · exact Or.inr ⟨by decide, _, hts _ (List.mem_cons_of_mem _ xl_RL_19), nc_at hN 0 rfl⟩
        exact absurd hz List.not_mem_nil) (by decide) (by decide) (hts _ (List.mem_cons_of_mem _ xl_RL_13)) (cast_at hSX 1 rfl) h1 h2 h3 ?_
      refine lv_astore (lv' := [(5, .ref q), (0, .ref (rA o 0)), (1, .int (J a0)), (2, .int (J a1)), (3, .int (J a2)), (4, .ref (o + 630))]) hx hb dL_account_19 hl (by decide) rfl (fun ls hl => ?_)
      refine lv_iconst (v := J 2) hx hb dL_account_21 (by decide) ?_
      rw [hQf]
      exact l_ret hx hb hr hlocks (hG.gw hO) hq ⟨by exact Nat.le_of_ble_eq_true rfl, by exact Nat.le_of_ble_eq_true rfl⟩ dL_account_22
  · rw [hQf]
    exact l_fin (tgt := 23) hx hb hr hlocks hK (hG.gw hO) (hA v M h) ⟨by exact Nat.le_of_ble_eq_true rfl, by exact Nat.le_of_ble_eq_true rfl⟩ dL_account_10 dL_account_11 dL_account_12 (by decide) dL_account_23 dL_account_24
abbrev rm_L_addMeeting : Room := { frames := 9, cells := 1, slots := 6, locals := 171 }
theorem A_L_addMeeting (l : Launch) (hst : l.stackTraces = false) {D : va_G} {cy : Nat → ClassId} {o : Nat} {sK sV : Nat → Nat} {M : jT} {z : Int} {a0 a1 a2 a3 a4 a5 : Int} {QA : Int → jT → Prop} {XA : Nat → jT → Prop} {Q : Int → Int → jT → Prop} (h : wp_X10_addMeeting M 0 a0 a1 a2 a3 a4 a5 QA XA) (hA : ∀ v M1, QA v M1 → Q 0 (nzv v) M1) (hX : ∀ e M1, XA e M1 → (e = 1 ∧ Q 1 z M1) ∨ (e = 2 ∧ Q 2 z M1) ∨ (e = 3 ∧ Q 3 z M1)) : CoL l yL_addMeeting (wjW yL_addMeeting cL_addMeeting 9 (some .int) [(0, 18, 21, 19), (0, 18, 25, 13), (0, 18, 29, 25)]) rm_L_addMeeting D cy o sK sV M z [.ref (rA o 0), .int (J a0), .int (J a1), .int (J a2), .int (J a3), .int (J a4), .int (J a5), .ref (o + 630)] Q := by
  refine l_ofW (cc := cL_addMeeting) (maxL := 9) (ret := (some .int)) (hh := [(0, 18, 21, 19), (0, 18, 25, 13), (0, 18, 29, 25)]) (by decide) rfl (Nat.le_of_ble_eq_true rfl) ?_
  intro p e s m args below meth c hx hb hr hlocks htab hml hown hts hK hSX hN hO H locs hG ls hl Qf hQf
  have hown : s.vm.findClass RL = some m.cls := hown
  have hl : lv_has ls 9 [(0, .ref (rA o 0)), (1, .int (J a0)), (2, .int (J a1)), (3, .int (J a2)), (4, .int (J a3)), (5, .int (J a4)), (6, .int (J a5)), (7, .ref (o + 630))] := hl
  have ka0 : kd 0 = 10 := rfl
  refine lv_aload hx hb dL_addMeeting_0 (lv_at hl 7 rfl) ?_
  refine lv_iconst (v := J 0) hx hb dL_addMeeting_2 (by decide) ?_
  refine lv_aload_n hx hb dL_addMeeting_3 rfl (lv_at hl 0 rfl) ?_
  refine lv_iload_n hx hb dL_addMeeting_4 rfl (lv_at hl 1 rfl) ?_
  refine lv_iload_n hx hb dL_addMeeting_5 rfl (lv_at hl 2 rfl) ?_
  refine lv_iload_n hx hb dL_addMeeting_6 rfl (lv_at hl 3 rfl) ?_
  refine lv_iload hx hb dL_addMeeting_7 (lv_at hl 4 rfl) ?_
  refine lv_iload hx hb dL_addMeeting_9 (lv_at hl 5 rfl) ?_
  refine lv_iload hx hb dL_addMeeting_11 (lv_at hl 6 rfl) ?_
  refine j_contxi (vx_runV (As := [.int (J a0), .int (J a1), .int (J a2), .int (J a3), .int (J a4), .int (J a5)]) (rest := [.int (J 0), .ref (o + 630)]) ⟨hx, hb, hml, hown, hts⟩ (A_X10_addMeeting l hst ka0 h) (cwV 6 hts (gw_V ml_RL_87 i_X10_addMeeting s_X10_addMeeting n_RX10 k_X10_addMeeting) rfl rfl rfl (by decide +kernel) ⟨by exact Nat.le_of_ble_eq_true rfl, by exact Nat.le_of_ble_eq_true rfl⟩) (j_preV hK hSX hG (ci := 9) rfl ka0 (by decide)) rfl rfl hl.1 rfl (lv_room (Nat.le_of_ble_eq_true rfl)) dL_addMeeting_13 ⟨by exact Nat.le_of_ble_eq_true rfl, by exact Nat.le_of_ble_eq_true rfl⟩) hG (c2 := 1) (s2 := 6) ⟨by exact Nat.le_of_ble_eq_true rfl, by exact Nat.le_of_ble_eq_true rfl⟩ (fun x M h ce q H locs hG h1 h2 h3 => ?_) (fun v M h H locs hG => ?_)
  · rcases hX x M h with ⟨rfl, hq⟩ | ⟨rfl, hq⟩ | ⟨rfl, hq⟩
    · refine vx_catch (own := RL) (name := "java/lang/IndexOutOfBoundsException") (E := "java/lang/IndexOutOfBoundsException") hown [] ⟨0, 18, 21, 19⟩ [⟨0, 18, 25, 13⟩, ⟨0, 18, 29, 25⟩] htab (fun z hz => absurd hz List.not_mem_nil) (by decide) (by decide) (hts _ (List.mem_cons_of_mem _ xl_RL_19)) (cast_at hSX 0 rfl) h1 h2 h3 ?_
      refine lv_astore (lv' := [(8, .ref q), (0, .ref (rA o 0)), (1, .int (J a0)), (2, .int (J a1)), (3, .int (J a2)), (4, .int (J a3)), (5, .int (J a4)), (6, .int (J a5)), (7, .ref (o + 630))]) hx hb dL_addMeeting_21 hl (by decide) rfl (fun ls hl => ?_)
      refine lv_iconst (v := J 1) hx hb dL_addMeeting_23 (by decide) ?_
      rw [hQf]
      exact l_ret hx hb hr hlocks (hG.gw hO) hq ⟨by exact Nat.le_of_ble_eq_true rfl, by exact Nat.le_of_ble_eq_true rfl⟩ dL_addMeeting_24
    · refine vx_catch (own := RL) (name := "java/lang/IllegalArgumentException") (E := "java/lang/IllegalArgumentException") hown [⟨0, 18, 21, 19⟩] ⟨0, 18, 25, 13⟩ [⟨0, 18, 29, 25⟩] htab (fun z hz => by
        rcases List.mem_cons.mp hz with rfl | hz
        · exact Or.inr ⟨by decide, _, hts _ (List.mem_cons_of_mem _ xl_RL_19), nc_at hN 0 rfl⟩
        exact absurd hz List.not_mem_nil) (by decide) (by decide) (hts _ (List.mem_cons_of_mem _ xl_RL_13)) (cast_at hSX 1 rfl) h1 h2 h3 ?_
      refine lv_astore (lv' := [(8, .ref q), (0, .ref (rA o 0)), (1, .int (J a0)), (2, .int (J a1)), (3, .int (J a2)), (4, .int (J a3)), (5, .int (J a4)), (6, .int (J a5)), (7, .ref (o + 630))]) hx hb dL_addMeeting_25 hl (by decide) rfl (fun ls hl => ?_)
      refine lv_iconst (v := J 2) hx hb dL_addMeeting_27 (by decide) ?_
      rw [hQf]
      exact l_ret hx hb hr hlocks (hG.gw hO) hq ⟨by exact Nat.le_of_ble_eq_true rfl, by exact Nat.le_of_ble_eq_true rfl⟩ dL_addMeeting_28
    · refine vx_catch (own := RL) (name := "java/lang/IllegalStateException") (E := "java/lang/IllegalStateException") hown [⟨0, 18, 21, 19⟩, ⟨0, 18, 25, 13⟩] ⟨0, 18, 29, 25⟩ [] htab (fun z hz => by
        rcases List.mem_cons.mp hz with rfl | hz
        · exact Or.inr ⟨by decide, _, hts _ (List.mem_cons_of_mem _ xl_RL_19), nc_at hN 1 rfl⟩
        rcases List.mem_cons.mp hz with rfl | hz
        · exact Or.inr ⟨by decide, _, hts _ (List.mem_cons_of_mem _ xl_RL_13), nc_at hN 2 rfl⟩
        exact absurd hz List.not_mem_nil) (by decide) (by decide) (hts _ (List.mem_cons_of_mem _ xl_RL_25)) (cast_at hSX 2 rfl) h1 h2 h3 ?_
      refine lv_astore (lv' := [(8, .ref q), (0, .ref (rA o 0)), (1, .int (J a0)), (2, .int (J a1)), (3, .int (J a2)), (4, .int (J a3)), (5, .int (J a4)), (6, .int (J a5)), (7, .ref (o + 630))]) hx hb dL_addMeeting_29 hl (by decide) rfl (fun ls hl => ?_)
      refine lv_iconst (v := J 3) hx hb dL_addMeeting_31 (by decide) ?_
      rw [hQf]
      exact l_ret hx hb hr hlocks (hG.gw hO) hq ⟨by exact Nat.le_of_ble_eq_true rfl, by exact Nat.le_of_ble_eq_true rfl⟩ dL_addMeeting_32
  · rw [hQf]
    exact l_fin (tgt := 33) hx hb hr hlocks hK (hG.gw hO) (hA v M h) ⟨by exact Nat.le_of_ble_eq_true rfl, by exact Nat.le_of_ble_eq_true rfl⟩ dL_addMeeting_16 dL_addMeeting_17 dL_addMeeting_18 (by decide) dL_addMeeting_33 dL_addMeeting_34
abbrev rm_L_recur : Room := { frames := 9, cells := 1, slots := 6, locals := 168 }
theorem A_L_recur (l : Launch) (hst : l.stackTraces = false) {D : va_G} {cy : Nat → ClassId} {o : Nat} {sK sV : Nat → Nat} {M : jT} {z : Int} {a0 a1 a2 a3 : Int} {QA : Int → jT → Prop} {XA : Nat → jT → Prop} {Q : Int → Int → jT → Prop} (h : wp_X10_recur M 0 a0 a1 a2 a3 QA XA) (hA : ∀ v M1, QA v M1 → Q 0 (nzv v) M1) (hX : ∀ e M1, XA e M1 → (e = 1 ∧ Q 1 z M1) ∨ (e = 2 ∧ Q 2 z M1)) : CoL l yL_recur (wjW yL_recur cL_recur 7 (some .int) [(0, 14, 17, 19), (0, 14, 21, 13)]) rm_L_recur D cy o sK sV M z [.ref (rA o 0), .int (J a0), .int (J a1), .int (J a2), .int (J a3), .ref (o + 630)] Q := by
  refine l_ofW (cc := cL_recur) (maxL := 7) (ret := (some .int)) (hh := [(0, 14, 17, 19), (0, 14, 21, 13)]) (by decide) rfl (Nat.le_of_ble_eq_true rfl) ?_
  intro p e s m args below meth c hx hb hr hlocks htab hml hown hts hK hSX hN hO H locs hG ls hl Qf hQf
  have hown : s.vm.findClass RL = some m.cls := hown
  have hl : lv_has ls 7 [(0, .ref (rA o 0)), (1, .int (J a0)), (2, .int (J a1)), (3, .int (J a2)), (4, .int (J a3)), (5, .ref (o + 630))] := hl
  have ka0 : kd 0 = 10 := rfl
  refine lv_aload hx hb dL_recur_0 (lv_at hl 5 rfl) ?_
  refine lv_iconst (v := J 0) hx hb dL_recur_2 (by decide) ?_
  refine lv_aload_n hx hb dL_recur_3 rfl (lv_at hl 0 rfl) ?_
  refine lv_iload_n hx hb dL_recur_4 rfl (lv_at hl 1 rfl) ?_
  refine lv_iload_n hx hb dL_recur_5 rfl (lv_at hl 2 rfl) ?_
  refine lv_iload_n hx hb dL_recur_6 rfl (lv_at hl 3 rfl) ?_
  refine lv_iload hx hb dL_recur_7 (lv_at hl 4 rfl) ?_
  refine j_contxi (vx_runV (As := [.int (J a0), .int (J a1), .int (J a2), .int (J a3)]) (rest := [.int (J 0), .ref (o + 630)]) ⟨hx, hb, hml, hown, hts⟩ (A_X10_recur l hst ka0 h) (cwV 4 hts (gw_V ml_RL_90 i_X10_recur s_X10_recur n_RX10 k_X10_recur) rfl rfl rfl (by decide +kernel) ⟨by exact Nat.le_of_ble_eq_true rfl, by exact Nat.le_of_ble_eq_true rfl⟩) (j_preV hK hSX hG (ci := 9) rfl ka0 (by decide)) rfl rfl hl.1 rfl (lv_room (Nat.le_of_ble_eq_true rfl)) dL_recur_9 ⟨by exact Nat.le_of_ble_eq_true rfl, by exact Nat.le_of_ble_eq_true rfl⟩) hG (c2 := 1) (s2 := 6) ⟨by exact Nat.le_of_ble_eq_true rfl, by exact Nat.le_of_ble_eq_true rfl⟩ (fun x M h ce q H locs hG h1 h2 h3 => ?_) (fun v M h H locs hG => ?_)
  · rcases hX x M h with ⟨rfl, hq⟩ | ⟨rfl, hq⟩
    · refine vx_catch (own := RL) (name := "java/lang/IndexOutOfBoundsException") (E := "java/lang/IndexOutOfBoundsException") hown [] ⟨0, 14, 17, 19⟩ [⟨0, 14, 21, 13⟩] htab (fun z hz => absurd hz List.not_mem_nil) (by decide) (by decide) (hts _ (List.mem_cons_of_mem _ xl_RL_19)) (cast_at hSX 0 rfl) h1 h2 h3 ?_
      refine lv_astore (lv' := [(6, .ref q), (0, .ref (rA o 0)), (1, .int (J a0)), (2, .int (J a1)), (3, .int (J a2)), (4, .int (J a3)), (5, .ref (o + 630))]) hx hb dL_recur_17 hl (by decide) rfl (fun ls hl => ?_)
      refine lv_iconst (v := J 1) hx hb dL_recur_19 (by decide) ?_
      rw [hQf]
      exact l_ret hx hb hr hlocks (hG.gw hO) hq ⟨by exact Nat.le_of_ble_eq_true rfl, by exact Nat.le_of_ble_eq_true rfl⟩ dL_recur_20
    · refine vx_catch (own := RL) (name := "java/lang/IllegalArgumentException") (E := "java/lang/IllegalArgumentException") hown [⟨0, 14, 17, 19⟩] ⟨0, 14, 21, 13⟩ [] htab (fun z hz => by
        rcases List.mem_cons.mp hz with rfl | hz
        · exact Or.inr ⟨by decide, _, hts _ (List.mem_cons_of_mem _ xl_RL_19), nc_at hN 0 rfl⟩
        exact absurd hz List.not_mem_nil) (by decide) (by decide) (hts _ (List.mem_cons_of_mem _ xl_RL_13)) (cast_at hSX 1 rfl) h1 h2 h3 ?_
      refine lv_astore (lv' := [(6, .ref q), (0, .ref (rA o 0)), (1, .int (J a0)), (2, .int (J a1)), (3, .int (J a2)), (4, .int (J a3)), (5, .ref (o + 630))]) hx hb dL_recur_21 hl (by decide) rfl (fun ls hl => ?_)
      refine lv_iconst (v := J 2) hx hb dL_recur_23 (by decide) ?_
      rw [hQf]
      exact l_ret hx hb hr hlocks (hG.gw hO) hq ⟨by exact Nat.le_of_ble_eq_true rfl, by exact Nat.le_of_ble_eq_true rfl⟩ dL_recur_24
  · rw [hQf]
    exact l_fin (tgt := 25) hx hb hr hlocks hK (hG.gw hO) (hA v M h) ⟨by exact Nat.le_of_ble_eq_true rfl, by exact Nat.le_of_ble_eq_true rfl⟩ dL_recur_12 dL_recur_13 dL_recur_14 (by decide) dL_recur_25 dL_recur_26
abbrev rm_L_cancel : Room := { frames := 9, cells := 1, slots := 6, locals := 166 }
theorem A_L_cancel (l : Launch) (hst : l.stackTraces = false) {D : va_G} {cy : Nat → ClassId} {o : Nat} {sK sV : Nat → Nat} {M : jT} {z : Int} {a0 a1 : Int} {QA : Int → jT → Prop} {XA : Nat → jT → Prop} {Q : Int → Int → jT → Prop} (h : wp_X10_cancel M 0 a0 a1 QA XA) (hA : ∀ v M1, QA v M1 → Q 0 (nzv v) M1) (hX : ∀ e M1, XA e M1 → (e = 1 ∧ Q 1 z M1)) : CoL l yL_cancel (wjW yL_cancel cL_cancel 5 (some .int) [(0, 10, 13, 19)]) rm_L_cancel D cy o sK sV M z [.ref (rA o 0), .int (J a0), .int (J a1), .ref (o + 630)] Q := by
  refine l_ofW (cc := cL_cancel) (maxL := 5) (ret := (some .int)) (hh := [(0, 10, 13, 19)]) (by decide) rfl (Nat.le_of_ble_eq_true rfl) ?_
  intro p e s m args below meth c hx hb hr hlocks htab hml hown hts hK hSX hN hO H locs hG ls hl Qf hQf
  have hown : s.vm.findClass RL = some m.cls := hown
  have hl : lv_has ls 5 [(0, .ref (rA o 0)), (1, .int (J a0)), (2, .int (J a1)), (3, .ref (o + 630))] := hl
  have ka0 : kd 0 = 10 := rfl
  refine lv_aload_n hx hb dL_cancel_0 rfl (lv_at hl 3 rfl) ?_
  refine lv_iconst (v := J 0) hx hb dL_cancel_1 (by decide) ?_
  refine lv_aload_n hx hb dL_cancel_2 rfl (lv_at hl 0 rfl) ?_
  refine lv_iload_n hx hb dL_cancel_3 rfl (lv_at hl 1 rfl) ?_
  refine lv_iload_n hx hb dL_cancel_4 rfl (lv_at hl 2 rfl) ?_
  refine j_contxi (vx_runV (As := [.int (J a0), .int (J a1)]) (rest := [.int (J 0), .ref (o + 630)]) ⟨hx, hb, hml, hown, hts⟩ (A_X10_cancel l hst ka0 h) (cwV 2 hts (gw_V ml_RL_93 i_X10_cancel s_X10_cancel n_RX10 k_X10_cancel) rfl rfl rfl (by decide +kernel) ⟨by exact Nat.le_of_ble_eq_true rfl, by exact Nat.le_of_ble_eq_true rfl⟩) (j_preV hK hSX hG (ci := 9) rfl ka0 (by decide)) rfl rfl hl.1 rfl (lv_room (Nat.le_of_ble_eq_true rfl)) dL_cancel_5 ⟨by exact Nat.le_of_ble_eq_true rfl, by exact Nat.le_of_ble_eq_true rfl⟩) hG (c2 := 1) (s2 := 6) ⟨by exact Nat.le_of_ble_eq_true rfl, by exact Nat.le_of_ble_eq_true rfl⟩ (fun x M h ce q H locs hG h1 h2 h3 => ?_) (fun v M h H locs hG => ?_)
  · rcases hX x M h with ⟨rfl, hq⟩
    · refine vx_catch (own := RL) (name := "java/lang/IndexOutOfBoundsException") (E := "java/lang/IndexOutOfBoundsException") hown [] ⟨0, 10, 13, 19⟩ [] htab (fun z hz => absurd hz List.not_mem_nil) (by decide) (by decide) (hts _ (List.mem_cons_of_mem _ xl_RL_19)) (cast_at hSX 0 rfl) h1 h2 h3 ?_
      refine lv_astore (lv' := [(4, .ref q), (0, .ref (rA o 0)), (1, .int (J a0)), (2, .int (J a1)), (3, .ref (o + 630))]) hx hb dL_cancel_13 hl (by decide) rfl (fun ls hl => ?_)
      refine lv_iconst (v := J 1) hx hb dL_cancel_15 (by decide) ?_
      rw [hQf]
      exact l_ret hx hb hr hlocks (hG.gw hO) hq ⟨by exact Nat.le_of_ble_eq_true rfl, by exact Nat.le_of_ble_eq_true rfl⟩ dL_cancel_16
  · rw [hQf]
    exact l_fin (tgt := 17) hx hb hr hlocks hK (hG.gw hO) (hA v M h) ⟨by exact Nat.le_of_ble_eq_true rfl, by exact Nat.le_of_ble_eq_true rfl⟩ dL_cancel_8 dL_cancel_9 dL_cancel_10 (by decide) dL_cancel_17 dL_cancel_18
abbrev rm_L_shift : Room := { frames := 9, cells := 1, slots := 6, locals := 168 }
theorem A_L_shift (l : Launch) (hst : l.stackTraces = false) {D : va_G} {cy : Nat → ClassId} {o : Nat} {sK sV : Nat → Nat} {M : jT} {z : Int} {a0 a1 a2 : Int} {QA : Int → jT → Prop} {XA : Nat → jT → Prop} {Q : Int → Int → jT → Prop} (h : wp_X10_shift M 0 a0 a1 a2 QA XA) (hA : ∀ v M1, QA v M1 → Q 0 (nzv v) M1) (hX : ∀ e M1, XA e M1 → (e = 1 ∧ Q 1 z M1) ∨ (e = 2 ∧ Q 2 z M1)) : CoL l yL_shift (wjW yL_shift cL_shift 6 (some .int) [(0, 12, 15, 19), (0, 12, 19, 13)]) rm_L_shift D cy o sK sV M z [.ref (rA o 0), .int (J a0), .int (J a1), .int (J a2), .ref (o + 630)] Q := by
  refine l_ofW (cc := cL_shift) (maxL := 6) (ret := (some .int)) (hh := [(0, 12, 15, 19), (0, 12, 19, 13)]) (by decide) rfl (Nat.le_of_ble_eq_true rfl) ?_
  intro p e s m args below meth c hx hb hr hlocks htab hml hown hts hK hSX hN hO H locs hG ls hl Qf hQf
  have hown : s.vm.findClass RL = some m.cls := hown
  have hl : lv_has ls 6 [(0, .ref (rA o 0)), (1, .int (J a0)), (2, .int (J a1)), (3, .int (J a2)), (4, .ref (o + 630))] := hl
  have ka0 : kd 0 = 10 := rfl
  refine lv_aload hx hb dL_shift_0 (lv_at hl 4 rfl) ?_
  refine lv_iconst (v := J 0) hx hb dL_shift_2 (by decide) ?_
  refine lv_aload_n hx hb dL_shift_3 rfl (lv_at hl 0 rfl) ?_
  refine lv_iload_n hx hb dL_shift_4 rfl (lv_at hl 1 rfl) ?_
  refine lv_iload_n hx hb dL_shift_5 rfl (lv_at hl 2 rfl) ?_
  refine lv_iload_n hx hb dL_shift_6 rfl (lv_at hl 3 rfl) ?_
  refine j_contxi (vx_runV (As := [.int (J a0), .int (J a1), .int (J a2)]) (rest := [.int (J 0), .ref (o + 630)]) ⟨hx, hb, hml, hown, hts⟩ (A_X10_shift l hst ka0 h) (cwV 3 hts (gw_V ml_RL_96 i_X10_shift s_X10_shift n_RX10 k_X10_shift) rfl rfl rfl (by decide +kernel) ⟨by exact Nat.le_of_ble_eq_true rfl, by exact Nat.le_of_ble_eq_true rfl⟩) (j_preV hK hSX hG (ci := 9) rfl ka0 (by decide)) rfl rfl hl.1 rfl (lv_room (Nat.le_of_ble_eq_true rfl)) dL_shift_7 ⟨by exact Nat.le_of_ble_eq_true rfl, by exact Nat.le_of_ble_eq_true rfl⟩) hG (c2 := 1) (s2 := 6) ⟨by exact Nat.le_of_ble_eq_true rfl, by exact Nat.le_of_ble_eq_true rfl⟩ (fun x M h ce q H locs hG h1 h2 h3 => ?_) (fun v M h H locs hG => ?_)
  · rcases hX x M h with ⟨rfl, hq⟩ | ⟨rfl, hq⟩
    · refine vx_catch (own := RL) (name := "java/lang/IndexOutOfBoundsException") (E := "java/lang/IndexOutOfBoundsException") hown [] ⟨0, 12, 15, 19⟩ [⟨0, 12, 19, 13⟩] htab (fun z hz => absurd hz List.not_mem_nil) (by decide) (by decide) (hts _ (List.mem_cons_of_mem _ xl_RL_19)) (cast_at hSX 0 rfl) h1 h2 h3 ?_
      refine lv_astore (lv' := [(5, .ref q), (0, .ref (rA o 0)), (1, .int (J a0)), (2, .int (J a1)), (3, .int (J a2)), (4, .ref (o + 630))]) hx hb dL_shift_15 hl (by decide) rfl (fun ls hl => ?_)
      refine lv_iconst (v := J 1) hx hb dL_shift_17 (by decide) ?_
      rw [hQf]
      exact l_ret hx hb hr hlocks (hG.gw hO) hq ⟨by exact Nat.le_of_ble_eq_true rfl, by exact Nat.le_of_ble_eq_true rfl⟩ dL_shift_18
    · refine vx_catch (own := RL) (name := "java/lang/IllegalArgumentException") (E := "java/lang/IllegalArgumentException") hown [⟨0, 12, 15, 19⟩] ⟨0, 12, 19, 13⟩ [] htab (fun z hz => by
        rcases List.mem_cons.mp hz with rfl | hz
        · exact Or.inr ⟨by decide, _, hts _ (List.mem_cons_of_mem _ xl_RL_19), nc_at hN 0 rfl⟩
        exact absurd hz List.not_mem_nil) (by decide) (by decide) (hts _ (List.mem_cons_of_mem _ xl_RL_13)) (cast_at hSX 1 rfl) h1 h2 h3 ?_
      refine lv_astore (lv' := [(5, .ref q), (0, .ref (rA o 0)), (1, .int (J a0)), (2, .int (J a1)), (3, .int (J a2)), (4, .ref (o + 630))]) hx hb dL_shift_19 hl (by decide) rfl (fun ls hl => ?_)
      refine lv_iconst (v := J 2) hx hb dL_shift_21 (by decide) ?_
      rw [hQf]
      exact l_ret hx hb hr hlocks (hG.gw hO) hq ⟨by exact Nat.le_of_ble_eq_true rfl, by exact Nat.le_of_ble_eq_true rfl⟩ dL_shift_22
  · rw [hQf]
    exact l_fin (tgt := 23) hx hb hr hlocks hK (hG.gw hO) (hA v M h) ⟨by exact Nat.le_of_ble_eq_true rfl, by exact Nat.le_of_ble_eq_true rfl⟩ dL_shift_10 dL_shift_11 dL_shift_12 (by decide) dL_shift_23 dL_shift_24
abbrev rm_L_meeting : Room := { frames := 9, cells := 1, slots := 6, locals := 154 }
theorem A_L_meeting (l : Launch) (hst : l.stackTraces = false) {D : va_G} {cy : Nat → ClassId} {o : Nat} {sK sV : Nat → Nat} {M : jT} {z : Int} {a0 a1 : Int} {QA : Int → jT → Prop} {XA : Nat → jT → Prop} {Q : Int → Int → jT → Prop} (h : wp_X10_meeting M 0 a0 a1 QA XA) (hA : ∀ v M1, QA v M1 → Q 0 (nzv v) M1) (hX : ∀ e M1, XA e M1 → (e = 1 ∧ Q 1 z M1) ∨ (e = 2 ∧ Q 2 z M1)) : CoL l yL_meeting (wjW yL_meeting cL_meeting 5 (some .int) [(0, 10, 13, 19), (0, 10, 17, 13)]) rm_L_meeting D cy o sK sV M z [.ref (rA o 0), .int (J a0), .int (J a1), .ref (o + 630)] Q := by
  refine l_ofW (cc := cL_meeting) (maxL := 5) (ret := (some .int)) (hh := [(0, 10, 13, 19), (0, 10, 17, 13)]) (by decide) rfl (Nat.le_of_ble_eq_true rfl) ?_
  intro p e s m args below meth c hx hb hr hlocks htab hml hown hts hK hSX hN hO H locs hG ls hl Qf hQf
  have hown : s.vm.findClass RL = some m.cls := hown
  have hl : lv_has ls 5 [(0, .ref (rA o 0)), (1, .int (J a0)), (2, .int (J a1)), (3, .ref (o + 630))] := hl
  have ka0 : kd 0 = 10 := rfl
  refine lv_aload_n hx hb dL_meeting_0 rfl (lv_at hl 3 rfl) ?_
  refine lv_iconst (v := J 0) hx hb dL_meeting_1 (by decide) ?_
  refine lv_aload_n hx hb dL_meeting_2 rfl (lv_at hl 0 rfl) ?_
  refine lv_iload_n hx hb dL_meeting_3 rfl (lv_at hl 1 rfl) ?_
  refine lv_iload_n hx hb dL_meeting_4 rfl (lv_at hl 2 rfl) ?_
  refine j_contxi (vx_runV (As := [.int (J a0), .int (J a1)]) (rest := [.int (J 0), .ref (o + 630)]) ⟨hx, hb, hml, hown, hts⟩ (A_X10_meeting l hst ka0 h) (cwV 2 hts (gw_V ml_RL_99 i_X10_meeting s_X10_meeting n_RX10 k_X10_meeting) rfl rfl rfl (by decide +kernel) ⟨by exact Nat.le_of_ble_eq_true rfl, by exact Nat.le_of_ble_eq_true rfl⟩) (j_preV hK hSX hG (ci := 9) rfl ka0 (by decide)) rfl rfl hl.1 rfl (lv_room (Nat.le_of_ble_eq_true rfl)) dL_meeting_5 ⟨by exact Nat.le_of_ble_eq_true rfl, by exact Nat.le_of_ble_eq_true rfl⟩) hG (c2 := 1) (s2 := 6) ⟨by exact Nat.le_of_ble_eq_true rfl, by exact Nat.le_of_ble_eq_true rfl⟩ (fun x M h ce q H locs hG h1 h2 h3 => ?_) (fun v M h H locs hG => ?_)
  · rcases hX x M h with ⟨rfl, hq⟩ | ⟨rfl, hq⟩
    · refine vx_catch (own := RL) (name := "java/lang/IndexOutOfBoundsException") (E := "java/lang/IndexOutOfBoundsException") hown [] ⟨0, 10, 13, 19⟩ [⟨0, 10, 17, 13⟩] htab (fun z hz => absurd hz List.not_mem_nil) (by decide) (by decide) (hts _ (List.mem_cons_of_mem _ xl_RL_19)) (cast_at hSX 0 rfl) h1 h2 h3 ?_
      refine lv_astore (lv' := [(4, .ref q), (0, .ref (rA o 0)), (1, .int (J a0)), (2, .int (J a1)), (3, .ref (o + 630))]) hx hb dL_meeting_13 hl (by decide) rfl (fun ls hl => ?_)
      refine lv_iconst (v := J 1) hx hb dL_meeting_15 (by decide) ?_
      rw [hQf]
      exact l_ret hx hb hr hlocks (hG.gw hO) hq ⟨by exact Nat.le_of_ble_eq_true rfl, by exact Nat.le_of_ble_eq_true rfl⟩ dL_meeting_16
    · refine vx_catch (own := RL) (name := "java/lang/IllegalArgumentException") (E := "java/lang/IllegalArgumentException") hown [⟨0, 10, 13, 19⟩] ⟨0, 10, 17, 13⟩ [] htab (fun z hz => by
        rcases List.mem_cons.mp hz with rfl | hz
        · exact Or.inr ⟨by decide, _, hts _ (List.mem_cons_of_mem _ xl_RL_19), nc_at hN 0 rfl⟩
        exact absurd hz List.not_mem_nil) (by decide) (by decide) (hts _ (List.mem_cons_of_mem _ xl_RL_13)) (cast_at hSX 1 rfl) h1 h2 h3 ?_
      refine lv_astore (lv' := [(4, .ref q), (0, .ref (rA o 0)), (1, .int (J a0)), (2, .int (J a1)), (3, .ref (o + 630))]) hx hb dL_meeting_17 hl (by decide) rfl (fun ls hl => ?_)
      refine lv_iconst (v := J 2) hx hb dL_meeting_19 (by decide) ?_
      rw [hQf]
      exact l_ret hx hb hr hlocks (hG.gw hO) hq ⟨by exact Nat.le_of_ble_eq_true rfl, by exact Nat.le_of_ble_eq_true rfl⟩ dL_meeting_20
  · rw [hQf]
    exact l_fin (tgt := 21) hx hb hr hlocks hK (hG.gw hO) (hA v M h) ⟨by exact Nat.le_of_ble_eq_true rfl, by exact Nat.le_of_ble_eq_true rfl⟩ dL_meeting_8 dL_meeting_9 dL_meeting_10 (by decide) dL_meeting_21 dL_meeting_22
abbrev rm_L_occurrence : Room := { frames := 10, cells := 1, slots := 6, locals := 180 }
theorem A_L_occurrence (l : Launch) (hst : l.stackTraces = false) {D : va_G} {cy : Nat → ClassId} {o : Nat} {sK sV : Nat → Nat} {M : jT} {z : Int} {a0 a1 a2 : Int} {QA : Int → jT → Prop} {XA : Nat → jT → Prop} {Q : Int → Int → jT → Prop} (h : wp_X10_occurrence M 0 a0 a1 a2 QA XA) (hA : ∀ v M1, QA v M1 → Q 0 (nzv v) M1) (hX : ∀ e M1, XA e M1 → (e = 1 ∧ Q 1 z M1) ∨ (e = 2 ∧ Q 2 z M1) ∨ (e = 4 ∧ Q 3 z M1)) : CoL l yL_occurrence (wjW yL_occurrence cL_occurrence 6 (some .int) [(0, 12, 15, 19), (0, 12, 19, 13), (0, 12, 23, 46)]) rm_L_occurrence D cy o sK sV M z [.ref (rA o 0), .int (J a0), .int (J a1), .int (J a2), .ref (o + 630)] Q := by
  refine l_ofW (cc := cL_occurrence) (maxL := 6) (ret := (some .int)) (hh := [(0, 12, 15, 19), (0, 12, 19, 13), (0, 12, 23, 46)]) (by decide) rfl (Nat.le_of_ble_eq_true rfl) ?_
  intro p e s m args below meth c hx hb hr hlocks htab hml hown hts hK hSX hN hO H locs hG ls hl Qf hQf
  have hown : s.vm.findClass RL = some m.cls := hown
  have hl : lv_has ls 6 [(0, .ref (rA o 0)), (1, .int (J a0)), (2, .int (J a1)), (3, .int (J a2)), (4, .ref (o + 630))] := hl
  have ka0 : kd 0 = 10 := rfl
  refine lv_aload hx hb dL_occurrence_0 (lv_at hl 4 rfl) ?_
  refine lv_iconst (v := J 0) hx hb dL_occurrence_2 (by decide) ?_
  refine lv_aload_n hx hb dL_occurrence_3 rfl (lv_at hl 0 rfl) ?_
  refine lv_iload_n hx hb dL_occurrence_4 rfl (lv_at hl 1 rfl) ?_
  refine lv_iload_n hx hb dL_occurrence_5 rfl (lv_at hl 2 rfl) ?_
  refine lv_iload_n hx hb dL_occurrence_6 rfl (lv_at hl 3 rfl) ?_
  refine j_contxi (vx_runV (As := [.int (J a0), .int (J a1), .int (J a2)]) (rest := [.int (J 0), .ref (o + 630)]) ⟨hx, hb, hml, hown, hts⟩ (A_X10_occurrence l hst ka0 h) (cwV 3 hts (gw_V ml_RL_102 i_X10_occurrence s_X10_occurrence n_RX10 k_X10_occurrence) rfl rfl rfl (by decide +kernel) ⟨by exact Nat.le_of_ble_eq_true rfl, by exact Nat.le_of_ble_eq_true rfl⟩) (j_preV hK hSX hG (ci := 9) rfl ka0 (by decide)) rfl rfl hl.1 rfl (lv_room (Nat.le_of_ble_eq_true rfl)) dL_occurrence_7 ⟨by exact Nat.le_of_ble_eq_true rfl, by exact Nat.le_of_ble_eq_true rfl⟩) hG (c2 := 1) (s2 := 6) ⟨by exact Nat.le_of_ble_eq_true rfl, by exact Nat.le_of_ble_eq_true rfl⟩ (fun x M h ce q H locs hG h1 h2 h3 => ?_) (fun v M h H locs hG => ?_)
  · rcases hX x M h with ⟨rfl, hq⟩ | ⟨rfl, hq⟩ | ⟨rfl, hq⟩
    · refine vx_catch (own := RL) (name := "java/lang/IndexOutOfBoundsException") (E := "java/lang/IndexOutOfBoundsException") hown [] ⟨0, 12, 15, 19⟩ [⟨0, 12, 19, 13⟩, ⟨0, 12, 23, 46⟩] htab (fun z hz => absurd hz List.not_mem_nil) (by decide) (by decide) (hts _ (List.mem_cons_of_mem _ xl_RL_19)) (cast_at hSX 0 rfl) h1 h2 h3 ?_
      refine lv_astore (lv' := [(5, .ref q), (0, .ref (rA o 0)), (1, .int (J a0)), (2, .int (J a1)), (3, .int (J a2)), (4, .ref (o + 630))]) hx hb dL_occurrence_15 hl (by decide) rfl (fun ls hl => ?_)
      refine lv_iconst (v := J 1) hx hb dL_occurrence_17 (by decide) ?_
      rw [hQf]
      exact l_ret hx hb hr hlocks (hG.gw hO) hq ⟨by exact Nat.le_of_ble_eq_true rfl, by exact Nat.le_of_ble_eq_true rfl⟩ dL_occurrence_18
    · refine vx_catch (own := RL) (name := "java/lang/IllegalArgumentException") (E := "java/lang/IllegalArgumentException") hown [⟨0, 12, 15, 19⟩] ⟨0, 12, 19, 13⟩ [⟨0, 12, 23, 46⟩] htab (fun z hz => by
        rcases List.mem_cons.mp hz with rfl | hz
        · exact Or.inr ⟨by decide, _, hts _ (List.mem_cons_of_mem _ xl_RL_19), nc_at hN 0 rfl⟩
        exact absurd hz List.not_mem_nil) (by decide) (by decide) (hts _ (List.mem_cons_of_mem _ xl_RL_13)) (cast_at hSX 1 rfl) h1 h2 h3 ?_
      refine lv_astore (lv' := [(5, .ref q), (0, .ref (rA o 0)), (1, .int (J a0)), (2, .int (J a1)), (3, .int (J a2)), (4, .ref (o + 630))]) hx hb dL_occurrence_19 hl (by decide) rfl (fun ls hl => ?_)
      refine lv_iconst (v := J 2) hx hb dL_occurrence_21 (by decide) ?_
      rw [hQf]
      exact l_ret hx hb hr hlocks (hG.gw hO) hq ⟨by exact Nat.le_of_ble_eq_true rfl, by exact Nat.le_of_ble_eq_true rfl⟩ dL_occurrence_22
    · refine vx_catch (own := RL) (name := "java/util/NoSuchElementException") (E := "java/util/NoSuchElementException") hown [⟨0, 12, 15, 19⟩, ⟨0, 12, 19, 13⟩] ⟨0, 12, 23, 46⟩ [] htab (fun z hz => by
        rcases List.mem_cons.mp hz with rfl | hz
        · exact Or.inr ⟨by decide, _, hts _ (List.mem_cons_of_mem _ xl_RL_19), nc_at hN 3 rfl⟩
        rcases List.mem_cons.mp hz with rfl | hz
        · exact Or.inr ⟨by decide, _, hts _ (List.mem_cons_of_mem _ xl_RL_13), nc_at hN 4 rfl⟩
        exact absurd hz List.not_mem_nil) (by decide) (by decide) (hts _ (List.mem_cons_of_mem _ xl_RL_46)) (cast_at hSX 3 rfl) h1 h2 h3 ?_
      refine lv_astore (lv' := [(5, .ref q), (0, .ref (rA o 0)), (1, .int (J a0)), (2, .int (J a1)), (3, .int (J a2)), (4, .ref (o + 630))]) hx hb dL_occurrence_23 hl (by decide) rfl (fun ls hl => ?_)
      refine lv_iconst (v := J 3) hx hb dL_occurrence_25 (by decide) ?_
      rw [hQf]
      exact l_ret hx hb hr hlocks (hG.gw hO) hq ⟨by exact Nat.le_of_ble_eq_true rfl, by exact Nat.le_of_ble_eq_true rfl⟩ dL_occurrence_26
  · rw [hQf]
    exact l_fin (tgt := 27) hx hb hr hlocks hK (hG.gw hO) (hA v M h) ⟨by exact Nat.le_of_ble_eq_true rfl, by exact Nat.le_of_ble_eq_true rfl⟩ dL_occurrence_10 dL_occurrence_11 dL_occurrence_12 (by decide) dL_occurrence_27 dL_occurrence_28
abbrev rm_L_next : Room := { frames := 9, cells := 1, slots := 6, locals := 157 }
theorem A_L_next (l : Launch) (hst : l.stackTraces = false) {D : va_G} {cy : Nat → ClassId} {o : Nat} {sK sV : Nat → Nat} {M : jT} {z : Int} {a0 a1 : Int} {QA : Int → jT → Prop} {XA : Nat → jT → Prop} {Q : Int → Int → jT → Prop} (h : wp_X10_next M 0 a0 a1 QA XA) (hA : ∀ v M1, QA v M1 → Q 0 (nzv v) M1) (hX : ∀ e M1, XA e M1 → (e = 1 ∧ Q 1 z M1) ∨ (e = 2 ∧ Q 2 z M1) ∨ (e = 4 ∧ Q 3 z M1)) : CoL l yL_next (wjW yL_next cL_next 5 (some .int) [(0, 10, 13, 19), (0, 10, 17, 13), (0, 10, 21, 46)]) rm_L_next D cy o sK sV M z [.ref (rA o 0), .int (J a0), .int (J a1), .ref (o + 630)] Q := by
  refine l_ofW (cc := cL_next) (maxL := 5) (ret := (some .int)) (hh := [(0, 10, 13, 19), (0, 10, 17, 13), (0, 10, 21, 46)]) (by decide) rfl (Nat.le_of_ble_eq_true rfl) ?_
  intro p e s m args below meth c hx hb hr hlocks htab hml hown hts hK hSX hN hO H locs hG ls hl Qf hQf
  have hown : s.vm.findClass RL = some m.cls := hown
  have hl : lv_has ls 5 [(0, .ref (rA o 0)), (1, .int (J a0)), (2, .int (J a1)), (3, .ref (o + 630))] := hl
  have ka0 : kd 0 = 10 := rfl
  refine lv_aload_n hx hb dL_next_0 rfl (lv_at hl 3 rfl) ?_
  refine lv_iconst (v := J 0) hx hb dL_next_1 (by decide) ?_
  refine lv_aload_n hx hb dL_next_2 rfl (lv_at hl 0 rfl) ?_
  refine lv_iload_n hx hb dL_next_3 rfl (lv_at hl 1 rfl) ?_
  refine lv_iload_n hx hb dL_next_4 rfl (lv_at hl 2 rfl) ?_
  refine j_contxi (vx_runV (As := [.int (J a0), .int (J a1)]) (rest := [.int (J 0), .ref (o + 630)]) ⟨hx, hb, hml, hown, hts⟩ (A_X10_next l hst ka0 h) (cwV 2 hts (gw_V ml_RL_105 i_X10_next s_X10_next n_RX10 k_X10_next) rfl rfl rfl (by decide +kernel) ⟨by exact Nat.le_of_ble_eq_true rfl, by exact Nat.le_of_ble_eq_true rfl⟩) (j_preV hK hSX hG (ci := 9) rfl ka0 (by decide)) rfl rfl hl.1 rfl (lv_room (Nat.le_of_ble_eq_true rfl)) dL_next_5 ⟨by exact Nat.le_of_ble_eq_true rfl, by exact Nat.le_of_ble_eq_true rfl⟩) hG (c2 := 1) (s2 := 6) ⟨by exact Nat.le_of_ble_eq_true rfl, by exact Nat.le_of_ble_eq_true rfl⟩ (fun x M h ce q H locs hG h1 h2 h3 => ?_) (fun v M h H locs hG => ?_)
  · rcases hX x M h with ⟨rfl, hq⟩ | ⟨rfl, hq⟩ | ⟨rfl, hq⟩
    · refine vx_catch (own := RL) (name := "java/lang/IndexOutOfBoundsException") (E := "java/lang/IndexOutOfBoundsException") hown [] ⟨0, 10, 13, 19⟩ [⟨0, 10, 17, 13⟩, ⟨0, 10, 21, 46⟩] htab (fun z hz => absurd hz List.not_mem_nil) (by decide) (by decide) (hts _ (List.mem_cons_of_mem _ xl_RL_19)) (cast_at hSX 0 rfl) h1 h2 h3 ?_
      refine lv_astore (lv' := [(4, .ref q), (0, .ref (rA o 0)), (1, .int (J a0)), (2, .int (J a1)), (3, .ref (o + 630))]) hx hb dL_next_13 hl (by decide) rfl (fun ls hl => ?_)
      refine lv_iconst (v := J 1) hx hb dL_next_15 (by decide) ?_
      rw [hQf]
      exact l_ret hx hb hr hlocks (hG.gw hO) hq ⟨by exact Nat.le_of_ble_eq_true rfl, by exact Nat.le_of_ble_eq_true rfl⟩ dL_next_16
    · refine vx_catch (own := RL) (name := "java/lang/IllegalArgumentException") (E := "java/lang/IllegalArgumentException") hown [⟨0, 10, 13, 19⟩] ⟨0, 10, 17, 13⟩ [⟨0, 10, 21, 46⟩] htab (fun z hz => by
        rcases List.mem_cons.mp hz with rfl | hz
        · exact Or.inr ⟨by decide, _, hts _ (List.mem_cons_of_mem _ xl_RL_19), nc_at hN 0 rfl⟩
        exact absurd hz List.not_mem_nil) (by decide) (by decide) (hts _ (List.mem_cons_of_mem _ xl_RL_13)) (cast_at hSX 1 rfl) h1 h2 h3 ?_
      refine lv_astore (lv' := [(4, .ref q), (0, .ref (rA o 0)), (1, .int (J a0)), (2, .int (J a1)), (3, .ref (o + 630))]) hx hb dL_next_17 hl (by decide) rfl (fun ls hl => ?_)
      refine lv_iconst (v := J 2) hx hb dL_next_19 (by decide) ?_
      rw [hQf]
      exact l_ret hx hb hr hlocks (hG.gw hO) hq ⟨by exact Nat.le_of_ble_eq_true rfl, by exact Nat.le_of_ble_eq_true rfl⟩ dL_next_20
    · refine vx_catch (own := RL) (name := "java/util/NoSuchElementException") (E := "java/util/NoSuchElementException") hown [⟨0, 10, 13, 19⟩, ⟨0, 10, 17, 13⟩] ⟨0, 10, 21, 46⟩ [] htab (fun z hz => by
        rcases List.mem_cons.mp hz with rfl | hz
        · exact Or.inr ⟨by decide, _, hts _ (List.mem_cons_of_mem _ xl_RL_19), nc_at hN 3 rfl⟩
        rcases List.mem_cons.mp hz with rfl | hz
        · exact Or.inr ⟨by decide, _, hts _ (List.mem_cons_of_mem _ xl_RL_13), nc_at hN 4 rfl⟩
        exact absurd hz List.not_mem_nil) (by decide) (by decide) (hts _ (List.mem_cons_of_mem _ xl_RL_46)) (cast_at hSX 3 rfl) h1 h2 h3 ?_
      refine lv_astore (lv' := [(4, .ref q), (0, .ref (rA o 0)), (1, .int (J a0)), (2, .int (J a1)), (3, .ref (o + 630))]) hx hb dL_next_21 hl (by decide) rfl (fun ls hl => ?_)
      refine lv_iconst (v := J 3) hx hb dL_next_23 (by decide) ?_
      rw [hQf]
      exact l_ret hx hb hr hlocks (hG.gw hO) hq ⟨by exact Nat.le_of_ble_eq_true rfl, by exact Nat.le_of_ble_eq_true rfl⟩ dL_next_24
  · rw [hQf]
    exact l_fin (tgt := 25) hx hb hr hlocks hK (hG.gw hO) (hA v M h) ⟨by exact Nat.le_of_ble_eq_true rfl, by exact Nat.le_of_ble_eq_true rfl⟩ dL_next_8 dL_next_9 dL_next_10 (by decide) dL_next_25 dL_next_26
abbrev rm_L_clash : Room := { frames := 9, cells := 1, slots := 6, locals := 156 }
theorem A_L_clash (l : Launch) (hst : l.stackTraces = false) {D : va_G} {cy : Nat → ClassId} {o : Nat} {sK sV : Nat → Nat} {M : jT} {z : Int} {a0 a1 : Int} {QA : Int → jT → Prop} {XA : Nat → jT → Prop} {Q : Int → Int → jT → Prop} (h : wp_X10_clash M 0 a0 a1 QA XA) (hA : ∀ v M1, QA v M1 → Q 0 (nzv v) M1) (hX : ∀ e M1, XA e M1 → (e = 1 ∧ Q 1 z M1)) : CoL l yL_clash (wjW yL_clash cL_clash 5 (some .int) [(0, 10, 13, 19)]) rm_L_clash D cy o sK sV M z [.ref (rA o 0), .int (J a0), .int (J a1), .ref (o + 630)] Q := by
  refine l_ofW (cc := cL_clash) (maxL := 5) (ret := (some .int)) (hh := [(0, 10, 13, 19)]) (by decide) rfl (Nat.le_of_ble_eq_true rfl) ?_
  intro p e s m args below meth c hx hb hr hlocks htab hml hown hts hK hSX hN hO H locs hG ls hl Qf hQf
  have hown : s.vm.findClass RL = some m.cls := hown
  have hl : lv_has ls 5 [(0, .ref (rA o 0)), (1, .int (J a0)), (2, .int (J a1)), (3, .ref (o + 630))] := hl
  have ka0 : kd 0 = 10 := rfl
  refine lv_aload_n hx hb dL_clash_0 rfl (lv_at hl 3 rfl) ?_
  refine lv_iconst (v := J 0) hx hb dL_clash_1 (by decide) ?_
  refine lv_aload_n hx hb dL_clash_2 rfl (lv_at hl 0 rfl) ?_
  refine lv_iload_n hx hb dL_clash_3 rfl (lv_at hl 1 rfl) ?_
  refine lv_iload_n hx hb dL_clash_4 rfl (lv_at hl 2 rfl) ?_
  refine j_contxi (vx_runV (As := [.int (J a0), .int (J a1)]) (rest := [.int (J 0), .ref (o + 630)]) ⟨hx, hb, hml, hown, hts⟩ (A_X10_clash l hst ka0 h) (cwV 2 hts (gw_V ml_RL_108 i_X10_clash s_X10_clash n_RX10 k_X10_clash) rfl rfl rfl (by decide +kernel) ⟨by exact Nat.le_of_ble_eq_true rfl, by exact Nat.le_of_ble_eq_true rfl⟩) (j_preV hK hSX hG (ci := 9) rfl ka0 (by decide)) rfl rfl hl.1 rfl (lv_room (Nat.le_of_ble_eq_true rfl)) dL_clash_5 ⟨by exact Nat.le_of_ble_eq_true rfl, by exact Nat.le_of_ble_eq_true rfl⟩) hG (c2 := 1) (s2 := 6) ⟨by exact Nat.le_of_ble_eq_true rfl, by exact Nat.le_of_ble_eq_true rfl⟩ (fun x M h ce q H locs hG h1 h2 h3 => ?_) (fun v M h H locs hG => ?_)
  · rcases hX x M h with ⟨rfl, hq⟩
    · refine vx_catch (own := RL) (name := "java/lang/IndexOutOfBoundsException") (E := "java/lang/IndexOutOfBoundsException") hown [] ⟨0, 10, 13, 19⟩ [] htab (fun z hz => absurd hz List.not_mem_nil) (by decide) (by decide) (hts _ (List.mem_cons_of_mem _ xl_RL_19)) (cast_at hSX 0 rfl) h1 h2 h3 ?_
      refine lv_astore (lv' := [(4, .ref q), (0, .ref (rA o 0)), (1, .int (J a0)), (2, .int (J a1)), (3, .ref (o + 630))]) hx hb dL_clash_13 hl (by decide) rfl (fun ls hl => ?_)
      refine lv_iconst (v := J 1) hx hb dL_clash_15 (by decide) ?_
      rw [hQf]
      exact l_ret hx hb hr hlocks (hG.gw hO) hq ⟨by exact Nat.le_of_ble_eq_true rfl, by exact Nat.le_of_ble_eq_true rfl⟩ dL_clash_16
  · rw [hQf]
    exact l_fin (tgt := 17) hx hb hr hlocks hK (hG.gw hO) (hA v M h) ⟨by exact Nat.le_of_ble_eq_true rfl, by exact Nat.le_of_ble_eq_true rfl⟩ dL_clash_8 dL_clash_9 dL_clash_10 (by decide) dL_clash_17 dL_clash_18
abbrev rm_L_agenda : Room := { frames := 8, cells := 1, slots := 6, locals := 173 }
theorem A_L_agenda (l : Launch) (hst : l.stackTraces = false) {D : va_G} {cy : Nat → ClassId} {o : Nat} {sK sV : Nat → Nat} {M : jT} {z : Int} {a0 a1 : Int} {QA : Int → jT → Prop} {XA : Nat → jT → Prop} {Q : Int → Int → jT → Prop} (h : wp_X10_agenda M 0 a0 a1 QA XA) (hA : ∀ v M1, QA v M1 → Q 0 (nzv v) M1) (hX : ∀ e M1, XA e M1 → (e = 2 ∧ Q 1 z M1) ∨ (e = 4 ∧ Q 2 z M1)) : CoL l yL_agenda (wjW yL_agenda cL_agenda 5 (some .int) [(0, 10, 13, 13), (0, 10, 17, 46)]) rm_L_agenda D cy o sK sV M z [.ref (rA o 0), .int (J a0), .int (J a1), .ref (o + 630)] Q := by
  refine l_ofW (cc := cL_agenda) (maxL := 5) (ret := (some .int)) (hh := [(0, 10, 13, 13), (0, 10, 17, 46)]) (by decide) rfl (Nat.le_of_ble_eq_true rfl) ?_
  intro p e s m args below meth c hx hb hr hlocks htab hml hown hts hK hSX hN hO H locs hG ls hl Qf hQf
  have hown : s.vm.findClass RL = some m.cls := hown
  have hl : lv_has ls 5 [(0, .ref (rA o 0)), (1, .int (J a0)), (2, .int (J a1)), (3, .ref (o + 630))] := hl
  have ka0 : kd 0 = 10 := rfl
  refine lv_aload_n hx hb dL_agenda_0 rfl (lv_at hl 3 rfl) ?_
  refine lv_iconst (v := J 0) hx hb dL_agenda_1 (by decide) ?_
  refine lv_aload_n hx hb dL_agenda_2 rfl (lv_at hl 0 rfl) ?_
  refine lv_iload_n hx hb dL_agenda_3 rfl (lv_at hl 1 rfl) ?_
  refine lv_iload_n hx hb dL_agenda_4 rfl (lv_at hl 2 rfl) ?_
  refine j_contxi (vx_runV (As := [.int (J a0), .int (J a1)]) (rest := [.int (J 0), .ref (o + 630)]) ⟨hx, hb, hml, hown, hts⟩ (A_X10_agenda l hst ka0 h) (cwV 2 hts (gw_V ml_RL_111 i_X10_agenda s_X10_agenda n_RX10 k_X10_agenda) rfl rfl rfl (by decide +kernel) ⟨by exact Nat.le_of_ble_eq_true rfl, by exact Nat.le_of_ble_eq_true rfl⟩) (j_preV hK hSX hG (ci := 9) rfl ka0 (by decide)) rfl rfl hl.1 rfl (lv_room (Nat.le_of_ble_eq_true rfl)) dL_agenda_5 ⟨by exact Nat.le_of_ble_eq_true rfl, by exact Nat.le_of_ble_eq_true rfl⟩) hG (c2 := 1) (s2 := 6) ⟨by exact Nat.le_of_ble_eq_true rfl, by exact Nat.le_of_ble_eq_true rfl⟩ (fun x M h ce q H locs hG h1 h2 h3 => ?_) (fun v M h H locs hG => ?_)
  · rcases hX x M h with ⟨rfl, hq⟩ | ⟨rfl, hq⟩
    · refine vx_catch (own := RL) (name := "java/lang/IllegalArgumentException") (E := "java/lang/IllegalArgumentException") hown [] ⟨0, 10, 13, 13⟩ [⟨0, 10, 17, 46⟩] htab (fun z hz => absurd hz List.not_mem_nil) (by decide) (by decide) (hts _ (List.mem_cons_of_mem _ xl_RL_13)) (cast_at hSX 1 rfl) h1 h2 h3 ?_
      refine lv_astore (lv' := [(4, .ref q), (0, .ref (rA o 0)), (1, .int (J a0)), (2, .int (J a1)), (3, .ref (o + 630))]) hx hb dL_agenda_13 hl (by decide) rfl (fun ls hl => ?_)
      refine lv_iconst (v := J 1) hx hb dL_agenda_15 (by decide) ?_
      rw [hQf]
      exact l_ret hx hb hr hlocks (hG.gw hO) hq ⟨by exact Nat.le_of_ble_eq_true rfl, by exact Nat.le_of_ble_eq_true rfl⟩ dL_agenda_16
    · refine vx_catch (own := RL) (name := "java/util/NoSuchElementException") (E := "java/util/NoSuchElementException") hown [⟨0, 10, 13, 13⟩] ⟨0, 10, 17, 46⟩ [] htab (fun z hz => by
        rcases List.mem_cons.mp hz with rfl | hz
        · exact Or.inr ⟨by decide, _, hts _ (List.mem_cons_of_mem _ xl_RL_13), nc_at hN 4 rfl⟩
        exact absurd hz List.not_mem_nil) (by decide) (by decide) (hts _ (List.mem_cons_of_mem _ xl_RL_46)) (cast_at hSX 3 rfl) h1 h2 h3 ?_
      refine lv_astore (lv' := [(4, .ref q), (0, .ref (rA o 0)), (1, .int (J a0)), (2, .int (J a1)), (3, .ref (o + 630))]) hx hb dL_agenda_17 hl (by decide) rfl (fun ls hl => ?_)
      refine lv_iconst (v := J 2) hx hb dL_agenda_19 (by decide) ?_
      rw [hQf]
      exact l_ret hx hb hr hlocks (hG.gw hO) hq ⟨by exact Nat.le_of_ble_eq_true rfl, by exact Nat.le_of_ble_eq_true rfl⟩ dL_agenda_20
  · rw [hQf]
    exact l_fin (tgt := 21) hx hb hr hlocks hK (hG.gw hO) (hA v M h) ⟨by exact Nat.le_of_ble_eq_true rfl, by exact Nat.le_of_ble_eq_true rfl⟩ dL_agenda_8 dL_agenda_9 dL_agenda_10 (by decide) dL_agenda_21 dL_agenda_22
abbrev rm_L_drift : Room := { frames := 9, cells := 1, slots := 6, locals := 159 }
theorem A_L_drift (l : Launch) (hst : l.stackTraces = false) {D : va_G} {cy : Nat → ClassId} {o : Nat} {sK sV : Nat → Nat} {M : jT} {z : Int} {a0 a1 : Int} {QA : Int → jT → Prop} {XA : Nat → jT → Prop} {Q : Int → Int → jT → Prop} (h : wp_X10_drift M 0 a0 a1 QA XA) (hA : ∀ v M1, QA v M1 → Q 0 (nzv v) M1) (hX : ∀ e M1, XA e M1 → (e = 1 ∧ Q 1 z M1)) : CoL l yL_drift (wjW yL_drift cL_drift 5 (some .int) [(0, 10, 13, 19)]) rm_L_drift D cy o sK sV M z [.ref (rA o 0), .int (J a0), .int (J a1), .ref (o + 630)] Q := by
  refine l_ofW (cc := cL_drift) (maxL := 5) (ret := (some .int)) (hh := [(0, 10, 13, 19)]) (by decide) rfl (Nat.le_of_ble_eq_true rfl) ?_
  intro p e s m args below meth c hx hb hr hlocks htab hml hown hts hK hSX hN hO H locs hG ls hl Qf hQf
  have hown : s.vm.findClass RL = some m.cls := hown
  have hl : lv_has ls 5 [(0, .ref (rA o 0)), (1, .int (J a0)), (2, .int (J a1)), (3, .ref (o + 630))] := hl
  have ka0 : kd 0 = 10 := rfl
  refine lv_aload_n hx hb dL_drift_0 rfl (lv_at hl 3 rfl) ?_
  refine lv_iconst (v := J 0) hx hb dL_drift_1 (by decide) ?_
  refine lv_aload_n hx hb dL_drift_2 rfl (lv_at hl 0 rfl) ?_
  refine lv_iload_n hx hb dL_drift_3 rfl (lv_at hl 1 rfl) ?_
  refine lv_iload_n hx hb dL_drift_4 rfl (lv_at hl 2 rfl) ?_
  refine j_contxi (vx_runV (As := [.int (J a0), .int (J a1)]) (rest := [.int (J 0), .ref (o + 630)]) ⟨hx, hb, hml, hown, hts⟩ (A_X10_drift l hst ka0 h) (cwV 2 hts (gw_V ml_RL_114 i_X10_drift s_X10_drift n_RX10 k_X10_drift) rfl rfl rfl (by decide +kernel) ⟨by exact Nat.le_of_ble_eq_true rfl, by exact Nat.le_of_ble_eq_true rfl⟩) (j_preV hK hSX hG (ci := 9) rfl ka0 (by decide)) rfl rfl hl.1 rfl (lv_room (Nat.le_of_ble_eq_true rfl)) dL_drift_5 ⟨by exact Nat.le_of_ble_eq_true rfl, by exact Nat.le_of_ble_eq_true rfl⟩) hG (c2 := 1) (s2 := 6) ⟨by exact Nat.le_of_ble_eq_true rfl, by exact Nat.le_of_ble_eq_true rfl⟩ (fun x M h ce q H locs hG h1 h2 h3 => ?_) (fun v M h H locs hG => ?_)
  · rcases hX x M h with ⟨rfl, hq⟩
    · refine vx_catch (own := RL) (name := "java/lang/IndexOutOfBoundsException") (E := "java/lang/IndexOutOfBoundsException") hown [] ⟨0, 10, 13, 19⟩ [] htab (fun z hz => absurd hz List.not_mem_nil) (by decide) (by decide) (hts _ (List.mem_cons_of_mem _ xl_RL_19)) (cast_at hSX 0 rfl) h1 h2 h3 ?_
      refine lv_astore (lv' := [(4, .ref q), (0, .ref (rA o 0)), (1, .int (J a0)), (2, .int (J a1)), (3, .ref (o + 630))]) hx hb dL_drift_13 hl (by decide) rfl (fun ls hl => ?_)
      refine lv_iconst (v := J 1) hx hb dL_drift_15 (by decide) ?_
      rw [hQf]
      exact l_ret hx hb hr hlocks (hG.gw hO) hq ⟨by exact Nat.le_of_ble_eq_true rfl, by exact Nat.le_of_ble_eq_true rfl⟩ dL_drift_16
  · rw [hQf]
    exact l_fin (tgt := 17) hx hb hr hlocks hK (hG.gw hO) (hA v M h) ⟨by exact Nat.le_of_ble_eq_true rfl, by exact Nat.le_of_ble_eq_true rfl⟩ dL_drift_8 dL_drift_9 dL_drift_10 (by decide) dL_drift_17 dL_drift_18
abbrev rm_L_free : Room := { frames := 8, cells := 1, slots := 6, locals := 177 }
theorem A_L_free (l : Launch) (hst : l.stackTraces = false) {D : va_G} {cy : Nat → ClassId} {o : Nat} {sK sV : Nat → Nat} {M : jT} {z : Int} {a0 a1 a2 : Int} {QA : Int → jT → Prop} {XA : Nat → jT → Prop} {Q : Int → Int → jT → Prop} (h : wp_X10_free M 0 a0 a1 a2 QA XA) (hA : ∀ v M1, QA v M1 → Q 0 (nzv v) M1) (hX : ∀ e M1, XA e M1 → (e = 2 ∧ Q 1 z M1) ∨ (e = 4 ∧ Q 2 z M1)) : CoL l yL_free (wjW yL_free cL_free 6 (some .int) [(0, 12, 15, 13), (0, 12, 19, 46)]) rm_L_free D cy o sK sV M z [.ref (rA o 0), .int (J a0), .int (J a1), .int (J a2), .ref (o + 630)] Q := by
  refine l_ofW (cc := cL_free) (maxL := 6) (ret := (some .int)) (hh := [(0, 12, 15, 13), (0, 12, 19, 46)]) (by decide) rfl (Nat.le_of_ble_eq_true rfl) ?_
  intro p e s m args below meth c hx hb hr hlocks htab hml hown hts hK hSX hN hO H locs hG ls hl Qf hQf
  have hown : s.vm.findClass RL = some m.cls := hown
  have hl : lv_has ls 6 [(0, .ref (rA o 0)), (1, .int (J a0)), (2, .int (J a1)), (3, .int (J a2)), (4, .ref (o + 630))] := hl
  have ka0 : kd 0 = 10 := rfl
  refine lv_aload hx hb dL_free_0 (lv_at hl 4 rfl) ?_
  refine lv_iconst (v := J 0) hx hb dL_free_2 (by decide) ?_
  refine lv_aload_n hx hb dL_free_3 rfl (lv_at hl 0 rfl) ?_
  refine lv_iload_n hx hb dL_free_4 rfl (lv_at hl 1 rfl) ?_
  refine lv_iload_n hx hb dL_free_5 rfl (lv_at hl 2 rfl) ?_
  refine lv_iload_n hx hb dL_free_6 rfl (lv_at hl 3 rfl) ?_
  refine j_contxi (vx_runV (As := [.int (J a0), .int (J a1), .int (J a2)]) (rest := [.int (J 0), .ref (o + 630)]) ⟨hx, hb, hml, hown, hts⟩ (A_X10_free l hst ka0 h) (cwV 3 hts (gw_V ml_RL_117 i_X10_free s_X10_free n_RX10 k_X10_free) rfl rfl rfl (by decide +kernel) ⟨by exact Nat.le_of_ble_eq_true rfl, by exact Nat.le_of_ble_eq_true rfl⟩) (j_preV hK hSX hG (ci := 9) rfl ka0 (by decide)) rfl rfl hl.1 rfl (lv_room (Nat.le_of_ble_eq_true rfl)) dL_free_7 ⟨by exact Nat.le_of_ble_eq_true rfl, by exact Nat.le_of_ble_eq_true rfl⟩) hG (c2 := 1) (s2 := 6) ⟨by exact Nat.le_of_ble_eq_true rfl, by exact Nat.le_of_ble_eq_true rfl⟩ (fun x M h ce q H locs hG h1 h2 h3 => ?_) (fun v M h H locs hG => ?_)
  · rcases hX x M h with ⟨rfl, hq⟩ | ⟨rfl, hq⟩
    · refine vx_catch (own := RL) (name := "java/lang/IllegalArgumentException") (E := "java/lang/IllegalArgumentException") hown [] ⟨0, 12, 15, 13⟩ [⟨0, 12, 19, 46⟩] htab (fun z hz => absurd hz List.not_mem_nil) (by decide) (by decide) (hts _ (List.mem_cons_of_mem _ xl_RL_13)) (cast_at hSX 1 rfl) h1 h2 h3 ?_
      refine lv_astore (lv' := [(5, .ref q), (0, .ref (rA o 0)), (1, .int (J a0)), (2, .int (J a1)), (3, .int (J a2)), (4, .ref (o + 630))]) hx hb dL_free_15 hl (by decide) rfl (fun ls hl => ?_)
      refine lv_iconst (v := J 1) hx hb dL_free_17 (by decide) ?_
      rw [hQf]
      exact l_ret hx hb hr hlocks (hG.gw hO) hq ⟨by exact Nat.le_of_ble_eq_true rfl, by exact Nat.le_of_ble_eq_true rfl⟩ dL_free_18
    · refine vx_catch (own := RL) (name := "java/util/NoSuchElementException") (E := "java/util/NoSuchElementException") hown [⟨0, 12, 15, 13⟩] ⟨0, 12, 19, 46⟩ [] htab (fun z hz => by
        rcases List.mem_cons.mp hz with rfl | hz
        · exact Or.inr ⟨by decide, _, hts _ (List.mem_cons_of_mem _ xl_RL_13), nc_at hN 4 rfl⟩
        exact absurd hz List.not_mem_nil) (by decide) (by decide) (hts _ (List.mem_cons_of_mem _ xl_RL_46)) (cast_at hSX 3 rfl) h1 h2 h3 ?_
      refine lv_astore (lv' := [(5, .ref q), (0, .ref (rA o 0)), (1, .int (J a0)), (2, .int (J a1)), (3, .int (J a2)), (4, .ref (o + 630))]) hx hb dL_free_19 hl (by decide) rfl (fun ls hl => ?_)
      refine lv_iconst (v := J 2) hx hb dL_free_21 (by decide) ?_
      rw [hQf]
      exact l_ret hx hb hr hlocks (hG.gw hO) hq ⟨by exact Nat.le_of_ble_eq_true rfl, by exact Nat.le_of_ble_eq_true rfl⟩ dL_free_22
  · rw [hQf]
    exact l_fin (tgt := 23) hx hb hr hlocks hK (hG.gw hO) (hA v M h) ⟨by exact Nat.le_of_ble_eq_true rfl, by exact Nat.le_of_ble_eq_true rfl⟩ dL_free_10 dL_free_11 dL_free_12 (by decide) dL_free_23 dL_free_24
abbrev rm_L_append : Room := { frames := 9, cells := 1, slots := 6, locals := 154 }
theorem A_L_append (l : Launch) (hst : l.stackTraces = false) {D : va_G} {cy : Nat → ClassId} {o : Nat} {sK sV : Nat → Nat} {M : jT} {z : Int} {a0 : Int} {QA : Int → jT → Prop} {XA : Nat → jT → Prop} {Q : Int → Int → jT → Prop} (h : wp_X10_append M 0 a0 QA XA) (hA : ∀ v M1, QA v M1 → Q 0 (nzv v) M1) (hX : ∀ e M1, XA e M1 → (e = 2 ∧ Q 1 z M1) ∨ (e = 3 ∧ Q 2 z M1)) : CoL l yL_append (wjW yL_append cL_append 4 (some .int) [(0, 9, 12, 13), (0, 9, 15, 25)]) rm_L_append D cy o sK sV M z [.ref (rA o 0), .int (J a0), .ref (o + 630)] Q := by
  refine l_ofW (cc := cL_append) (maxL := 4) (ret := (some .int)) (hh := [(0, 9, 12, 13), (0, 9, 15, 25)]) (by decide) rfl (Nat.le_of_ble_eq_true rfl) ?_
  intro p e s m args below meth c hx hb hr hlocks htab hml hown hts hK hSX hN hO H locs hG ls hl Qf hQf
  have hown : s.vm.findClass RL = some m.cls := hown
  have hl : lv_has ls 4 [(0, .ref (rA o 0)), (1, .int (J a0)), (2, .ref (o + 630))] := hl
  have ka0 : kd 0 = 10 := rfl
  refine lv_aload_n hx hb dL_append_0 rfl (lv_at hl 2 rfl) ?_
  refine lv_iconst (v := J 0) hx hb dL_append_1 (by decide) ?_
  refine lv_aload_n hx hb dL_append_2 rfl (lv_at hl 0 rfl) ?_
  refine lv_iload_n hx hb dL_append_3 rfl (lv_at hl 1 rfl) ?_
  refine j_contxi (vx_runV (As := [.int (J a0)]) (rest := [.int (J 0), .ref (o + 630)]) ⟨hx, hb, hml, hown, hts⟩ (A_X10_append l hst ka0 h) (cwV 1 hts (gw_V ml_RL_120 i_X10_append s_X10_append n_RX10 k_X10_append) rfl rfl rfl (by decide +kernel) ⟨by exact Nat.le_of_ble_eq_true rfl, by exact Nat.le_of_ble_eq_true rfl⟩) (j_preV hK hSX hG (ci := 9) rfl ka0 (by decide)) rfl rfl hl.1 rfl (lv_room (Nat.le_of_ble_eq_true rfl)) dL_append_4 ⟨by exact Nat.le_of_ble_eq_true rfl, by exact Nat.le_of_ble_eq_true rfl⟩) hG (c2 := 1) (s2 := 6) ⟨by exact Nat.le_of_ble_eq_true rfl, by exact Nat.le_of_ble_eq_true rfl⟩ (fun x M h ce q H locs hG h1 h2 h3 => ?_) (fun v M h H locs hG => ?_)
  · rcases hX x M h with ⟨rfl, hq⟩ | ⟨rfl, hq⟩
    · refine vx_catch (own := RL) (name := "java/lang/IllegalArgumentException") (E := "java/lang/IllegalArgumentException") hown [] ⟨0, 9, 12, 13⟩ [⟨0, 9, 15, 25⟩] htab (fun z hz => absurd hz List.not_mem_nil) (by decide) (by decide) (hts _ (List.mem_cons_of_mem _ xl_RL_13)) (cast_at hSX 1 rfl) h1 h2 h3 ?_
      refine lv_astore_n (lv' := [(3, .ref q), (0, .ref (rA o 0)), (1, .int (J a0)), (2, .ref (o + 630))]) hx hb dL_append_12 rfl hl (by decide) rfl (fun ls hl => ?_)
      refine lv_iconst (v := J 1) hx hb dL_append_13 (by decide) ?_
      rw [hQf]
      exact l_ret hx hb hr hlocks (hG.gw hO) hq ⟨by exact Nat.le_of_ble_eq_true rfl, by exact Nat.le_of_ble_eq_true rfl⟩ dL_append_14
    · refine vx_catch (own := RL) (name := "java/lang/IllegalStateException") (E := "java/lang/IllegalStateException") hown [⟨0, 9, 12, 13⟩] ⟨0, 9, 15, 25⟩ [] htab (fun z hz => by
        rcases List.mem_cons.mp hz with rfl | hz
        · exact Or.inr ⟨by decide, _, hts _ (List.mem_cons_of_mem _ xl_RL_13), nc_at hN 2 rfl⟩
        exact absurd hz List.not_mem_nil) (by decide) (by decide) (hts _ (List.mem_cons_of_mem _ xl_RL_25)) (cast_at hSX 2 rfl) h1 h2 h3 ?_
      refine lv_astore_n (lv' := [(3, .ref q), (0, .ref (rA o 0)), (1, .int (J a0)), (2, .ref (o + 630))]) hx hb dL_append_15 rfl hl (by decide) rfl (fun ls hl => ?_)
      refine lv_iconst (v := J 2) hx hb dL_append_16 (by decide) ?_
      rw [hQf]
      exact l_ret hx hb hr hlocks (hG.gw hO) hq ⟨by exact Nat.le_of_ble_eq_true rfl, by exact Nat.le_of_ble_eq_true rfl⟩ dL_append_17
  · rw [hQf]
    exact l_fin (tgt := 18) hx hb hr hlocks hK (hG.gw hO) (hA v M h) ⟨by exact Nat.le_of_ble_eq_true rfl, by exact Nat.le_of_ble_eq_true rfl⟩ dL_append_7 dL_append_8 dL_append_9 (by decide) dL_append_18 dL_append_19
abbrev rm_L_run : Room := { frames := 9, cells := 1, slots := 6, locals := 199 }
theorem A_L_run (l : Launch) (hst : l.stackTraces = false) {D : va_G} {cy : Nat → ClassId} {o : Nat} {sK sV : Nat → Nat} {M : jT} {z : Int} {QA : Int → jT → Prop} {XA : Nat → jT → Prop} {Q : Int → Int → jT → Prop} (h : wp_X10_run M 0 QA XA) (hA : ∀ v M1, QA v M1 → Q 0 (nzv v) M1) (hX : ∀ e M1, XA e M1 → (e = 2 ∧ Q 1 z M1) ∨ (e = 3 ∧ Q 2 z M1)) : CoL l yL_run (wjW yL_run cL_run 3 (some .int) [(0, 8, 11, 13), (0, 8, 14, 25)]) rm_L_run D cy o sK sV M z [.ref (rA o 0), .ref (o + 630)] Q := by
  refine l_ofW (cc := cL_run) (maxL := 3) (ret := (some .int)) (hh := [(0, 8, 11, 13), (0, 8, 14, 25)]) (by decide) rfl (Nat.le_of_ble_eq_true rfl) ?_
  intro p e s m args below meth c hx hb hr hlocks htab hml hown hts hK hSX hN hO H locs hG ls hl Qf hQf
  have hown : s.vm.findClass RL = some m.cls := hown
  have hl : lv_has ls 3 [(0, .ref (rA o 0)), (1, .ref (o + 630))] := hl
  have ka0 : kd 0 = 10 := rfl
  refine lv_aload_n hx hb dL_run_0 rfl (lv_at hl 1 rfl) ?_
  refine lv_iconst (v := J 0) hx hb dL_run_1 (by decide) ?_
  refine lv_aload_n hx hb dL_run_2 rfl (lv_at hl 0 rfl) ?_
  refine j_contxi (vx_runV (As := []) (rest := [.int (J 0), .ref (o + 630)]) ⟨hx, hb, hml, hown, hts⟩ (A_X10_run l hst ka0 h) (cwV 0 hts (gw_V ml_RL_123 i_X10_run s_X10_run n_RX10 k_X10_run) rfl rfl rfl (by decide +kernel) ⟨by exact Nat.le_of_ble_eq_true rfl, by exact Nat.le_of_ble_eq_true rfl⟩) (j_preV hK hSX hG (ci := 9) rfl ka0 (by decide)) rfl rfl hl.1 rfl (lv_room (Nat.le_of_ble_eq_true rfl)) dL_run_3 ⟨by exact Nat.le_of_ble_eq_true rfl, by exact Nat.le_of_ble_eq_true rfl⟩) hG (c2 := 1) (s2 := 6) ⟨by exact Nat.le_of_ble_eq_true rfl, by exact Nat.le_of_ble_eq_true rfl⟩ (fun x M h ce q H locs hG h1 h2 h3 => ?_) (fun v M h H locs hG => ?_)
  · rcases hX x M h with ⟨rfl, hq⟩ | ⟨rfl, hq⟩
    · refine vx_catch (own := RL) (name := "java/lang/IllegalArgumentException") (E := "java/lang/IllegalArgumentException") hown [] ⟨0, 8, 11, 13⟩ [⟨0, 8, 14, 25⟩] htab (fun z hz => absurd hz List.not_mem_nil) (by decide) (by decide) (hts _ (List.mem_cons_of_mem _ xl_RL_13)) (cast_at hSX 1 rfl) h1 h2 h3 ?_
      refine lv_astore_n (lv' := [(2, .ref q), (0, .ref (rA o 0)), (1, .ref (o + 630))]) hx hb dL_run_11 rfl hl (by decide) rfl (fun ls hl => ?_)
      refine lv_iconst (v := J 1) hx hb dL_run_12 (by decide) ?_
      rw [hQf]
      exact l_ret hx hb hr hlocks (hG.gw hO) hq ⟨by exact Nat.le_of_ble_eq_true rfl, by exact Nat.le_of_ble_eq_true rfl⟩ dL_run_13
    · refine vx_catch (own := RL) (name := "java/lang/IllegalStateException") (E := "java/lang/IllegalStateException") hown [⟨0, 8, 11, 13⟩] ⟨0, 8, 14, 25⟩ [] htab (fun z hz => by
        rcases List.mem_cons.mp hz with rfl | hz
        · exact Or.inr ⟨by decide, _, hts _ (List.mem_cons_of_mem _ xl_RL_13), nc_at hN 2 rfl⟩
        exact absurd hz List.not_mem_nil) (by decide) (by decide) (hts _ (List.mem_cons_of_mem _ xl_RL_25)) (cast_at hSX 2 rfl) h1 h2 h3 ?_
      refine lv_astore_n (lv' := [(2, .ref q), (0, .ref (rA o 0)), (1, .ref (o + 630))]) hx hb dL_run_14 rfl hl (by decide) rfl (fun ls hl => ?_)
      refine lv_iconst (v := J 2) hx hb dL_run_15 (by decide) ?_
      rw [hQf]
      exact l_ret hx hb hr hlocks (hG.gw hO) hq ⟨by exact Nat.le_of_ble_eq_true rfl, by exact Nat.le_of_ble_eq_true rfl⟩ dL_run_16
  · rw [hQf]
    exact l_fin (tgt := 17) hx hb hr hlocks hK (hG.gw hO) (hA v M h) ⟨by exact Nat.le_of_ble_eq_true rfl, by exact Nat.le_of_ble_eq_true rfl⟩ dL_run_6 dL_run_7 dL_run_8 (by decide) dL_run_17 dL_run_18
abbrev rm_L_write : Room := { frames := 9, cells := 1, slots := 6, locals := 152 }
theorem A_L_write (l : Launch) (hst : l.stackTraces = false) {D : va_G} {cy : Nat → ClassId} {o : Nat} {sK sV : Nat → Nat} {M : jT} {z : Int} {a0 a1 : Int} {QA : Int → jT → Prop} {XA : Nat → jT → Prop} {Q : Int → Int → jT → Prop} (h : wp_X10_write M 0 a0 a1 QA XA) (hA : ∀ v M1, QA v M1 → Q 0 (nzv v) M1) (hX : ∀ e M1, XA e M1 → (e = 1 ∧ Q 1 z M1)) : CoL l yL_write (wjW yL_write cL_write 5 (some .int) [(0, 10, 13, 19)]) rm_L_write D cy o sK sV M z [.ref (rA o 0), .int (J a0), .int (J a1), .ref (o + 630)] Q := by
  refine l_ofW (cc := cL_write) (maxL := 5) (ret := (some .int)) (hh := [(0, 10, 13, 19)]) (by decide) rfl (Nat.le_of_ble_eq_true rfl) ?_
  intro p e s m args below meth c hx hb hr hlocks htab hml hown hts hK hSX hN hO H locs hG ls hl Qf hQf
  have hown : s.vm.findClass RL = some m.cls := hown
  have hl : lv_has ls 5 [(0, .ref (rA o 0)), (1, .int (J a0)), (2, .int (J a1)), (3, .ref (o + 630))] := hl
  have ka0 : kd 0 = 10 := rfl
  refine lv_aload_n hx hb dL_write_0 rfl (lv_at hl 3 rfl) ?_
  refine lv_iconst (v := J 0) hx hb dL_write_1 (by decide) ?_
  refine lv_aload_n hx hb dL_write_2 rfl (lv_at hl 0 rfl) ?_
  refine lv_iload_n hx hb dL_write_3 rfl (lv_at hl 1 rfl) ?_
  refine lv_iload_n hx hb dL_write_4 rfl (lv_at hl 2 rfl) ?_
  refine j_contxi (vx_runV (As := [.int (J a0), .int (J a1)]) (rest := [.int (J 0), .ref (o + 630)]) ⟨hx, hb, hml, hown, hts⟩ (A_X10_write l hst ka0 h) (cwV 2 hts (gw_V ml_RL_127 i_X10_write s_X10_write n_RX10 k_X10_write) rfl rfl rfl (by decide +kernel) ⟨by exact Nat.le_of_ble_eq_true rfl, by exact Nat.le_of_ble_eq_true rfl⟩) (j_preV hK hSX hG (ci := 9) rfl ka0 (by decide)) rfl rfl hl.1 rfl (lv_room (Nat.le_of_ble_eq_true rfl)) dL_write_5 ⟨by exact Nat.le_of_ble_eq_true rfl, by exact Nat.le_of_ble_eq_true rfl⟩) hG (c2 := 1) (s2 := 6) ⟨by exact Nat.le_of_ble_eq_true rfl, by exact Nat.le_of_ble_eq_true rfl⟩ (fun x M h ce q H locs hG h1 h2 h3 => ?_) (fun v M h H locs hG => ?_)
  · rcases hX x M h with ⟨rfl, hq⟩
    · refine vx_catch (own := RL) (name := "java/lang/IndexOutOfBoundsException") (E := "java/lang/IndexOutOfBoundsException") hown [] ⟨0, 10, 13, 19⟩ [] htab (fun z hz => absurd hz List.not_mem_nil) (by decide) (by decide) (hts _ (List.mem_cons_of_mem _ xl_RL_19)) (cast_at hSX 0 rfl) h1 h2 h3 ?_
      refine lv_astore (lv' := [(4, .ref q), (0, .ref (rA o 0)), (1, .int (J a0)), (2, .int (J a1)), (3, .ref (o + 630))]) hx hb dL_write_13 hl (by decide) rfl (fun ls hl => ?_)
      refine lv_iconst (v := J 1) hx hb dL_write_15 (by decide) ?_
      rw [hQf]
      exact l_ret hx hb hr hlocks (hG.gw hO) hq ⟨by exact Nat.le_of_ble_eq_true rfl, by exact Nat.le_of_ble_eq_true rfl⟩ dL_write_16
  · rw [hQf]
    exact l_fin (tgt := 17) hx hb hr hlocks hK (hG.gw hO) (hA v M h) ⟨by exact Nat.le_of_ble_eq_true rfl, by exact Nat.le_of_ble_eq_true rfl⟩ dL_write_8 dL_write_9 dL_write_10 (by decide) dL_write_17 dL_write_18
abbrev rm_L_character : Room := { frames := 8, cells := 1, slots := 6, locals := 131 }
theorem A_L_character (l : Launch) (hst : l.stackTraces = false) {D : va_G} {cy : Nat → ClassId} {o : Nat} {sK sV : Nat → Nat} {M : jT} {z : Int} {a0 : Int} {QA : Int → jT → Prop} {XA : Nat → jT → Prop} {Q : Int → Int → jT → Prop} (h : wp_X10_character M 0 a0 QA XA) (hA : ∀ v M1, QA v M1 → Q 0 (nzv v) M1) (hX : ∀ e M1, XA e M1 → (e = 1 ∧ Q 1 z M1)) : CoL l yL_character (wjW yL_character cL_character 4 (some .int) [(0, 9, 12, 19)]) rm_L_character D cy o sK sV M z [.ref (rA o 0), .int (J a0), .ref (o + 630)] Q := by
  refine l_ofW (cc := cL_character) (maxL := 4) (ret := (some .int)) (hh := [(0, 9, 12, 19)]) (by decide) rfl (Nat.le_of_ble_eq_true rfl) ?_
  intro p e s m args below meth c hx hb hr hlocks htab hml hown hts hK hSX hN hO H locs hG ls hl Qf hQf
  have hown : s.vm.findClass RL = some m.cls := hown
  have hl : lv_has ls 4 [(0, .ref (rA o 0)), (1, .int (J a0)), (2, .ref (o + 630))] := hl
  have ka0 : kd 0 = 10 := rfl
  refine lv_aload_n hx hb dL_character_0 rfl (lv_at hl 2 rfl) ?_
  refine lv_iconst (v := J 0) hx hb dL_character_1 (by decide) ?_
  refine lv_aload_n hx hb dL_character_2 rfl (lv_at hl 0 rfl) ?_
  refine lv_iload_n hx hb dL_character_3 rfl (lv_at hl 1 rfl) ?_
  refine j_contxi (vx_runV (As := [.int (J a0)]) (rest := [.int (J 0), .ref (o + 630)]) ⟨hx, hb, hml, hown, hts⟩ (A_X10_character l hst ka0 h) (cwV 1 hts (gw_V ml_RL_130 i_X10_character s_X10_character n_RX10 k_X10_character) rfl rfl rfl (by decide +kernel) ⟨by exact Nat.le_of_ble_eq_true rfl, by exact Nat.le_of_ble_eq_true rfl⟩) (j_preV hK hSX hG (ci := 9) rfl ka0 (by decide)) rfl rfl hl.1 rfl (lv_room (Nat.le_of_ble_eq_true rfl)) dL_character_4 ⟨by exact Nat.le_of_ble_eq_true rfl, by exact Nat.le_of_ble_eq_true rfl⟩) hG (c2 := 1) (s2 := 6) ⟨by exact Nat.le_of_ble_eq_true rfl, by exact Nat.le_of_ble_eq_true rfl⟩ (fun x M h ce q H locs hG h1 h2 h3 => ?_) (fun v M h H locs hG => ?_)
  · rcases hX x M h with ⟨rfl, hq⟩
    · refine vx_catch (own := RL) (name := "java/lang/IndexOutOfBoundsException") (E := "java/lang/IndexOutOfBoundsException") hown [] ⟨0, 9, 12, 19⟩ [] htab (fun z hz => absurd hz List.not_mem_nil) (by decide) (by decide) (hts _ (List.mem_cons_of_mem _ xl_RL_19)) (cast_at hSX 0 rfl) h1 h2 h3 ?_
      refine lv_astore_n (lv' := [(3, .ref q), (0, .ref (rA o 0)), (1, .int (J a0)), (2, .ref (o + 630))]) hx hb dL_character_12 rfl hl (by decide) rfl (fun ls hl => ?_)
      refine lv_iconst (v := J 1) hx hb dL_character_13 (by decide) ?_
      rw [hQf]
      exact l_ret hx hb hr hlocks (hG.gw hO) hq ⟨by exact Nat.le_of_ble_eq_true rfl, by exact Nat.le_of_ble_eq_true rfl⟩ dL_character_14
  · rw [hQf]
    exact l_fin (tgt := 15) hx hb hr hlocks hK (hG.gw hO) (hA v M h) ⟨by exact Nat.le_of_ble_eq_true rfl, by exact Nat.le_of_ble_eq_true rfl⟩ dL_character_7 dL_character_8 dL_character_9 (by decide) dL_character_15 dL_character_16
abbrev rm_L_undo : Room := { frames := 9, cells := 1, slots := 6, locals := 150 }
theorem A_L_undo (l : Launch) (hst : l.stackTraces = false) {D : va_G} {cy : Nat → ClassId} {o : Nat} {sK sV : Nat → Nat} {M : jT} {z : Int} {QA : Int → jT → Prop} {XA : Nat → jT → Prop} {Q : Int → Int → jT → Prop} (h : wp_X10_undo M 0 QA XA) (hA : ∀ v M1, QA v M1 → Q 0 (nzv v) M1) (hX : ∀ e M1, XA e M1 → (e = 3 ∧ Q 1 z M1)) : CoL l yL_undo (wjW yL_undo cL_undo 3 (some .int) [(0, 8, 11, 25)]) rm_L_undo D cy o sK sV M z [.ref (rA o 0), .ref (o + 630)] Q := by
  refine l_ofW (cc := cL_undo) (maxL := 3) (ret := (some .int)) (hh := [(0, 8, 11, 25)]) (by decide) rfl (Nat.le_of_ble_eq_true rfl) ?_
  intro p e s m args below meth c hx hb hr hlocks htab hml hown hts hK hSX hN hO H locs hG ls hl Qf hQf
  have hown : s.vm.findClass RL = some m.cls := hown
  have hl : lv_has ls 3 [(0, .ref (rA o 0)), (1, .ref (o + 630))] := hl
  have ka0 : kd 0 = 10 := rfl
  refine lv_aload_n hx hb dL_undo_0 rfl (lv_at hl 1 rfl) ?_
  refine lv_iconst (v := J 0) hx hb dL_undo_1 (by decide) ?_
  refine lv_aload_n hx hb dL_undo_2 rfl (lv_at hl 0 rfl) ?_
  refine j_contxi (vx_runV (As := []) (rest := [.int (J 0), .ref (o + 630)]) ⟨hx, hb, hml, hown, hts⟩ (A_X10_undo l hst ka0 h) (cwV 0 hts (gw_V ml_RL_134 i_X10_undo s_X10_undo n_RX10 k_X10_undo) rfl rfl rfl (by decide +kernel) ⟨by exact Nat.le_of_ble_eq_true rfl, by exact Nat.le_of_ble_eq_true rfl⟩) (j_preV hK hSX hG (ci := 9) rfl ka0 (by decide)) rfl rfl hl.1 rfl (lv_room (Nat.le_of_ble_eq_true rfl)) dL_undo_3 ⟨by exact Nat.le_of_ble_eq_true rfl, by exact Nat.le_of_ble_eq_true rfl⟩) hG (c2 := 1) (s2 := 6) ⟨by exact Nat.le_of_ble_eq_true rfl, by exact Nat.le_of_ble_eq_true rfl⟩ (fun x M h ce q H locs hG h1 h2 h3 => ?_) (fun v M h H locs hG => ?_)
  · rcases hX x M h with ⟨rfl, hq⟩
    · refine vx_catch (own := RL) (name := "java/lang/IllegalStateException") (E := "java/lang/IllegalStateException") hown [] ⟨0, 8, 11, 25⟩ [] htab (fun z hz => absurd hz List.not_mem_nil) (by decide) (by decide) (hts _ (List.mem_cons_of_mem _ xl_RL_25)) (cast_at hSX 2 rfl) h1 h2 h3 ?_
      refine lv_astore_n (lv' := [(2, .ref q), (0, .ref (rA o 0)), (1, .ref (o + 630))]) hx hb dL_undo_11 rfl hl (by decide) rfl (fun ls hl => ?_)
      refine lv_iconst (v := J 1) hx hb dL_undo_12 (by decide) ?_
      rw [hQf]
      exact l_ret hx hb hr hlocks (hG.gw hO) hq ⟨by exact Nat.le_of_ble_eq_true rfl, by exact Nat.le_of_ble_eq_true rfl⟩ dL_undo_13
  · rw [hQf]
    exact l_fin (tgt := 14) hx hb hr hlocks hK (hG.gw hO) (hA v M h) ⟨by exact Nat.le_of_ble_eq_true rfl, by exact Nat.le_of_ble_eq_true rfl⟩ dL_undo_6 dL_undo_7 dL_undo_8 (by decide) dL_undo_14 dL_undo_15
abbrev rm_L_restore : Room := { frames := 9, cells := 1, slots := 6, locals := 150 }
theorem A_L_restore (l : Launch) (hst : l.stackTraces = false) {D : va_G} {cy : Nat → ClassId} {o : Nat} {sK sV : Nat → Nat} {M : jT} {z : Int} {QA : Int → jT → Prop} {XA : Nat → jT → Prop} {Q : Int → Int → jT → Prop} (h : wp_X10_restore M 0 QA XA) (hA : ∀ v M1, QA v M1 → Q 0 (nzv v) M1) (hX : ∀ e M1, XA e M1 → (e = 3 ∧ Q 1 z M1)) : CoL l yL_restore (wjW yL_restore cL_restore 3 (some .int) [(0, 8, 11, 25)]) rm_L_restore D cy o sK sV M z [.ref (rA o 0), .ref (o + 630)] Q := by
  refine l_ofW (cc := cL_restore) (maxL := 3) (ret := (some .int)) (hh := [(0, 8, 11, 25)]) (by decide) rfl (Nat.le_of_ble_eq_true rfl) ?_
  intro p e s m args below meth c hx hb hr hlocks htab hml hown hts hK hSX hN hO H locs hG ls hl Qf hQf
  have hown : s.vm.findClass RL = some m.cls := hown
  have hl : lv_has ls 3 [(0, .ref (rA o 0)), (1, .ref (o + 630))] := hl
  have ka0 : kd 0 = 10 := rfl
  refine lv_aload_n hx hb dL_restore_0 rfl (lv_at hl 1 rfl) ?_
  refine lv_iconst (v := J 0) hx hb dL_restore_1 (by decide) ?_
  refine lv_aload_n hx hb dL_restore_2 rfl (lv_at hl 0 rfl) ?_
  refine j_contxi (vx_runV (As := []) (rest := [.int (J 0), .ref (o + 630)]) ⟨hx, hb, hml, hown, hts⟩ (A_X10_restore l hst ka0 h) (cwV 0 hts (gw_V ml_RL_137 i_X10_restore s_X10_restore n_RX10 k_X10_restore) rfl rfl rfl (by decide +kernel) ⟨by exact Nat.le_of_ble_eq_true rfl, by exact Nat.le_of_ble_eq_true rfl⟩) (j_preV hK hSX hG (ci := 9) rfl ka0 (by decide)) rfl rfl hl.1 rfl (lv_room (Nat.le_of_ble_eq_true rfl)) dL_restore_3 ⟨by exact Nat.le_of_ble_eq_true rfl, by exact Nat.le_of_ble_eq_true rfl⟩) hG (c2 := 1) (s2 := 6) ⟨by exact Nat.le_of_ble_eq_true rfl, by exact Nat.le_of_ble_eq_true rfl⟩ (fun x M h ce q H locs hG h1 h2 h3 => ?_) (fun v M h H locs hG => ?_)
  · rcases hX x M h with ⟨rfl, hq⟩
    · refine vx_catch (own := RL) (name := "java/lang/IllegalStateException") (E := "java/lang/IllegalStateException") hown [] ⟨0, 8, 11, 25⟩ [] htab (fun z hz => absurd hz List.not_mem_nil) (by decide) (by decide) (hts _ (List.mem_cons_of_mem _ xl_RL_25)) (cast_at hSX 2 rfl) h1 h2 h3 ?_
      refine lv_astore_n (lv' := [(2, .ref q), (0, .ref (rA o 0)), (1, .ref (o + 630))]) hx hb dL_restore_11 rfl hl (by decide) rfl (fun ls hl => ?_)
      refine lv_iconst (v := J 1) hx hb dL_restore_12 (by decide) ?_
      rw [hQf]
      exact l_ret hx hb hr hlocks (hG.gw hO) hq ⟨by exact Nat.le_of_ble_eq_true rfl, by exact Nat.le_of_ble_eq_true rfl⟩ dL_restore_13
  · rw [hQf]
    exact l_fin (tgt := 14) hx hb hr hlocks hK (hG.gw hO) (hA v M h) ⟨by exact Nat.le_of_ble_eq_true rfl, by exact Nat.le_of_ble_eq_true rfl⟩ dL_restore_6 dL_restore_7 dL_restore_8 (by decide) dL_restore_14 dL_restore_15
abbrev rm_L_count : Room := { frames := 8, cells := 1, slots := 6, locals := 164 }
theorem A_L_count (l : Launch) (hst : l.stackTraces = false) {D : va_G} {cy : Nat → ClassId} {o : Nat} {sK sV : Nat → Nat} {M : jT} {z : Int} {a0 : Int} {QA : Int → jT → Prop} {XA : Nat → jT → Prop} {Q : Int → Int → jT → Prop} (h : wp_X10_count M 0 a0 QA XA) (hA : ∀ v M1, QA v M1 → Q 0 (nzv v) M1) (hX : ∀ e M1, XA e M1 → (e = 2 ∧ Q 1 z M1)) : CoL l yL_count (wjW yL_count cL_count 4 (some .int) [(0, 9, 12, 13)]) rm_L_count D cy o sK sV M z [.ref (rA o 0), .int (J a0), .ref (o + 630)] Q := by
  refine l_ofW (cc := cL_count) (maxL := 4) (ret := (some .int)) (hh := [(0, 9, 12, 13)]) (by decide) rfl (Nat.le_of_ble_eq_true rfl) ?_
  intro p e s m args below meth c hx hb hr hlocks htab hml hown hts hK hSX hN hO H locs hG ls hl Qf hQf
  have hown : s.vm.findClass RL = some m.cls := hown
  have hl : lv_has ls 4 [(0, .ref (rA o 0)), (1, .int (J a0)), (2, .ref (o + 630))] := hl
  have ka0 : kd 0 = 10 := rfl
  refine lv_aload_n hx hb dL_count_0 rfl (lv_at hl 2 rfl) ?_
  refine lv_iconst (v := J 0) hx hb dL_count_1 (by decide) ?_
  refine lv_aload_n hx hb dL_count_2 rfl (lv_at hl 0 rfl) ?_
  refine lv_iload_n hx hb dL_count_3 rfl (lv_at hl 1 rfl) ?_
  refine j_contxi (vx_runV (As := [.int (J a0)]) (rest := [.int (J 0), .ref (o + 630)]) ⟨hx, hb, hml, hown, hts⟩ (A_X10_count l hst ka0 h) (cwV 1 hts (gw_V ml_RL_140 i_X10_count s_X10_count n_RX10 k_X10_count) rfl rfl rfl (by decide +kernel) ⟨by exact Nat.le_of_ble_eq_true rfl, by exact Nat.le_of_ble_eq_true rfl⟩) (j_preV hK hSX hG (ci := 9) rfl ka0 (by decide)) rfl rfl hl.1 rfl (lv_room (Nat.le_of_ble_eq_true rfl)) dL_count_4 ⟨by exact Nat.le_of_ble_eq_true rfl, by exact Nat.le_of_ble_eq_true rfl⟩) hG (c2 := 1) (s2 := 6) ⟨by exact Nat.le_of_ble_eq_true rfl, by exact Nat.le_of_ble_eq_true rfl⟩ (fun x M h ce q H locs hG h1 h2 h3 => ?_) (fun v M h H locs hG => ?_)
  · rcases hX x M h with ⟨rfl, hq⟩
    · refine vx_catch (own := RL) (name := "java/lang/IllegalArgumentException") (E := "java/lang/IllegalArgumentException") hown [] ⟨0, 9, 12, 13⟩ [] htab (fun z hz => absurd hz List.not_mem_nil) (by decide) (by decide) (hts _ (List.mem_cons_of_mem _ xl_RL_13)) (cast_at hSX 1 rfl) h1 h2 h3 ?_
      refine lv_astore_n (lv' := [(3, .ref q), (0, .ref (rA o 0)), (1, .int (J a0)), (2, .ref (o + 630))]) hx hb dL_count_12 rfl hl (by decide) rfl (fun ls hl => ?_)
      refine lv_iconst (v := J 1) hx hb dL_count_13 (by decide) ?_
      rw [hQf]
      exact l_ret hx hb hr hlocks (hG.gw hO) hq ⟨by exact Nat.le_of_ble_eq_true rfl, by exact Nat.le_of_ble_eq_true rfl⟩ dL_count_14
  · rw [hQf]
    exact l_fin (tgt := 15) hx hb hr hlocks hK (hG.gw hO) (hA v M h) ⟨by exact Nat.le_of_ble_eq_true rfl, by exact Nat.le_of_ble_eq_true rfl⟩ dL_count_7 dL_count_8 dL_count_9 (by decide) dL_count_15 dL_count_16
end
