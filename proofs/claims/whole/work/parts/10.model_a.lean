abbrev pb_X11_in (a0 : Int) (a1 : Int) (a2 : Int) : Prop :=
a1 ≤ a0 ∧ a0 ≤ a2
def pg_X11_in (a0 : Int) (a1 : Int) (a2 : Int) : Prop :=
rg a0 ∧
rg a1 ∧
((a0 < a1 → True) ∧
(a1 ≤ a0 → (rg a2 ∧
((a2 < a0 → True) ∧
(a0 ≤ a2 → True)))))
abbrev rm_X11_in : Room := { frames := 0, cells := 0, slots := 0, locals := 0 }
set_option maxRecDepth 100000 in
set_option maxHeartbeats 4000000 in
theorem A_X11_in (l : Launch) {D : va_G} {cy : Nat → ClassId} {o : Nat} {sK sV : Nat → Nat} {M : jT} {a0 : Int} {a1 : Int} {a2 : Int} (h : pg_X11_in a0 a1 a2) : CoI l yX11_in (wj yX11_in cX11_in 3 (some .boolean)) rm_X11_in D cy o sK sV M [.int (J a0), .int (J a1), .int (J a2)] (fun z M9 => z = b2i (pb_X11_in a0 a1 a2) ∧ M9 = M) := by
  refine j_ofW (cc := cX11_in) (maxL := 3) (ret := (some .boolean)) (by decide) rfl (Nat.le_of_ble_eq_true rfl) ?_
  intro p e s m args below meth c hx hb hr hlocks hml hown hts hK hSX hG ls hl Qf hQf
  have hown : s.vm.findClass RX11 = some m.cls := hown
  have hl : lv_has ls 3 [(0, .int (J a0)), (1, .int (J a1)), (2, .int (J a2))] := hl
  unfold pg_X11_in at h
  refine lv_iload_n hx hb dX11_in_0 rfl (lv_at hl 0 rfl) ?_
  refine lv_iload_n hx hb dX11_in_1 rfl (lv_at hl 1 rfl) ?_
  obtain ⟨g2, h⟩ := h
  obtain ⟨g3, h⟩ := h
  refine j_icmp_lt (tgt := 14) hx hb dX11_in_2 (by decide) g2 g3 (fun c1 => ?_) (fun c1 => ?_)
  · have h := h.1 c1
    refine lv_iconst (v := J 0) hx hb dX11_in_14 (by decide) ?_
    rw [hQf]
    exact j_iretn hx hb hr hlocks (nar_b (by decide)) hG ⟨(b2i_iff0 (iff_of_false (fun q8 => (show ¬ (a1 ≤ a0) from by omega) q8.1) id)), rfl⟩ (by decide) dX11_in_15
  · have h := h.2 c1
    refine lv_iload_n hx hb dX11_in_5 rfl (lv_at hl 0 rfl) ?_
    refine lv_iload_n hx hb dX11_in_6 rfl (lv_at hl 2 rfl) ?_
    obtain ⟨g5, h⟩ := h
    refine j_icmp_gt (tgt := 14) hx hb dX11_in_7 (by decide) g2 g5 (fun c4 => ?_) (fun c4 => ?_)
    · have h := h.1 c4
      refine lv_iconst (v := J 0) hx hb dX11_in_14 (by decide) ?_
      rw [hQf]
      exact j_iretn hx hb hr hlocks (nar_b (by decide)) hG ⟨(b2i_iff0 ((and_iff_right c1).trans (iff_of_false (show ¬ (a0 ≤ a2) from by omega) id))), rfl⟩ (by decide) dX11_in_15
    · have h := h.2 c4
      refine lv_iconst (v := J 1) hx hb dX11_in_10 (by decide) ?_
      refine lv_goto (tgt := 15) hx hb dX11_in_11 (by decide) ?_
      rw [hQf]
      exact j_iretn hx hb hr hlocks (nar_b (by decide)) hG ⟨(b2i_iff1 ((and_iff_right c1).trans (iff_of_true c4 trivial))), rfl⟩ (by decide) dX11_in_15

def pf_X11_yearDay (a0 : Int) : Int :=
(365 * a0) + ((a0 + 3) / 4)
def pg_X11_yearDay (a0 : Int) : Prop :=
(0 ≤ (a0 + 3) ∧ (a0 + 3) < 2147483648) ∧
True
abbrev rm_X11_yearDay : Room := { frames := 0, cells := 0, slots := 0, locals := 0 }
set_option maxRecDepth 100000 in
set_option maxHeartbeats 4000000 in
theorem A_X11_yearDay (l : Launch) {D : va_G} {cy : Nat → ClassId} {o : Nat} {sK sV : Nat → Nat} {M : jT} {a0 : Int} (h : pg_X11_yearDay a0) : CoI l yX11_yearDay (wj yX11_yearDay cX11_yearDay 1 (some .int)) rm_X11_yearDay D cy o sK sV M [.int (J a0)] (fun z M9 => z = pf_X11_yearDay a0 ∧ M9 = M) := by
  refine j_ofW (cc := cX11_yearDay) (maxL := 1) (ret := (some .int)) (by decide) rfl (Nat.le_of_ble_eq_true rfl) ?_
  intro p e s m args below meth c hx hb hr hlocks hml hown hts hK hSX hG ls hl Qf hQf
  have hown : s.vm.findClass RX11 = some m.cls := hown
  have hl : lv_has ls 1 [(0, .int (J a0))] := hl
  unfold pg_X11_yearDay at h
  refine lv_sipush (v := J 365) hx hb dX11_yearDay_0 (by decide) ?_
  refine lv_iload_n hx hb dX11_yearDay_3 rfl (lv_at hl 0 rfl) ?_
  refine j_imul hx hb dX11_yearDay_4 ?_
  refine lv_iload_n hx hb dX11_yearDay_5 rfl (lv_at hl 0 rfl) ?_
  refine lv_iconst (v := J 3) hx hb dX11_yearDay_6 (by decide) ?_
  refine j_iadd hx hb dX11_yearDay_7 ?_
  refine lv_iconst (v := J 4) hx hb dX11_yearDay_8 (by decide) ?_
  obtain ⟨g1, h⟩ := h
  refine j_idiv hx hb dX11_yearDay_9 g1 (by decide) ?_
  refine j_iadd hx hb dX11_yearDay_10 ?_
  rw [hQf]
  exact j_ireti hx hb hr hlocks hG ⟨rfl, rfl⟩ (by decide) dX11_yearDay_11

def pf_X11_weekday (a0 : Int) : Int :=
(a0 + 5) % 7
def pg_X11_weekday (a0 : Int) : Prop :=
(0 ≤ (a0 + 5) ∧ (a0 + 5) < 2147483648) ∧
True
abbrev rm_X11_weekday : Room := { frames := 0, cells := 0, slots := 0, locals := 0 }
set_option maxRecDepth 100000 in
set_option maxHeartbeats 4000000 in
theorem A_X11_weekday (l : Launch) {D : va_G} {cy : Nat → ClassId} {o : Nat} {sK sV : Nat → Nat} {M : jT} {a0 : Int} (h : pg_X11_weekday a0) : CoI l yX11_weekday (wj yX11_weekday cX11_weekday 1 (some .int)) rm_X11_weekday D cy o sK sV M [.int (J a0)] (fun z M9 => z = pf_X11_weekday a0 ∧ M9 = M) := by
  refine j_ofW (cc := cX11_weekday) (maxL := 1) (ret := (some .int)) (by decide) rfl (Nat.le_of_ble_eq_true rfl) ?_
  intro p e s m args below meth c hx hb hr hlocks hml hown hts hK hSX hG ls hl Qf hQf
  have hown : s.vm.findClass RX11 = some m.cls := hown
  have hl : lv_has ls 1 [(0, .int (J a0))] := hl
  unfold pg_X11_weekday at h
  refine lv_iload_n hx hb dX11_weekday_0 rfl (lv_at hl 0 rfl) ?_
  refine lv_iconst (v := J 5) hx hb dX11_weekday_1 (by decide) ?_
  refine j_iadd hx hb dX11_weekday_2 ?_
  refine lv_bipush (v := J 7) hx hb dX11_weekday_3 (by decide) ?_
  obtain ⟨g1, h⟩ := h
  refine j_irem hx hb dX11_weekday_5 g1 (by decide) ?_
  rw [hQf]
  exact j_ireti hx hb hr hlocks hG ⟨rfl, rfl⟩ (by decide) dX11_weekday_6

def pf_X11_monthLength (a0 : Int) (a1 : Int) : Int :=
if a1 = 2 then (if a0 % 4 ≠ 0 then 28 else 29) else if a1 = 3 then 31 else if a1 = 4 then 30 else if a1 = 5 then 31 else if a1 = 6 then 30 else if a1 = 7 then 31 else if a1 = 8 then 31 else if a1 = 9 then 30 else if a1 = 10 then 31 else if a1 = 11 then 30 else 31
def pg_X11_monthLength (a0 : Int) (a1 : Int) : Prop :=
rg a1 ∧
((a1 = 2 → ((0 ≤ a0 ∧ a0 < 2147483648) ∧
rg (a0 % 4) ∧
((a0 % 4 ≠ 0 → True) ∧
(a0 % 4 = 0 → True)))) ∧
(a1 = 3 → True) ∧
(a1 = 4 → True) ∧
(a1 = 5 → True) ∧
(a1 = 6 → True) ∧
(a1 = 7 → True) ∧
(a1 = 8 → True) ∧
(a1 = 9 → True) ∧
(a1 = 10 → True) ∧
(a1 = 11 → True) ∧
(a1 ≠ 2 ∧ a1 ≠ 3 ∧ a1 ≠ 4 ∧ a1 ≠ 5 ∧ a1 ≠ 6 ∧ a1 ≠ 7 ∧ a1 ≠ 8 ∧ a1 ≠ 9 ∧ a1 ≠ 10 ∧ a1 ≠ 11 → True))
abbrev rm_X11_monthLength : Room := { frames := 0, cells := 0, slots := 0, locals := 0 }
set_option maxRecDepth 100000 in
set_option maxHeartbeats 4000000 in
theorem A_X11_monthLength (l : Launch) {D : va_G} {cy : Nat → ClassId} {o : Nat} {sK sV : Nat → Nat} {M : jT} {a0 : Int} {a1 : Int} (h : pg_X11_monthLength a0 a1) : CoI l yX11_monthLength (wj yX11_monthLength cX11_monthLength 2 (some .int)) rm_X11_monthLength D cy o sK sV M [.int (J a0), .int (J a1)] (fun z M9 => z = pf_X11_monthLength a0 a1 ∧ M9 = M) := by
  refine j_ofW (cc := cX11_monthLength) (maxL := 2) (ret := (some .int)) (by decide) rfl (Nat.le_of_ble_eq_true rfl) ?_
  intro p e s m args below meth c hx hb hr hlocks hml hown hts hK hSX hG ls hl Qf hQf
  have hown : s.vm.findClass RX11 = some m.cls := hown
  have hl : lv_has ls 2 [(0, .int (J a0)), (1, .int (J a1))] := hl
  unfold pg_X11_monthLength at h
  refine lv_iload_n hx hb dX11_monthLength_0 rfl (lv_at hl 1 rfl) ?_
  obtain ⟨g1, h⟩ := h
  rcases em_eqI (a1) 2 with c2 | c2_0
  · refine j_tsw hx hb dX11_monthLength_1 g1 (k := 2) (tgt := 56) c2 ⟨by decide, by decide, rfl⟩ (by decide) ?_
    have h := h.1 c2
    refine lv_iload_n hx hb dX11_monthLength_56 rfl (lv_at hl 0 rfl) ?_
    refine lv_iconst (v := J 4) hx hb dX11_monthLength_57 (by decide) ?_
    obtain ⟨g3, h⟩ := h
    refine j_irem hx hb dX11_monthLength_58 g3 (by decide) ?_
    obtain ⟨g5, h⟩ := h
    refine j_if_ne (tgt := 67) hx hb dX11_monthLength_59 (by decide) g5 (fun c4 => ?_) (fun c4 => ?_)
    · have h := h.1 c4
      refine lv_bipush (v := J 28) hx hb dX11_monthLength_67 (by decide) ?_
      rw [hQf]
      exact j_ireti hx hb hr hlocks hG ⟨(by unfold pf_X11_monthLength; rw [if_pos c2, if_pos c4]), rfl⟩ (by decide) dX11_monthLength_69
    · have h := h.2 c4
      refine lv_bipush (v := J 29) hx hb dX11_monthLength_62 (by decide) ?_
      refine lv_goto (tgt := 69) hx hb dX11_monthLength_64 (by decide) ?_
      rw [hQf]
      exact j_ireti hx hb hr hlocks hG ⟨(by unfold pf_X11_monthLength; rw [if_pos c2, if_neg (show ¬ (a0 % 4 ≠ 0) from by omega)]), rfl⟩ (by decide) dX11_monthLength_69
  · rcases em_eqI (a1) 3 with c2 | c2_1
    · refine j_tsw hx hb dX11_monthLength_1 g1 (k := 3) (tgt := 73) c2 ⟨by decide, by decide, rfl⟩ (by decide) ?_
      have h := h.2.1 c2
      refine lv_bipush (v := J 31) hx hb dX11_monthLength_73 (by decide) ?_
      rw [hQf]
      exact j_ireti hx hb hr hlocks hG ⟨(by unfold pf_X11_monthLength; rw [if_neg (show ¬ (a1 = 2) from by omega), if_pos c2]), rfl⟩ (by decide) dX11_monthLength_75
    · rcases em_eqI (a1) 4 with c2 | c2_2
      · refine j_tsw hx hb dX11_monthLength_1 g1 (k := 4) (tgt := 70) c2 ⟨by decide, by decide, rfl⟩ (by decide) ?_
        have h := h.2.2.1 c2
        refine lv_bipush (v := J 30) hx hb dX11_monthLength_70 (by decide) ?_
        rw [hQf]
        exact j_ireti hx hb hr hlocks hG ⟨(by unfold pf_X11_monthLength; rw [if_neg (show ¬ (a1 = 2) from by omega), if_neg (show ¬ (a1 = 3) from by omega), if_pos c2]), rfl⟩ (by decide) dX11_monthLength_72
      · rcases em_eqI (a1) 5 with c2 | c2_3
        · refine j_tsw hx hb dX11_monthLength_1 g1 (k := 5) (tgt := 73) c2 ⟨by decide, by decide, rfl⟩ (by decide) ?_
          have h := h.2.2.2.1 c2
          refine lv_bipush (v := J 31) hx hb dX11_monthLength_73 (by decide) ?_
          rw [hQf]
          exact j_ireti hx hb hr hlocks hG ⟨(by unfold pf_X11_monthLength; rw [if_neg (show ¬ (a1 = 2) from by omega), if_neg (show ¬ (a1 = 3) from by omega), if_neg (show ¬ (a1 = 4) from by omega), if_pos c2]), rfl⟩ (by decide) dX11_monthLength_75
        · rcases em_eqI (a1) 6 with c2 | c2_4
          · refine j_tsw hx hb dX11_monthLength_1 g1 (k := 6) (tgt := 70) c2 ⟨by decide, by decide, rfl⟩ (by decide) ?_
            have h := h.2.2.2.2.1 c2
            refine lv_bipush (v := J 30) hx hb dX11_monthLength_70 (by decide) ?_
            rw [hQf]
            exact j_ireti hx hb hr hlocks hG ⟨(by unfold pf_X11_monthLength; rw [if_neg (show ¬ (a1 = 2) from by omega), if_neg (show ¬ (a1 = 3) from by omega), if_neg (show ¬ (a1 = 4) from by omega), if_neg (show ¬ (a1 = 5) from by omega), if_pos c2]), rfl⟩ (by decide) dX11_monthLength_72
          · rcases em_eqI (a1) 7 with c2 | c2_5
            · refine j_tsw hx hb dX11_monthLength_1 g1 (k := 7) (tgt := 73) c2 ⟨by decide, by decide, rfl⟩ (by decide) ?_
              have h := h.2.2.2.2.2.1 c2
              refine lv_bipush (v := J 31) hx hb dX11_monthLength_73 (by decide) ?_
              rw [hQf]
              exact j_ireti hx hb hr hlocks hG ⟨(by unfold pf_X11_monthLength; rw [if_neg (show ¬ (a1 = 2) from by omega), if_neg (show ¬ (a1 = 3) from by omega), if_neg (show ¬ (a1 = 4) from by omega), if_neg (show ¬ (a1 = 5) from by omega), if_neg (show ¬ (a1 = 6) from by omega), if_pos c2]), rfl⟩ (by decide) dX11_monthLength_75
            · rcases em_eqI (a1) 8 with c2 | c2_6
              · refine j_tsw hx hb dX11_monthLength_1 g1 (k := 8) (tgt := 73) c2 ⟨by decide, by decide, rfl⟩ (by decide) ?_
                have h := h.2.2.2.2.2.2.1 c2
                refine lv_bipush (v := J 31) hx hb dX11_monthLength_73 (by decide) ?_
                rw [hQf]
                exact j_ireti hx hb hr hlocks hG ⟨(by unfold pf_X11_monthLength; rw [if_neg (show ¬ (a1 = 2) from by omega), if_neg (show ¬ (a1 = 3) from by omega), if_neg (show ¬ (a1 = 4) from by omega), if_neg (show ¬ (a1 = 5) from by omega), if_neg (show ¬ (a1 = 6) from by omega), if_neg (show ¬ (a1 = 7) from by omega), if_pos c2]), rfl⟩ (by decide) dX11_monthLength_75
              · rcases em_eqI (a1) 9 with c2 | c2_7
                · refine j_tsw hx hb dX11_monthLength_1 g1 (k := 9) (tgt := 70) c2 ⟨by decide, by decide, rfl⟩ (by decide) ?_
                  have h := h.2.2.2.2.2.2.2.1 c2
                  refine lv_bipush (v := J 30) hx hb dX11_monthLength_70 (by decide) ?_
                  rw [hQf]
                  exact j_ireti hx hb hr hlocks hG ⟨(by unfold pf_X11_monthLength; rw [if_neg (show ¬ (a1 = 2) from by omega), if_neg (show ¬ (a1 = 3) from by omega), if_neg (show ¬ (a1 = 4) from by omega), if_neg (show ¬ (a1 = 5) from by omega), if_neg (show ¬ (a1 = 6) from by omega), if_neg (show ¬ (a1 = 7) from by omega), if_neg (show ¬ (a1 = 8) from by omega), if_pos c2]), rfl⟩ (by decide) dX11_monthLength_72
                · rcases em_eqI (a1) 10 with c2 | c2_8
                  · refine j_tsw hx hb dX11_monthLength_1 g1 (k := 10) (tgt := 73) c2 ⟨by decide, by decide, rfl⟩ (by decide) ?_
                    have h := h.2.2.2.2.2.2.2.2.1 c2
                    refine lv_bipush (v := J 31) hx hb dX11_monthLength_73 (by decide) ?_
                    rw [hQf]
                    exact j_ireti hx hb hr hlocks hG ⟨(by unfold pf_X11_monthLength; rw [if_neg (show ¬ (a1 = 2) from by omega), if_neg (show ¬ (a1 = 3) from by omega), if_neg (show ¬ (a1 = 4) from by omega), if_neg (show ¬ (a1 = 5) from by omega), if_neg (show ¬ (a1 = 6) from by omega), if_neg (show ¬ (a1 = 7) from by omega), if_neg (show ¬ (a1 = 8) from by omega), if_neg (show ¬ (a1 = 9) from by omega), if_pos c2]), rfl⟩ (by decide) dX11_monthLength_75
                  · rcases em_eqI (a1) 11 with c2 | c2_9
                    · refine j_tsw hx hb dX11_monthLength_1 g1 (k := 11) (tgt := 70) c2 ⟨by decide, by decide, rfl⟩ (by decide) ?_
                      have h := h.2.2.2.2.2.2.2.2.2.1 c2
                      refine lv_bipush (v := J 30) hx hb dX11_monthLength_70 (by decide) ?_
                      rw [hQf]
                      exact j_ireti hx hb hr hlocks hG ⟨(by unfold pf_X11_monthLength; rw [if_neg (show ¬ (a1 = 2) from by omega), if_neg (show ¬ (a1 = 3) from by omega), if_neg (show ¬ (a1 = 4) from by omega), if_neg (show ¬ (a1 = 5) from by omega), if_neg (show ¬ (a1 = 6) from by omega), if_neg (show ¬ (a1 = 7) from by omega), if_neg (show ¬ (a1 = 8) from by omega), if_neg (show ¬ (a1 = 9) from by omega), if_neg (show ¬ (a1 = 10) from by omega), if_pos c2]), rfl⟩ (by decide) dX11_monthLength_72
                    · have c2 : a1 ≠ 2 ∧ a1 ≠ 3 ∧ a1 ≠ 4 ∧ a1 ≠ 5 ∧ a1 ≠ 6 ∧ a1 ≠ 7 ∧ a1 ≠ 8 ∧ a1 ≠ 9 ∧ a1 ≠ 10 ∧ a1 ≠ 11 := ⟨c2_0, c2_1, c2_2, c2_3, c2_4, c2_5, c2_6, c2_7, c2_8, c2_9⟩
                      have h := h.2.2.2.2.2.2.2.2.2.2 c2
                      refine j_tswd hx hb dX11_monthLength_1 g1 (tgt := 73) (by omega) (by decide) ?_
                      refine lv_bipush (v := J 31) hx hb dX11_monthLength_73 (by decide) ?_
                      rw [hQf]
                      exact j_ireti hx hb hr hlocks hG ⟨(by unfold pf_X11_monthLength; rw [if_neg (show ¬ (a1 = 2) from by omega), if_neg (show ¬ (a1 = 3) from by omega), if_neg (show ¬ (a1 = 4) from by omega), if_neg (show ¬ (a1 = 5) from by omega), if_neg (show ¬ (a1 = 6) from by omega), if_neg (show ¬ (a1 = 7) from by omega), if_neg (show ¬ (a1 = 8) from by omega), if_neg (show ¬ (a1 = 9) from by omega), if_neg (show ¬ (a1 = 10) from by omega), if_neg (show ¬ (a1 = 11) from by omega)]), rfl⟩ (by decide) dX11_monthLength_75

abbrev pb_X11_isDay (a0 : Int) : Prop :=
pb_X11_in a0 0 11687
def pg_X11_isDay (a0 : Int) : Prop :=
(pg_X11_in a0 0 11687) ∧
True
abbrev rm_X11_isDay : Room := { frames := 1, cells := 0, slots := 0, locals := 22 }
set_option maxRecDepth 100000 in
set_option maxHeartbeats 4000000 in
theorem A_X11_isDay (l : Launch) {D : va_G} {cy : Nat → ClassId} {o : Nat} {sK sV : Nat → Nat} {M : jT} {a0 : Int} (h : pg_X11_isDay a0) : CoI l yX11_isDay (wj yX11_isDay cX11_isDay 1 (some .boolean)) rm_X11_isDay D cy o sK sV M [.int (J a0)] (fun z M9 => z = b2i (pb_X11_isDay a0) ∧ M9 = M) := by
  refine j_ofW (cc := cX11_isDay) (maxL := 1) (ret := (some .boolean)) (by decide) rfl (Nat.le_of_ble_eq_true rfl) ?_
  intro p e s m args below meth c hx hb hr hlocks hml hown hts hK hSX hG ls hl Qf hQf
  have hown : s.vm.findClass RX11 = some m.cls := hown
  have hl : lv_has ls 1 [(0, .int (J a0))] := hl
  unfold pg_X11_isDay at h
  refine lv_iload_n hx hb dX11_isDay_0 rfl (lv_at hl 0 rfl) ?_
  refine lv_iconst (v := J 0) hx hb dX11_isDay_1 (by decide) ?_
  refine lv_sipush (v := J 11687) hx hb dX11_isDay_2 (by decide) ?_
  obtain ⟨g1, h⟩ := h
  refine j_conti (va_runS (As := [.int (J a0), .int (J 0), .int (J 11687)]) (rest := []) ⟨hx, hb, hml, hown, hts⟩ (A_X11_in l g1) (va_cwS 3 hts (gj_S ml_RX11_106 i_X11_in n_RX11 k_X11_in) rfl rfl rfl (by decide +kernel) ⟨by exact Nat.le_of_ble_eq_true rfl, by exact Nat.le_of_ble_eq_true rfl⟩) (j_preS hK hSX hG) rfl rfl hl.1 rfl (lv_room (Nat.le_of_ble_eq_true rfl)) dX11_isDay_5 ⟨by exact Nat.le_of_ble_eq_true rfl, by exact Nat.le_of_ble_eq_true rfl⟩) hG (c2 := 0) (s2 := 0) ⟨by exact Nat.le_of_ble_eq_true rfl, by exact Nat.le_of_ble_eq_true rfl⟩ (fun z2 M3 ez2 H locs hG => ?_)
  obtain ⟨ez2, eM3⟩ := ez2
  subst ez2
  rw [eM3] at hG
  rw [hQf]
  exact j_iretn hx hb hr hlocks (nar_b (b2i_rng _)) hG ⟨(b2i_iff Iff.rfl), rfl⟩ (by decide) dX11_isDay_8

abbrev pb_X11_isBase (a0 : Int) : Prop :=
pb_X11_in a0 ((-720)) 840
def pg_X11_isBase (a0 : Int) : Prop :=
(pg_X11_in a0 ((-720)) 840) ∧
True
abbrev rm_X11_isBase : Room := { frames := 1, cells := 0, slots := 0, locals := 22 }
set_option maxRecDepth 100000 in
set_option maxHeartbeats 4000000 in
theorem A_X11_isBase (l : Launch) {D : va_G} {cy : Nat → ClassId} {o : Nat} {sK sV : Nat → Nat} {M : jT} {a0 : Int} (h : pg_X11_isBase a0) : CoI l yX11_isBase (wj yX11_isBase cX11_isBase 1 (some .boolean)) rm_X11_isBase D cy o sK sV M [.int (J a0)] (fun z M9 => z = b2i (pb_X11_isBase a0) ∧ M9 = M) := by
  refine j_ofW (cc := cX11_isBase) (maxL := 1) (ret := (some .boolean)) (by decide) rfl (Nat.le_of_ble_eq_true rfl) ?_
  intro p e s m args below meth c hx hb hr hlocks hml hown hts hK hSX hG ls hl Qf hQf
  have hown : s.vm.findClass RX11 = some m.cls := hown
  have hl : lv_has ls 1 [(0, .int (J a0))] := hl
  unfold pg_X11_isBase at h
  refine lv_iload_n hx hb dX11_isBase_0 rfl (lv_at hl 0 rfl) ?_
  refine lv_sipush (v := J (-720)) hx hb dX11_isBase_1 (by decide) ?_
  refine lv_sipush (v := J 840) hx hb dX11_isBase_4 (by decide) ?_
  obtain ⟨g1, h⟩ := h
  refine j_conti (va_runS (As := [.int (J a0), .int (J ((-720))), .int (J 840)]) (rest := []) ⟨hx, hb, hml, hown, hts⟩ (A_X11_in l g1) (va_cwS 3 hts (gj_S ml_RX11_106 i_X11_in n_RX11 k_X11_in) rfl rfl rfl (by decide +kernel) ⟨by exact Nat.le_of_ble_eq_true rfl, by exact Nat.le_of_ble_eq_true rfl⟩) (j_preS hK hSX hG) rfl rfl hl.1 rfl (lv_room (Nat.le_of_ble_eq_true rfl)) dX11_isBase_7 ⟨by exact Nat.le_of_ble_eq_true rfl, by exact Nat.le_of_ble_eq_true rfl⟩) hG (c2 := 0) (s2 := 0) ⟨by exact Nat.le_of_ble_eq_true rfl, by exact Nat.le_of_ble_eq_true rfl⟩ (fun z2 M3 ez2 H locs hG => ?_)
  obtain ⟨ez2, eM3⟩ := ez2
  subst ez2
  rw [eM3] at hG
  rw [hQf]
  exact j_iretn hx hb hr hlocks (nar_b (b2i_rng _)) hG ⟨(b2i_iff Iff.rfl), rfl⟩ (by decide) dX11_isBase_10

abbrev pb_X11_isInstant (a0 : Int) : Prop :=
pb_X11_in a0 ((-2000)) 16832719
def pg_X11_isInstant (a0 : Int) : Prop :=
(pg_X11_in a0 ((-2000)) 16832719) ∧
True
abbrev rm_X11_isInstant : Room := { frames := 1, cells := 0, slots := 0, locals := 22 }
set_option maxRecDepth 100000 in
set_option maxHeartbeats 4000000 in
theorem A_X11_isInstant (l : Launch) {D : va_G} {cy : Nat → ClassId} {o : Nat} {sK sV : Nat → Nat} {M : jT} {a0 : Int} (h : pg_X11_isInstant a0) : CoI l yX11_isInstant (wj yX11_isInstant cX11_isInstant 1 (some .boolean)) rm_X11_isInstant D cy o sK sV M [.int (J a0)] (fun z M9 => z = b2i (pb_X11_isInstant a0) ∧ M9 = M) := by
  refine j_ofW (cc := cX11_isInstant) (maxL := 1) (ret := (some .boolean)) (by decide) rfl (Nat.le_of_ble_eq_true rfl) ?_
  intro p e s m args below meth c hx hb hr hlocks hml hown hts hK hSX hG ls hl Qf hQf
  have hown : s.vm.findClass RX11 = some m.cls := hown
  have hl : lv_has ls 1 [(0, .int (J a0))] := hl
  have w_ck_RX11_202 := hts _ (List.mem_cons_of_mem _ ck_RX11_202)
  unfold pg_X11_isInstant at h
  refine lv_iload_n hx hb dX11_isInstant_0 rfl (lv_at hl 0 rfl) ?_
  refine lv_sipush (v := J (-2000)) hx hb dX11_isInstant_1 (by decide) ?_
  refine lv_ldc (v := J 16832719) hx hb hown (show (Cond.constant RX11 202 (J 16832719)).before args s = true from w_ck_RX11_202) dX11_isInstant_4 ?_
  obtain ⟨g1, h⟩ := h
  refine j_conti (va_runS (As := [.int (J a0), .int (J ((-2000))), .int (J 16832719)]) (rest := []) ⟨hx, hb, hml, hown, hts⟩ (A_X11_in l g1) (va_cwS 3 hts (gj_S ml_RX11_106 i_X11_in n_RX11 k_X11_in) rfl rfl rfl (by decide +kernel) ⟨by exact Nat.le_of_ble_eq_true rfl, by exact Nat.le_of_ble_eq_true rfl⟩) (j_preS hK hSX hG) rfl rfl hl.1 rfl (lv_room (Nat.le_of_ble_eq_true rfl)) dX11_isInstant_6 ⟨by exact Nat.le_of_ble_eq_true rfl, by exact Nat.le_of_ble_eq_true rfl⟩) hG (c2 := 0) (s2 := 0) ⟨by exact Nat.le_of_ble_eq_true rfl, by exact Nat.le_of_ble_eq_true rfl⟩ (fun z2 M3 ez2 H locs hG => ?_)
  obtain ⟨ez2, eM3⟩ := ez2
  subst ez2
  rw [eM3] at hG
  rw [hQf]
  exact j_iretn hx hb hr hlocks (nar_b (b2i_rng _)) hG ⟨(b2i_iff Iff.rfl), rfl⟩ (by decide) dX11_isInstant_9

abbrev pb_X11_isLocal (a0 : Int) : Prop :=
pb_X11_in a0 0 16830719
def pg_X11_isLocal (a0 : Int) : Prop :=
(pg_X11_in a0 0 16830719) ∧
True
abbrev rm_X11_isLocal : Room := { frames := 1, cells := 0, slots := 0, locals := 22 }
set_option maxRecDepth 100000 in
set_option maxHeartbeats 4000000 in
theorem A_X11_isLocal (l : Launch) {D : va_G} {cy : Nat → ClassId} {o : Nat} {sK sV : Nat → Nat} {M : jT} {a0 : Int} (h : pg_X11_isLocal a0) : CoI l yX11_isLocal (wj yX11_isLocal cX11_isLocal 1 (some .boolean)) rm_X11_isLocal D cy o sK sV M [.int (J a0)] (fun z M9 => z = b2i (pb_X11_isLocal a0) ∧ M9 = M) := by
  refine j_ofW (cc := cX11_isLocal) (maxL := 1) (ret := (some .boolean)) (by decide) rfl (Nat.le_of_ble_eq_true rfl) ?_
  intro p e s m args below meth c hx hb hr hlocks hml hown hts hK hSX hG ls hl Qf hQf
  have hown : s.vm.findClass RX11 = some m.cls := hown
  have hl : lv_has ls 1 [(0, .int (J a0))] := hl
  have w_ck_RX11_209 := hts _ (List.mem_cons_of_mem _ ck_RX11_209)
  unfold pg_X11_isLocal at h
  refine lv_iload_n hx hb dX11_isLocal_0 rfl (lv_at hl 0 rfl) ?_
  refine lv_iconst (v := J 0) hx hb dX11_isLocal_1 (by decide) ?_
  refine lv_ldc (v := J 16830719) hx hb hown (show (Cond.constant RX11 209 (J 16830719)).before args s = true from w_ck_RX11_209) dX11_isLocal_2 ?_
  obtain ⟨g1, h⟩ := h
  refine j_conti (va_runS (As := [.int (J a0), .int (J 0), .int (J 16830719)]) (rest := []) ⟨hx, hb, hml, hown, hts⟩ (A_X11_in l g1) (va_cwS 3 hts (gj_S ml_RX11_106 i_X11_in n_RX11 k_X11_in) rfl rfl rfl (by decide +kernel) ⟨by exact Nat.le_of_ble_eq_true rfl, by exact Nat.le_of_ble_eq_true rfl⟩) (j_preS hK hSX hG) rfl rfl hl.1 rfl (lv_room (Nat.le_of_ble_eq_true rfl)) dX11_isLocal_4 ⟨by exact Nat.le_of_ble_eq_true rfl, by exact Nat.le_of_ble_eq_true rfl⟩) hG (c2 := 0) (s2 := 0) ⟨by exact Nat.le_of_ble_eq_true rfl, by exact Nat.le_of_ble_eq_true rfl⟩ (fun z2 M3 ez2 H locs hG => ?_)
  obtain ⟨ez2, eM3⟩ := ez2
  subst ez2
  rw [eM3] at hG
  rw [hQf]
  exact j_iretn hx hb hr hlocks (nar_b (b2i_rng _)) hG ⟨(b2i_iff Iff.rfl), rfl⟩ (by decide) dX11_isLocal_7

abbrev pb_X11_isDate (a0 : Int) : Prop :=
pb_X11_in a0 1 31 ∨ ((¬ (pb_X11_in a0 100 599) ∧ pb_X11_in a0 1010 1319 ∧ a0 % 10 ≤ 6) ∨ (pb_X11_in a0 100 599 ∧ a0 % 100 ≤ 6))
def pg_X11_isDate (a0 : Int) : Prop :=
(pg_X11_in a0 1 31) ∧
((¬ (pb_X11_in a0 1 31) → ((pg_X11_in a0 100 599) ∧
((¬ (pb_X11_in a0 100 599) → ((pg_X11_in a0 1010 1319) ∧
((¬ (pb_X11_in a0 1010 1319) → True) ∧
(pb_X11_in a0 1010 1319 → ((0 ≤ a0 ∧ a0 < 2147483648) ∧
rg (a0 % 10) ∧
((6 < a0 % 10 → True) ∧
(a0 % 10 ≤ 6 → True))))))) ∧
(pb_X11_in a0 100 599 → ((0 ≤ a0 ∧ a0 < 2147483648) ∧
rg (a0 % 100) ∧
((6 < a0 % 100 → True) ∧
(a0 % 100 ≤ 6 → True))))))) ∧
(pb_X11_in a0 1 31 → True))
abbrev rm_X11_isDate : Room := { frames := 1, cells := 0, slots := 0, locals := 22 }
set_option maxRecDepth 100000 in
set_option maxHeartbeats 4000000 in
theorem A_X11_isDate (l : Launch) {D : va_G} {cy : Nat → ClassId} {o : Nat} {sK sV : Nat → Nat} {M : jT} {a0 : Int} (h : pg_X11_isDate a0) : CoI l yX11_isDate (wj yX11_isDate cX11_isDate 1 (some .boolean)) rm_X11_isDate D cy o sK sV M [.int (J a0)] (fun z M9 => z = b2i (pb_X11_isDate a0) ∧ M9 = M) := by
  refine j_ofW (cc := cX11_isDate) (maxL := 1) (ret := (some .boolean)) (by decide) rfl (Nat.le_of_ble_eq_true rfl) ?_
  intro p e s m args below meth c hx hb hr hlocks hml hown hts hK hSX hG ls hl Qf hQf
  have hown : s.vm.findClass RX11 = some m.cls := hown
  have hl : lv_has ls 1 [(0, .int (J a0))] := hl
  unfold pg_X11_isDate at h
  refine lv_iload_n hx hb dX11_isDate_0 rfl (lv_at hl 0 rfl) ?_
  refine lv_iconst (v := J 1) hx hb dX11_isDate_1 (by decide) ?_
  refine lv_bipush (v := J 31) hx hb dX11_isDate_2 (by decide) ?_
  obtain ⟨g1, h⟩ := h
  refine j_conti (va_runS (As := [.int (J a0), .int (J 1), .int (J 31)]) (rest := []) ⟨hx, hb, hml, hown, hts⟩ (A_X11_in l g1) (va_cwS 3 hts (gj_S ml_RX11_106 i_X11_in n_RX11 k_X11_in) rfl rfl rfl (by decide +kernel) ⟨by exact Nat.le_of_ble_eq_true rfl, by exact Nat.le_of_ble_eq_true rfl⟩) (j_preS hK hSX hG) rfl rfl hl.1 rfl (lv_room (Nat.le_of_ble_eq_true rfl)) dX11_isDate_4 ⟨by exact Nat.le_of_ble_eq_true rfl, by exact Nat.le_of_ble_eq_true rfl⟩) hG (c2 := 0) (s2 := 0) ⟨by exact Nat.le_of_ble_eq_true rfl, by exact Nat.le_of_ble_eq_true rfl⟩ (fun z2 M3 ez2 H locs hG => ?_)
  obtain ⟨ez2, eM3⟩ := ez2
  subst ez2
  rw [eM3] at hG
  refine j_if_eq_b (tgt := 12) hx hb dX11_isDate_7 (by decide) (fun c4 => ?_) (fun c4 => ?_)
  · have h := h.1 c4
    refine lv_iload_n hx hb dX11_isDate_12 rfl (lv_at hl 0 rfl) ?_
    refine lv_bipush (v := J 100) hx hb dX11_isDate_13 (by decide) ?_
    refine lv_sipush (v := J 599) hx hb dX11_isDate_15 (by decide) ?_
    obtain ⟨g5, h⟩ := h
    refine j_conti (va_runS (As := [.int (J a0), .int (J 100), .int (J 599)]) (rest := []) ⟨hx, hb, hml, hown, hts⟩ (A_X11_in l g5) (va_cwS 3 hts (gj_S ml_RX11_106 i_X11_in n_RX11 k_X11_in) rfl rfl rfl (by decide +kernel) ⟨by exact Nat.le_of_ble_eq_true rfl, by exact Nat.le_of_ble_eq_true rfl⟩) (j_preS hK hSX hG) rfl rfl hl.1 rfl (lv_room (Nat.le_of_ble_eq_true rfl)) dX11_isDate_18 ⟨by exact Nat.le_of_ble_eq_true rfl, by exact Nat.le_of_ble_eq_true rfl⟩) hG (c2 := 0) (s2 := 0) ⟨by exact Nat.le_of_ble_eq_true rfl, by exact Nat.le_of_ble_eq_true rfl⟩ (fun z6 M7 ez6 H locs hG => ?_)
    obtain ⟨ez6, eM7⟩ := ez6
    subst ez6
    rw [eM7] at hG
    refine j_if_eq_b (tgt := 39) hx hb dX11_isDate_21 (by decide) (fun c8 => ?_) (fun c8 => ?_)
    · have h := h.1 c8
      refine lv_iload_n hx hb dX11_isDate_39 rfl (lv_at hl 0 rfl) ?_
      refine lv_sipush (v := J 1010) hx hb dX11_isDate_40 (by decide) ?_
      refine lv_sipush (v := J 1319) hx hb dX11_isDate_43 (by decide) ?_
      obtain ⟨g9, h⟩ := h
      refine j_conti (va_runS (As := [.int (J a0), .int (J 1010), .int (J 1319)]) (rest := []) ⟨hx, hb, hml, hown, hts⟩ (A_X11_in l g9) (va_cwS 3 hts (gj_S ml_RX11_106 i_X11_in n_RX11 k_X11_in) rfl rfl rfl (by decide +kernel) ⟨by exact Nat.le_of_ble_eq_true rfl, by exact Nat.le_of_ble_eq_true rfl⟩) (j_preS hK hSX hG) rfl rfl hl.1 rfl (lv_room (Nat.le_of_ble_eq_true rfl)) dX11_isDate_46 ⟨by exact Nat.le_of_ble_eq_true rfl, by exact Nat.le_of_ble_eq_true rfl⟩) hG (c2 := 0) (s2 := 0) ⟨by exact Nat.le_of_ble_eq_true rfl, by exact Nat.le_of_ble_eq_true rfl⟩ (fun z10 M11 ez10 H locs hG => ?_)
      obtain ⟨ez10, eM11⟩ := ez10
      subst ez10
      rw [eM11] at hG
      refine j_if_eq_b (tgt := 65) hx hb dX11_isDate_49 (by decide) (fun c12 => ?_) (fun c12 => ?_)
      · have h := h.1 c12
        refine lv_iconst (v := J 0) hx hb dX11_isDate_65 (by decide) ?_
        rw [hQf]
        exact j_iretn hx hb hr hlocks (nar_b (by decide)) hG ⟨(b2i_iff0 ((or_iff_right c4).trans ((pj_t c8 c8).trans (iff_of_false (fun q8 => c12 q8.1) id)))), rfl⟩ (by decide) dX11_isDate_66
      · have h := h.2 c12
        refine lv_iload_n hx hb dX11_isDate_52 rfl (lv_at hl 0 rfl) ?_
        refine lv_bipush (v := J 10) hx hb dX11_isDate_53 (by decide) ?_
        obtain ⟨g13, h⟩ := h
        refine j_irem hx hb dX11_isDate_55 g13 (by decide) ?_
        refine lv_bipush (v := J 6) hx hb dX11_isDate_56 (by decide) ?_
        obtain ⟨g15, h⟩ := h
        refine j_icmp_gt (tgt := 65) hx hb dX11_isDate_58 (by decide) g15 (by decide) (fun c14 => ?_) (fun c14 => ?_)
        · have h := h.1 c14
          refine lv_iconst (v := J 0) hx hb dX11_isDate_65 (by decide) ?_
          rw [hQf]
          exact j_iretn hx hb hr hlocks (nar_b (by decide)) hG ⟨(b2i_iff0 ((or_iff_right c4).trans ((pj_t c8 c8).trans ((and_iff_right c12).trans (iff_of_false (show ¬ (a0 % 10 ≤ 6) from by omega) id))))), rfl⟩ (by decide) dX11_isDate_66
        · have h := h.2 c14
          refine lv_iconst (v := J 1) hx hb dX11_isDate_61 (by decide) ?_
          refine lv_goto (tgt := 66) hx hb dX11_isDate_62 (by decide) ?_
          rw [hQf]
          exact j_iretn hx hb hr hlocks (nar_b (by decide)) hG ⟨(b2i_iff1 ((or_iff_right c4).trans ((pj_t c8 c8).trans ((and_iff_right c12).trans (iff_of_true c14 trivial))))), rfl⟩ (by decide) dX11_isDate_66
    · have h := h.2 c8
      refine lv_iload_n hx hb dX11_isDate_24 rfl (lv_at hl 0 rfl) ?_
      refine lv_bipush (v := J 100) hx hb dX11_isDate_25 (by decide) ?_
      obtain ⟨g16, h⟩ := h
      refine j_irem hx hb dX11_isDate_27 g16 (by decide) ?_
      refine lv_bipush (v := J 6) hx hb dX11_isDate_28 (by decide) ?_
      obtain ⟨g18, h⟩ := h
      refine j_icmp_gt (tgt := 37) hx hb dX11_isDate_30 (by decide) g18 (by decide) (fun c17 => ?_) (fun c17 => ?_)
      · have h := h.1 c17
        refine lv_iconst (v := J 0) hx hb dX11_isDate_37 (by decide) ?_
        rw [hQf]
        exact j_iretn hx hb hr hlocks (nar_b (by decide)) hG ⟨(b2i_iff0 ((or_iff_right c4).trans ((pj_f (fun q9 => q9 c8) c8).trans (iff_of_false (show ¬ (a0 % 100 ≤ 6) from by omega) id)))), rfl⟩ (by decide) dX11_isDate_38
      · have h := h.2 c17
        refine lv_iconst (v := J 1) hx hb dX11_isDate_33 (by decide) ?_
        refine lv_goto (tgt := 38) hx hb dX11_isDate_34 (by decide) ?_
        rw [hQf]
        exact j_iretn hx hb hr hlocks (nar_b (by decide)) hG ⟨(b2i_iff1 ((or_iff_right c4).trans ((pj_f (fun q9 => q9 c8) c8).trans (iff_of_true c17 trivial)))), rfl⟩ (by decide) dX11_isDate_38
  · have h := h.2 c4
    refine lv_iconst (v := J 1) hx hb dX11_isDate_10 (by decide) ?_
    rw [hQf]
    exact j_iretn hx hb hr hlocks (nar_b (by decide)) hG ⟨(b2i_iff1 (iff_of_true (Or.inl c4) trivial)), rfl⟩ (by decide) dX11_isDate_11

def pf_X11_zoneAt (a0 : Int) : Int :=
2 + (67 * a0)
abbrev rm_X11_zoneAt : Room := { frames := 0, cells := 0, slots := 0, locals := 0 }
set_option maxRecDepth 100000 in
set_option maxHeartbeats 4000000 in
theorem A_X11_zoneAt (l : Launch) {D : va_G} {cy : Nat → ClassId} {o : Nat} {sK sV : Nat → Nat} {M : jT} {a0 : Int} : CoI l yX11_zoneAt (wj yX11_zoneAt cX11_zoneAt 1 (some .int)) rm_X11_zoneAt D cy o sK sV M [.int (J a0)] (fun z M9 => z = pf_X11_zoneAt a0 ∧ M9 = M) := by
  refine j_ofW (cc := cX11_zoneAt) (maxL := 1) (ret := (some .int)) (by decide) rfl (Nat.le_of_ble_eq_true rfl) ?_
  intro p e s m args below meth c hx hb hr hlocks hml hown hts hK hSX hG ls hl Qf hQf
  have hown : s.vm.findClass RX11 = some m.cls := hown
  have hl : lv_has ls 1 [(0, .int (J a0))] := hl
  refine lv_iconst (v := J 2) hx hb dX11_zoneAt_0 (by decide) ?_
  refine lv_bipush (v := J 67) hx hb dX11_zoneAt_1 (by decide) ?_
  refine lv_iload_n hx hb dX11_zoneAt_3 rfl (lv_at hl 0 rfl) ?_
  refine j_imul hx hb dX11_zoneAt_4 ?_
  refine j_iadd hx hb dX11_zoneAt_5 ?_
  rw [hQf]
  exact j_ireti hx hb hr hlocks hG ⟨rfl, rfl⟩ (by decide) dX11_zoneAt_6

def pf_X11_ruleAt (a0 : Int) (a1 : Int) : Int :=
((pf_X11_zoneAt a0) + 3) + (7 * a1)
abbrev rm_X11_ruleAt : Room := { frames := 1, cells := 0, slots := 0, locals := 20 }
set_option maxRecDepth 100000 in
set_option maxHeartbeats 4000000 in
theorem A_X11_ruleAt (l : Launch) {D : va_G} {cy : Nat → ClassId} {o : Nat} {sK sV : Nat → Nat} {M : jT} {a0 : Int} {a1 : Int} : CoI l yX11_ruleAt (wj yX11_ruleAt cX11_ruleAt 2 (some .int)) rm_X11_ruleAt D cy o sK sV M [.int (J a0), .int (J a1)] (fun z M9 => z = pf_X11_ruleAt a0 a1 ∧ M9 = M) := by
  refine j_ofW (cc := cX11_ruleAt) (maxL := 2) (ret := (some .int)) (by decide) rfl (Nat.le_of_ble_eq_true rfl) ?_
  intro p e s m args below meth c hx hb hr hlocks hml hown hts hK hSX hG ls hl Qf hQf
  have hown : s.vm.findClass RX11 = some m.cls := hown
  have hl : lv_has ls 2 [(0, .int (J a0)), (1, .int (J a1))] := hl
  refine lv_iload_n hx hb dX11_ruleAt_0 rfl (lv_at hl 0 rfl) ?_
  refine j_conti (va_runS (As := [.int (J a0)]) (rest := []) ⟨hx, hb, hml, hown, hts⟩ (A_X11_zoneAt l) (va_cwS 1 hts (gj_S ml_RX11_123 i_X11_zoneAt n_RX11 k_X11_zoneAt) rfl rfl rfl (by decide +kernel) ⟨by exact Nat.le_of_ble_eq_true rfl, by exact Nat.le_of_ble_eq_true rfl⟩) (j_preS hK hSX hG) rfl rfl hl.1 rfl (lv_room (Nat.le_of_ble_eq_true rfl)) dX11_ruleAt_1 ⟨by exact Nat.le_of_ble_eq_true rfl, by exact Nat.le_of_ble_eq_true rfl⟩) hG (c2 := 0) (s2 := 0) ⟨by exact Nat.le_of_ble_eq_true rfl, by exact Nat.le_of_ble_eq_true rfl⟩ (fun z1 M2 ez1 H locs hG => ?_)
  obtain ⟨ez1, eM2⟩ := ez1
  subst ez1
  rw [eM2] at hG
  refine lv_iconst (v := J 3) hx hb dX11_ruleAt_4 (by decide) ?_
  refine j_iadd hx hb dX11_ruleAt_5 ?_
  refine lv_bipush (v := J 7) hx hb dX11_ruleAt_6 (by decide) ?_
  refine lv_iload_n hx hb dX11_ruleAt_8 rfl (lv_at hl 1 rfl) ?_
  refine j_imul hx hb dX11_ruleAt_9 ?_
  refine j_iadd hx hb dX11_ruleAt_10 ?_
  rw [hQf]
  exact j_ireti hx hb hr hlocks hG ⟨rfl, rfl⟩ (by decide) dX11_ruleAt_11

def pf_X11_meetingAt (a0 : Int) : Int :=
404 + (89 * a0)
abbrev rm_X11_meetingAt : Room := { frames := 0, cells := 0, slots := 0, locals := 0 }
set_option maxRecDepth 100000 in
set_option maxHeartbeats 4000000 in
theorem A_X11_meetingAt (l : Launch) {D : va_G} {cy : Nat → ClassId} {o : Nat} {sK sV : Nat → Nat} {M : jT} {a0 : Int} : CoI l yX11_meetingAt (wj yX11_meetingAt cX11_meetingAt 1 (some .int)) rm_X11_meetingAt D cy o sK sV M [.int (J a0)] (fun z M9 => z = pf_X11_meetingAt a0 ∧ M9 = M) := by
  refine j_ofW (cc := cX11_meetingAt) (maxL := 1) (ret := (some .int)) (by decide) rfl (Nat.le_of_ble_eq_true rfl) ?_
  intro p e s m args below meth c hx hb hr hlocks hml hown hts hK hSX hG ls hl Qf hQf
  have hown : s.vm.findClass RX11 = some m.cls := hown
  have hl : lv_has ls 1 [(0, .int (J a0))] := hl
  refine lv_sipush (v := J 404) hx hb dX11_meetingAt_0 (by decide) ?_
  refine lv_bipush (v := J 89) hx hb dX11_meetingAt_3 (by decide) ?_
  refine lv_iload_n hx hb dX11_meetingAt_5 rfl (lv_at hl 0 rfl) ?_
  refine j_imul hx hb dX11_meetingAt_6 ?_
  refine j_iadd hx hb dX11_meetingAt_7 ?_
  rw [hQf]
  exact j_ireti hx hb hr hlocks hG ⟨rfl, rfl⟩ (by decide) dX11_meetingAt_8

def pf_X11_rank (a0 : Int) : Int :=
if a0 < 100 then a0 + 100 else a0 - 100
def pg_X11_rank (a0 : Int) : Prop :=
rg a0 ∧
((a0 < 100 → True) ∧
(100 ≤ a0 → True))
abbrev rm_X11_rank : Room := { frames := 0, cells := 0, slots := 0, locals := 0 }
set_option maxRecDepth 100000 in
set_option maxHeartbeats 4000000 in
theorem A_X11_rank (l : Launch) {D : va_G} {cy : Nat → ClassId} {o : Nat} {sK sV : Nat → Nat} {M : jT} {a0 : Int} (h : pg_X11_rank a0) : CoI l yX11_rank (wj yX11_rank cX11_rank 1 (some .int)) rm_X11_rank D cy o sK sV M [.int (J a0)] (fun z M9 => z = pf_X11_rank a0 ∧ M9 = M) := by
  refine j_ofW (cc := cX11_rank) (maxL := 1) (ret := (some .int)) (by decide) rfl (Nat.le_of_ble_eq_true rfl) ?_
  intro p e s m args below meth c hx hb hr hlocks hml hown hts hK hSX hG ls hl Qf hQf
  have hown : s.vm.findClass RX11 = some m.cls := hown
  have hl : lv_has ls 1 [(0, .int (J a0))] := hl
  unfold pg_X11_rank at h
  refine lv_iload_n hx hb dX11_rank_0 rfl (lv_at hl 0 rfl) ?_
  refine lv_bipush (v := J 100) hx hb dX11_rank_1 (by decide) ?_
  obtain ⟨g2, h⟩ := h
  refine j_icmp_lt (tgt := 13) hx hb dX11_rank_3 (by decide) g2 (by decide) (fun c1 => ?_) (fun c1 => ?_)
  · have h := h.1 c1
    refine lv_iload_n hx hb dX11_rank_13 rfl (lv_at hl 0 rfl) ?_
    refine lv_bipush (v := J 100) hx hb dX11_rank_14 (by decide) ?_
    refine j_iadd hx hb dX11_rank_16 ?_
    rw [hQf]
    exact j_ireti hx hb hr hlocks hG ⟨(by unfold pf_X11_rank; rw [if_pos c1]), rfl⟩ (by decide) dX11_rank_17
  · have h := h.2 c1
    refine lv_iload_n hx hb dX11_rank_6 rfl (lv_at hl 0 rfl) ?_
    refine lv_bipush (v := J 100) hx hb dX11_rank_7 (by decide) ?_
    refine j_isub hx hb dX11_rank_9 ?_
    refine lv_goto (tgt := 17) hx hb dX11_rank_10 (by decide) ?_
    rw [hQf]
    exact j_ireti hx hb hr hlocks hG ⟨(by unfold pf_X11_rank; rw [if_neg (show ¬ (a0 < 100) from by omega)]), rfl⟩ (by decide) dX11_rank_17

abbrev pb_X11_isZone (M : jT) (a0 : Int) (a1 : Int) : Prop :=
pb_X11_in a1 0 ((M (a0 + 1) 0) - 1)
def pg_X11_isZone (M : jT) (a0 : Int) (a1 : Int) : Prop :=
(pg_X11_in a1 0 ((M (a0 + 1) 0) - 1)) ∧
True
abbrev rm_X11_isZone : Room := { frames := 1, cells := 0, slots := 0, locals := 22 }
set_option maxRecDepth 100000 in
set_option maxHeartbeats 4000000 in
theorem A_X11_isZone (l : Launch) {D : va_G} {cy : Nat → ClassId} {o : Nat} {sK sV : Nat → Nat} {M : jT} {a0 : Int} {a1 : Int} (ka0 : kd a0 = 11) (h : pg_X11_isZone M a0 a1) : CoI l yX11_isZone (wj yX11_isZone cX11_isZone 2 (some .boolean)) rm_X11_isZone D cy o sK sV M [.ref (rA o a0), .int (J a1)] (fun z M9 => z = b2i (pb_X11_isZone M a0 a1) ∧ M9 = M) := by
  refine j_ofW (cc := cX11_isZone) (maxL := 2) (ret := (some .boolean)) (by decide) rfl (Nat.le_of_ble_eq_true rfl) ?_
  intro p e s m args below meth c hx hb hr hlocks hml hown hts hK hSX hG ls hl Qf hQf
  have hown : s.vm.findClass RX11 = some m.cls := hown
  have hl : lv_has ls 2 [(0, .ref (rA o a0)), (1, .int (J a1))] := hl
  have w_fl_RX11_9 := hts _ (List.mem_cons_of_mem _ fl_RX11_9)
  unfold pg_X11_isZone at h
  refine lv_iload_n hx hb dX11_isZone_0 rfl (lv_at hl 1 rfl) ?_
  refine lv_iconst (v := J 0) hx hb dX11_isZone_1 (by decide) ?_
  refine lv_aload_n hx hb dX11_isZone_2 rfl (lv_at hl 0 rfl) ?_
  refine j_getr hx hb hts hown hK hG (k := a0) (fun w h => List.mem_cons_of_mem _ (u_X11 w h)) (ci := 10) rfl ka0 1 (k2 := a0 + 1) (by decide) (by show a0 + (1 : Int) = a0 + 1; omega) w_fl_RX11_9 dX11_isZone_3 ?_
  refine lv_iconst (v := J 0) hx hb dX11_isZone_6 (by decide) ?_
  refine j_iald hx hb hK hG (n := 1294) (kf_11_1 ka0) (by decide) (by decide) dX11_isZone_7 ?_
  refine lv_iconst (v := J 1) hx hb dX11_isZone_8 (by decide) ?_
  refine j_isub hx hb dX11_isZone_9 ?_
  obtain ⟨g1, h⟩ := h
  refine j_conti (va_runS (As := [.int (J a1), .int (J 0), .int (J ((M (a0 + 1) 0) - 1))]) (rest := []) ⟨hx, hb, hml, hown, hts⟩ (A_X11_in l g1) (va_cwS 3 hts (gj_S ml_RX11_106 i_X11_in n_RX11 k_X11_in) rfl rfl rfl (by decide +kernel) ⟨by exact Nat.le_of_ble_eq_true rfl, by exact Nat.le_of_ble_eq_true rfl⟩) (j_preS hK hSX hG) rfl rfl hl.1 rfl (lv_room (Nat.le_of_ble_eq_true rfl)) dX11_isZone_10 ⟨by exact Nat.le_of_ble_eq_true rfl, by exact Nat.le_of_ble_eq_true rfl⟩) hG (c2 := 0) (s2 := 0) ⟨by exact Nat.le_of_ble_eq_true rfl, by exact Nat.le_of_ble_eq_true rfl⟩ (fun z2 M3 ez2 H locs hG => ?_)
  obtain ⟨ez2, eM3⟩ := ez2
  subst ez2
  rw [eM3] at hG
  rw [hQf]
  exact j_iretn hx hb hr hlocks (nar_b (b2i_rng _)) hG ⟨(b2i_iff Iff.rfl), rfl⟩ (by decide) dX11_isZone_13

abbrev pb_X11_isRule (M : jT) (a0 : Int) (a1 : Int) (a2 : Int) : Prop :=
pb_X11_isZone M a0 a1 ∧ pb_X11_in a2 0 ((M (a0 + 1) ((pf_X11_zoneAt a1) + 1)) - 1)
def pg_X11_isRule (M : jT) (a0 : Int) (a1 : Int) (a2 : Int) : Prop :=
(pg_X11_isZone M a0 a1) ∧
((¬ (pb_X11_isZone M a0 a1) → True) ∧
(pb_X11_isZone M a0 a1 → ((0 ≤ (pf_X11_zoneAt a1) + 1 ∧ (pf_X11_zoneAt a1) + 1 < 1294) ∧
(pg_X11_in a2 0 ((M (a0 + 1) ((pf_X11_zoneAt a1) + 1)) - 1)) ∧
((¬ (pb_X11_in a2 0 ((M (a0 + 1) ((pf_X11_zoneAt a1) + 1)) - 1)) → True) ∧
(pb_X11_in a2 0 ((M (a0 + 1) ((pf_X11_zoneAt a1) + 1)) - 1) → True)))))
abbrev rm_X11_isRule : Room := { frames := 2, cells := 0, slots := 0, locals := 43 }
set_option maxRecDepth 100000 in
set_option maxHeartbeats 4000000 in
theorem A_X11_isRule (l : Launch) {D : va_G} {cy : Nat → ClassId} {o : Nat} {sK sV : Nat → Nat} {M : jT} {a0 : Int} {a1 : Int} {a2 : Int} (ka0 : kd a0 = 11) (h : pg_X11_isRule M a0 a1 a2) : CoI l yX11_isRule (wj yX11_isRule cX11_isRule 3 (some .boolean)) rm_X11_isRule D cy o sK sV M [.ref (rA o a0), .int (J a1), .int (J a2)] (fun z M9 => z = b2i (pb_X11_isRule M a0 a1 a2) ∧ M9 = M) := by
  refine j_ofW (cc := cX11_isRule) (maxL := 3) (ret := (some .boolean)) (by decide) rfl (Nat.le_of_ble_eq_true rfl) ?_
  intro p e s m args below meth c hx hb hr hlocks hml hown hts hK hSX hG ls hl Qf hQf
  have hown : s.vm.findClass RX11 = some m.cls := hown
  have hl : lv_has ls 3 [(0, .ref (rA o a0)), (1, .int (J a1)), (2, .int (J a2))] := hl
  have w_fl_RX11_9 := hts _ (List.mem_cons_of_mem _ fl_RX11_9)
  unfold pg_X11_isRule at h
  refine lv_aload_n hx hb dX11_isRule_0 rfl (lv_at hl 0 rfl) ?_
  refine lv_iload_n hx hb dX11_isRule_1 rfl (lv_at hl 1 rfl) ?_
  obtain ⟨g1, h⟩ := h
  refine j_conti (va_runV (As := [.int (J a1)]) (rest := []) ⟨hx, hb, hml, hown, hts⟩ (A_X11_isZone l ka0 g1) (cwV 1 hts (gj_V ml_RX11_126 i_X11_isZone s_X11_isZone n_RX11 k_X11_isZone) rfl rfl rfl (by decide +kernel) ⟨by exact Nat.le_of_ble_eq_true rfl, by exact Nat.le_of_ble_eq_true rfl⟩) (j_preV hK hSX hG (ci := 10) rfl ka0 (by decide)) rfl rfl hl.1 rfl (lv_room (Nat.le_of_ble_eq_true rfl)) dX11_isRule_2 ⟨by exact Nat.le_of_ble_eq_true rfl, by exact Nat.le_of_ble_eq_true rfl⟩) hG (c2 := 0) (s2 := 0) ⟨by exact Nat.le_of_ble_eq_true rfl, by exact Nat.le_of_ble_eq_true rfl⟩ (fun z2 M3 ez2 H locs hG => ?_)
  obtain ⟨ez2, eM3⟩ := ez2
  subst ez2
  rw [eM3] at hG
  refine j_if_eq_b (tgt := 33) hx hb dX11_isRule_5 (by decide) (fun c4 => ?_) (fun c4 => ?_)
  · have h := h.1 c4
    refine lv_iconst (v := J 0) hx hb dX11_isRule_33 (by decide) ?_
    rw [hQf]
    exact j_iretn hx hb hr hlocks (nar_b (by decide)) hG ⟨(b2i_iff0 (iff_of_false (fun q8 => c4 q8.1) id)), rfl⟩ (by decide) dX11_isRule_34
  · have h := h.2 c4
    refine lv_iload_n hx hb dX11_isRule_8 rfl (lv_at hl 2 rfl) ?_
    refine lv_iconst (v := J 0) hx hb dX11_isRule_9 (by decide) ?_
    refine lv_aload_n hx hb dX11_isRule_10 rfl (lv_at hl 0 rfl) ?_
    refine j_getr hx hb hts hown hK hG (k := a0) (fun w h => List.mem_cons_of_mem _ (u_X11 w h)) (ci := 10) rfl ka0 1 (k2 := a0 + 1) (by decide) (by show a0 + (1 : Int) = a0 + 1; omega) w_fl_RX11_9 dX11_isRule_11 ?_
    refine lv_iload_n hx hb dX11_isRule_14 rfl (lv_at hl 1 rfl) ?_
    refine j_conti (va_runS (As := [.int (J a1)]) (rest := [.ref (rA o (a0 + 1)), .int (J 0), .int (J a2)]) ⟨hx, hb, hml, hown, hts⟩ (A_X11_zoneAt l) (va_cwS 1 hts (gj_S ml_RX11_123 i_X11_zoneAt n_RX11 k_X11_zoneAt) rfl rfl rfl (by decide +kernel) ⟨by exact Nat.le_of_ble_eq_true rfl, by exact Nat.le_of_ble_eq_true rfl⟩) (j_preS hK hSX hG) rfl rfl hl.1 rfl (lv_room (Nat.le_of_ble_eq_true rfl)) dX11_isRule_15 ⟨by exact Nat.le_of_ble_eq_true rfl, by exact Nat.le_of_ble_eq_true rfl⟩) hG (c2 := 0) (s2 := 0) ⟨by exact Nat.le_of_ble_eq_true rfl, by exact Nat.le_of_ble_eq_true rfl⟩ (fun z5 M6 ez5 H locs hG => ?_)
    obtain ⟨ez5, eM6⟩ := ez5
    subst ez5
    rw [eM6] at hG
    refine lv_iconst (v := J 1) hx hb dX11_isRule_18 (by decide) ?_
    refine j_iadd hx hb dX11_isRule_19 ?_
    obtain ⟨g7, h⟩ := h
    refine j_iald hx hb hK hG (n := 1294) (kf_11_1 ka0) (by decide) g7 dX11_isRule_20 ?_
    refine lv_iconst (v := J 1) hx hb dX11_isRule_21 (by decide) ?_
    refine j_isub hx hb dX11_isRule_22 ?_
    obtain ⟨g8, h⟩ := h
    refine j_conti (va_runS (As := [.int (J a2), .int (J 0), .int (J ((M (a0 + 1) ((pf_X11_zoneAt a1) + 1)) - 1))]) (rest := []) ⟨hx, hb, hml, hown, hts⟩ (A_X11_in l g8) (va_cwS 3 hts (gj_S ml_RX11_106 i_X11_in n_RX11 k_X11_in) rfl rfl rfl (by decide +kernel) ⟨by exact Nat.le_of_ble_eq_true rfl, by exact Nat.le_of_ble_eq_true rfl⟩) (j_preS hK hSX hG) rfl rfl hl.1 rfl (lv_room (Nat.le_of_ble_eq_true rfl)) dX11_isRule_23 ⟨by exact Nat.le_of_ble_eq_true rfl, by exact Nat.le_of_ble_eq_true rfl⟩) hG (c2 := 0) (s2 := 0) ⟨by exact Nat.le_of_ble_eq_true rfl, by exact Nat.le_of_ble_eq_true rfl⟩ (fun z9 M10 ez9 H locs hG => ?_)
    obtain ⟨ez9, eM10⟩ := ez9
    subst ez9
    rw [eM10] at hG
    refine j_if_eq_b (tgt := 33) hx hb dX11_isRule_26 (by decide) (fun c11 => ?_) (fun c11 => ?_)
    · have h := h.1 c11
      refine lv_iconst (v := J 0) hx hb dX11_isRule_33 (by decide) ?_
      rw [hQf]
      exact j_iretn hx hb hr hlocks (nar_b (by decide)) hG ⟨(b2i_iff0 ((and_iff_right c4).trans (iff_of_false c11 id))), rfl⟩ (by decide) dX11_isRule_34
    · have h := h.2 c11
      refine lv_iconst (v := J 1) hx hb dX11_isRule_29 (by decide) ?_
      refine lv_goto (tgt := 34) hx hb dX11_isRule_30 (by decide) ?_
      rw [hQf]
      exact j_iretn hx hb hr hlocks (nar_b (by decide)) hG ⟨(b2i_iff1 ((and_iff_right c4).trans (iff_of_true c11 trivial))), rfl⟩ (by decide) dX11_isRule_34

abbrev pb_X11_isMeeting (M : jT) (a0 : Int) (a1 : Int) : Prop :=
pb_X11_in a1 0 ((M (a0 + 1) 1) - 1)
def pg_X11_isMeeting (M : jT) (a0 : Int) (a1 : Int) : Prop :=
(pg_X11_in a1 0 ((M (a0 + 1) 1) - 1)) ∧
True
abbrev rm_X11_isMeeting : Room := { frames := 1, cells := 0, slots := 0, locals := 22 }
set_option maxRecDepth 100000 in
set_option maxHeartbeats 4000000 in
theorem A_X11_isMeeting (l : Launch) {D : va_G} {cy : Nat → ClassId} {o : Nat} {sK sV : Nat → Nat} {M : jT} {a0 : Int} {a1 : Int} (ka0 : kd a0 = 11) (h : pg_X11_isMeeting M a0 a1) : CoI l yX11_isMeeting (wj yX11_isMeeting cX11_isMeeting 2 (some .boolean)) rm_X11_isMeeting D cy o sK sV M [.ref (rA o a0), .int (J a1)] (fun z M9 => z = b2i (pb_X11_isMeeting M a0 a1) ∧ M9 = M) := by
  refine j_ofW (cc := cX11_isMeeting) (maxL := 2) (ret := (some .boolean)) (by decide) rfl (Nat.le_of_ble_eq_true rfl) ?_
  intro p e s m args below meth c hx hb hr hlocks hml hown hts hK hSX hG ls hl Qf hQf
  have hown : s.vm.findClass RX11 = some m.cls := hown
  have hl : lv_has ls 2 [(0, .ref (rA o a0)), (1, .int (J a1))] := hl
  have w_fl_RX11_9 := hts _ (List.mem_cons_of_mem _ fl_RX11_9)
  unfold pg_X11_isMeeting at h
  refine lv_iload_n hx hb dX11_isMeeting_0 rfl (lv_at hl 1 rfl) ?_
  refine lv_iconst (v := J 0) hx hb dX11_isMeeting_1 (by decide) ?_
  refine lv_aload_n hx hb dX11_isMeeting_2 rfl (lv_at hl 0 rfl) ?_
  refine j_getr hx hb hts hown hK hG (k := a0) (fun w h => List.mem_cons_of_mem _ (u_X11 w h)) (ci := 10) rfl ka0 1 (k2 := a0 + 1) (by decide) (by show a0 + (1 : Int) = a0 + 1; omega) w_fl_RX11_9 dX11_isMeeting_3 ?_
  refine lv_iconst (v := J 1) hx hb dX11_isMeeting_6 (by decide) ?_
  refine j_iald hx hb hK hG (n := 1294) (kf_11_1 ka0) (by decide) (by decide) dX11_isMeeting_7 ?_
  refine lv_iconst (v := J 1) hx hb dX11_isMeeting_8 (by decide) ?_
  refine j_isub hx hb dX11_isMeeting_9 ?_
  obtain ⟨g1, h⟩ := h
  refine j_conti (va_runS (As := [.int (J a1), .int (J 0), .int (J ((M (a0 + 1) 1) - 1))]) (rest := []) ⟨hx, hb, hml, hown, hts⟩ (A_X11_in l g1) (va_cwS 3 hts (gj_S ml_RX11_106 i_X11_in n_RX11 k_X11_in) rfl rfl rfl (by decide +kernel) ⟨by exact Nat.le_of_ble_eq_true rfl, by exact Nat.le_of_ble_eq_true rfl⟩) (j_preS hK hSX hG) rfl rfl hl.1 rfl (lv_room (Nat.le_of_ble_eq_true rfl)) dX11_isMeeting_10 ⟨by exact Nat.le_of_ble_eq_true rfl, by exact Nat.le_of_ble_eq_true rfl⟩) hG (c2 := 0) (s2 := 0) ⟨by exact Nat.le_of_ble_eq_true rfl, by exact Nat.le_of_ble_eq_true rfl⟩ (fun z2 M3 ez2 H locs hG => ?_)
  obtain ⟨ez2, eM3⟩ := ez2
  subst ez2
  rw [eM3] at hG
  rw [hQf]
  exact j_iretn hx hb hr hlocks (nar_b (b2i_rng _)) hG ⟨(b2i_iff Iff.rfl), rfl⟩ (by decide) dX11_isMeeting_13

def pf_X11_durationOf (M : jT) (a0 : Int) (a1 : Int) : Int :=
M (a0 + 1) ((pf_X11_meetingAt (a1 / 100)) + 3)
def pg_X11_durationOf (M : jT) (a0 : Int) (a1 : Int) : Prop :=
(0 ≤ a1 ∧ a1 < 2147483648) ∧
(0 ≤ (pf_X11_meetingAt (a1 / 100)) + 3 ∧ (pf_X11_meetingAt (a1 / 100)) + 3 < 1294) ∧
True
abbrev rm_X11_durationOf : Room := { frames := 1, cells := 0, slots := 0, locals := 20 }
set_option maxRecDepth 100000 in
set_option maxHeartbeats 4000000 in
theorem A_X11_durationOf (l : Launch) {D : va_G} {cy : Nat → ClassId} {o : Nat} {sK sV : Nat → Nat} {M : jT} {a0 : Int} {a1 : Int} (ka0 : kd a0 = 11) (h : pg_X11_durationOf M a0 a1) : CoI l yX11_durationOf (wj yX11_durationOf cX11_durationOf 2 (some .int)) rm_X11_durationOf D cy o sK sV M [.ref (rA o a0), .int (J a1)] (fun z M9 => z = pf_X11_durationOf M a0 a1 ∧ M9 = M) := by
  refine j_ofW (cc := cX11_durationOf) (maxL := 2) (ret := (some .int)) (by decide) rfl (Nat.le_of_ble_eq_true rfl) ?_
  intro p e s m args below meth c hx hb hr hlocks hml hown hts hK hSX hG ls hl Qf hQf
  have hown : s.vm.findClass RX11 = some m.cls := hown
  have hl : lv_has ls 2 [(0, .ref (rA o a0)), (1, .int (J a1))] := hl
  have w_fl_RX11_9 := hts _ (List.mem_cons_of_mem _ fl_RX11_9)
  unfold pg_X11_durationOf at h
  refine lv_aload_n hx hb dX11_durationOf_0 rfl (lv_at hl 0 rfl) ?_
  refine j_getr hx hb hts hown hK hG (k := a0) (fun w h => List.mem_cons_of_mem _ (u_X11 w h)) (ci := 10) rfl ka0 1 (k2 := a0 + 1) (by decide) (by show a0 + (1 : Int) = a0 + 1; omega) w_fl_RX11_9 dX11_durationOf_1 ?_
  refine lv_iload_n hx hb dX11_durationOf_4 rfl (lv_at hl 1 rfl) ?_
  refine lv_bipush (v := J 100) hx hb dX11_durationOf_5 (by decide) ?_
  obtain ⟨g1, h⟩ := h
  refine j_idiv hx hb dX11_durationOf_7 g1 (by decide) ?_
  refine j_conti (va_runS (As := [.int (J (a1 / 100))]) (rest := [.ref (rA o (a0 + 1))]) ⟨hx, hb, hml, hown, hts⟩ (A_X11_meetingAt l) (va_cwS 1 hts (gj_S ml_RX11_145 i_X11_meetingAt n_RX11 k_X11_meetingAt) rfl rfl rfl (by decide +kernel) ⟨by exact Nat.le_of_ble_eq_true rfl, by exact Nat.le_of_ble_eq_true rfl⟩) (j_preS hK hSX hG) rfl rfl hl.1 rfl (lv_room (Nat.le_of_ble_eq_true rfl)) dX11_durationOf_8 ⟨by exact Nat.le_of_ble_eq_true rfl, by exact Nat.le_of_ble_eq_true rfl⟩) hG (c2 := 0) (s2 := 0) ⟨by exact Nat.le_of_ble_eq_true rfl, by exact Nat.le_of_ble_eq_true rfl⟩ (fun z2 M3 ez2 H locs hG => ?_)
  obtain ⟨ez2, eM3⟩ := ez2
  subst ez2
  rw [eM3] at hG
  refine lv_iconst (v := J 3) hx hb dX11_durationOf_11 (by decide) ?_
  refine j_iadd hx hb dX11_durationOf_12 ?_
  obtain ⟨g4, h⟩ := h
  refine j_iald hx hb hK hG (n := 1294) (kf_11_1 ka0) (by decide) g4 dX11_durationOf_13 ?_
  rw [hQf]
  exact j_ireti hx hb hr hlocks hG ⟨rfl, rfl⟩ (by decide) dX11_durationOf_14

def pf_X11_here (M : jT) (a0 : Int) : Int :=
if M a0 8 ≤ M a0 9 then 0 else M (a0 + 5) (M a0 9)
def pg_X11_here (M : jT) (a0 : Int) : Prop :=
rg (M a0 9) ∧
rg (M a0 8) ∧
((M a0 8 ≤ M a0 9 → True) ∧
(M a0 9 < M a0 8 → ((0 ≤ M a0 9 ∧ M a0 9 < 60) ∧
True)))
abbrev rm_X11_here : Room := { frames := 0, cells := 0, slots := 0, locals := 0 }
set_option maxRecDepth 100000 in
set_option maxHeartbeats 4000000 in
theorem A_X11_here (l : Launch) {D : va_G} {cy : Nat → ClassId} {o : Nat} {sK sV : Nat → Nat} {M : jT} {a0 : Int} (ka0 : kd a0 = 11) (h : pg_X11_here M a0) : CoI l yX11_here (wj yX11_here cX11_here 1 (some .int)) rm_X11_here D cy o sK sV M [.ref (rA o a0)] (fun z M9 => z = pf_X11_here M a0 ∧ M9 = M) := by
  refine j_ofW (cc := cX11_here) (maxL := 1) (ret := (some .int)) (by decide) rfl (Nat.le_of_ble_eq_true rfl) ?_
  intro p e s m args below meth c hx hb hr hlocks hml hown hts hK hSX hG ls hl Qf hQf
  have hown : s.vm.findClass RX11 = some m.cls := hown
  have hl : lv_has ls 1 [(0, .ref (rA o a0))] := hl
  have w_fl_RX11_286 := hts _ (List.mem_cons_of_mem _ fl_RX11_286)
  have w_fl_RX11_283 := hts _ (List.mem_cons_of_mem _ fl_RX11_283)
  have w_fl_RX11_22 := hts _ (List.mem_cons_of_mem _ fl_RX11_22)
  unfold pg_X11_here at h
  refine lv_aload_n hx hb dX11_here_0 rfl (lv_at hl 0 rfl) ?_
  refine j_geti hx hb hts hown hK hG (k := a0) (fun w h => List.mem_cons_of_mem _ (u_X11 w h)) (ci := 10) rfl ka0 9 (by decide) (jz := 9) rfl w_fl_RX11_286 dX11_here_1 ?_
  refine lv_aload_n hx hb dX11_here_4 rfl (lv_at hl 0 rfl) ?_
  refine j_geti hx hb hts hown hK hG (k := a0) (fun w h => List.mem_cons_of_mem _ (u_X11 w h)) (ci := 10) rfl ka0 8 (by decide) (jz := 8) rfl w_fl_RX11_283 dX11_here_5 ?_
  obtain ⟨g2, h⟩ := h
  obtain ⟨g3, h⟩ := h
  refine j_icmp_ge (tgt := 23) hx hb dX11_here_8 (by decide) g2 g3 (fun c1 => ?_) (fun c1 => ?_)
  · have h := h.1 c1
    refine lv_iconst (v := J 0) hx hb dX11_here_23 (by decide) ?_
    rw [hQf]
    exact j_ireti hx hb hr hlocks hG ⟨(by unfold pf_X11_here; rw [if_pos c1]), rfl⟩ (by decide) dX11_here_24
  · have h := h.2 c1
    refine lv_aload_n hx hb dX11_here_11 rfl (lv_at hl 0 rfl) ?_
    refine j_getr hx hb hts hown hK hG (k := a0) (fun w h => List.mem_cons_of_mem _ (u_X11 w h)) (ci := 10) rfl ka0 7 (k2 := a0 + 5) (by decide) (by show a0 + (5 : Int) = a0 + 5; omega) w_fl_RX11_22 dX11_here_12 ?_
    refine lv_aload_n hx hb dX11_here_15 rfl (lv_at hl 0 rfl) ?_
    refine j_geti hx hb hts hown hK hG (k := a0) (fun w h => List.mem_cons_of_mem _ (u_X11 w h)) (ci := 10) rfl ka0 9 (by decide) (jz := 9) rfl w_fl_RX11_286 dX11_here_16 ?_
    obtain ⟨g4, h⟩ := h
    refine j_iald hx hb hK hG (n := 60) (kf_11_7 ka0) (by decide) g4 dX11_here_19 ?_
    refine lv_goto (tgt := 24) hx hb dX11_here_20 (by decide) ?_
    rw [hQf]
    exact j_ireti hx hb hr hlocks hG ⟨(by unfold pf_X11_here; rw [if_neg (show ¬ (M a0 8 ≤ M a0 9) from by omega)]), rfl⟩ (by decide) dX11_here_24
