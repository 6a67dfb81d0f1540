noncomputable section
theorem k_L_day : Cond.codeWith yL_day cL_day 6 (some .int) [(0, 12, 15, 13)] ∈ TB := tk2 160 (by decide +kernel) rfl
theorem i_L_day : Cond.static yL_day ∈ TB := tk2 159 (by decide +kernel) rfl
theorem k_L_date : Cond.codeWith yL_date cL_date 5 (some .int) [(0, 10, 13, 19), (0, 10, 17, 13)] ∈ TB := tk3 15 (by decide +kernel) rfl
theorem i_L_date : Cond.static yL_date ∈ TB := tk3 14 (by decide +kernel) rfl
theorem k_L_addZone : Cond.codeWith yL_addZone cL_addZone 4 (some .int) [(0, 9, 12, 13), (0, 9, 15, 25)] ∈ TB := tk3 57 (by decide +kernel) rfl
theorem i_L_addZone : Cond.static yL_addZone ∈ TB := tk3 56 (by decide +kernel) rfl
theorem k_L_changeBase : Cond.codeWith yL_changeBase cL_changeBase 6 (some .int) [(0, 12, 15, 19), (0, 12, 19, 13), (0, 12, 23, 25)] ∈ TB := tk3 119 (by decide +kernel) rfl
theorem i_L_changeBase : Cond.static yL_changeBase ∈ TB := tk3 118 (by decide +kernel) rfl
theorem k_L_addRule : Cond.codeWith yL_addRule cL_addRule 9 (some .int) [(0, 18, 21, 19), (0, 18, 25, 13), (0, 18, 29, 25)] ∈ TB := tk3 142 (by decide +kernel) rfl
theorem i_L_addRule : Cond.static yL_addRule ∈ TB := tk3 141 (by decide +kernel) rfl
theorem k_L_dropRule : Cond.codeWith yL_dropRule cL_dropRule 5 (some .int) [(0, 10, 13, 19)] ∈ TB := tk3 164 (by decide +kernel) rfl
theorem i_L_dropRule : Cond.static yL_dropRule ∈ TB := tk3 163 (by decide +kernel) rfl
theorem k_L_zone : Cond.codeWith yL_zone cL_zone 5 (some .int) [(0, 10, 13, 19), (0, 10, 17, 13)] ∈ TB := tk3 183 (by decide +kernel) rfl
theorem i_L_zone : Cond.static yL_zone ∈ TB := tk3 182 (by decide +kernel) rfl
theorem k_L_rule : Cond.codeWith yL_rule cL_rule 6 (some .int) [(0, 12, 15, 19), (0, 12, 19, 13)] ∈ TB := tk4 17 (by decide +kernel) rfl
theorem i_L_rule : Cond.static yL_rule ∈ TB := tk4 16 (by decide +kernel) rfl
theorem k_L_eventDay : Cond.codeWith yL_eventDay cL_eventDay 6 (some .int) [(0, 12, 15, 19), (0, 12, 19, 13), (0, 12, 23, 46)] ∈ TB := tk4 25 (by decide +kernel) rfl
theorem i_L_eventDay : Cond.static yL_eventDay ∈ TB := tk4 24 (by decide +kernel) rfl
theorem k_L_transition : Cond.codeWith yL_transition cL_transition 6 (some .int) [(0, 12, 15, 19), (0, 12, 19, 46), (0, 12, 23, 13)] ∈ TB := tk4 56 (by decide +kernel) rfl
theorem i_L_transition : Cond.static yL_transition ∈ TB := tk4 55 (by decide +kernel) rfl
theorem k_L_voidEvent : Cond.codeWith yL_voidEvent cL_voidEvent 6 (some .int) [(0, 12, 15, 19), (0, 12, 19, 46), (0, 12, 23, 13)] ∈ TB := tk4 63 (by decide +kernel) rfl
theorem i_L_voidEvent : Cond.static yL_voidEvent ∈ TB := tk4 62 (by decide +kernel) rfl
theorem k_L_offset : Cond.codeWith yL_offset cL_offset 5 (some .int) [(0, 10, 13, 19), (0, 10, 17, 13)] ∈ TB := tk4 70 (by decide +kernel) rfl
theorem i_L_offset : Cond.static yL_offset ∈ TB := tk4 69 (by decide +kernel) rfl
theorem k_L_offsetAgain : Cond.codeWith yL_offsetAgain cL_offsetAgain 5 (some .int) [(0, 10, 13, 19), (0, 10, 17, 13)] ∈ TB := tk4 89 (by decide +kernel) rfl
theorem i_L_offsetAgain : Cond.static yL_offsetAgain ∈ TB := tk4 88 (by decide +kernel) rfl
theorem k_L_toLocal : Cond.codeWith yL_toLocal cL_toLocal 5 (some .int) [(0, 10, 13, 19), (0, 10, 17, 13)] ∈ TB := tk4 104 (by decide +kernel) rfl
theorem i_L_toLocal : Cond.static yL_toLocal ∈ TB := tk4 103 (by decide +kernel) rfl
theorem k_L_instants : Cond.codeWith yL_instants cL_instants 5 (some .int) [(0, 10, 13, 19), (0, 10, 17, 13)] ∈ TB := tk4 111 (by decide +kernel) rfl
theorem i_L_instants : Cond.static yL_instants ∈ TB := tk4 110 (by decide +kernel) rfl
theorem k_L_instantsAgain : Cond.codeWith yL_instantsAgain cL_instantsAgain 5 (some .int) [(0, 10, 13, 19), (0, 10, 17, 13)] ∈ TB := tk4 131 (by decide +kernel) rfl
theorem i_L_instantsAgain : Cond.static yL_instantsAgain ∈ TB := tk4 130 (by decide +kernel) rfl
theorem k_L_cause : Cond.codeWith yL_cause cL_cause 5 (some .int) [(0, 10, 13, 19), (0, 10, 17, 13)] ∈ TB := tk4 141 (by decide +kernel) rfl
theorem i_L_cause : Cond.static yL_cause ∈ TB := tk4 140 (by decide +kernel) rfl
theorem k_L_toInstant : Cond.codeWith yL_toInstant cL_toInstant 6 (some .int) [(0, 12, 15, 19), (0, 12, 19, 13), (0, 12, 23, 75)] ∈ TB := tk4 157 (by decide +kernel) rfl
theorem i_L_toInstant : Cond.static yL_toInstant ∈ TB := tk4 156 (by decide +kernel) rfl
theorem k_L_convert : Cond.codeWith yL_convert cL_convert 7 (some .int) [(0, 14, 17, 19), (0, 14, 21, 13), (0, 14, 25, 75)] ∈ TB := tk4 192 (by decide +kernel) rfl
theorem i_L_convert : Cond.static yL_convert ∈ TB := tk4 191 (by decide +kernel) rfl
theorem k_L_dayLength : Cond.codeWith yL_dayLength cL_dayLength 5 (some .int) [(0, 10, 13, 19)] ∈ TB := tk4 199 (by decide +kernel) rfl
theorem i_L_dayLength : Cond.static yL_dayLength ∈ TB := tk4 198 (by decide +kernel) rfl
theorem k_L_account : Cond.codeWith yL_account cL_account 6 (some .int) [(0, 12, 15, 19), (0, 12, 19, 13)] ∈ TB := tk4 211 (by decide +kernel) rfl
theorem i_L_account : Cond.static yL_account ∈ TB := tk4 210 (by decide +kernel) rfl
theorem k_L_addMeeting : Cond.codeWith yL_addMeeting cL_addMeeting 9 (some .int) [(0, 18, 21, 19), (0, 18, 25, 13), (0, 18, 29, 25)] ∈ TB := tk4 229 (by decide +kernel) rfl
theorem i_L_addMeeting : Cond.static yL_addMeeting ∈ TB := tk4 228 (by decide +kernel) rfl
theorem k_L_recur : Cond.codeWith yL_recur cL_recur 7 (some .int) [(0, 14, 17, 19), (0, 14, 21, 13)] ∈ TB := tk5 8 (by decide +kernel) rfl
theorem i_L_recur : Cond.static yL_recur ∈ TB := tk5 7 (by decide +kernel) rfl
theorem k_L_cancel : Cond.codeWith yL_cancel cL_cancel 5 (some .int) [(0, 10, 13, 19)] ∈ TB := tk5 54 (by decide +kernel) rfl
theorem i_L_cancel : Cond.static yL_cancel ∈ TB := tk5 53 (by decide +kernel) rfl
theorem k_L_shift : Cond.codeWith yL_shift cL_shift 6 (some .int) [(0, 12, 15, 19), (0, 12, 19, 13)] ∈ TB := tk5 73 (by decide +kernel) rfl
theorem i_L_shift : Cond.static yL_shift ∈ TB := tk5 72 (by decide +kernel) rfl
theorem k_L_meeting : Cond.codeWith yL_meeting cL_meeting 5 (some .int) [(0, 10, 13, 19), (0, 10, 17, 13)] ∈ TB := tk5 80 (by decide +kernel) rfl
theorem i_L_meeting : Cond.static yL_meeting ∈ TB := tk5 79 (by decide +kernel) rfl
theorem k_L_occurrence : Cond.codeWith yL_occurrence cL_occurrence 6 (some .int) [(0, 12, 15, 19), (0, 12, 19, 13), (0, 12, 23, 46)] ∈ TB := tk5 111 (by decide +kernel) rfl
theorem i_L_occurrence : Cond.static yL_occurrence ∈ TB := tk5 110 (by decide +kernel) rfl
theorem k_L_next : Cond.codeWith yL_next cL_next 5 (some .int) [(0, 10, 13, 19), (0, 10, 17, 13), (0, 10, 21, 46)] ∈ TB := tk5 124 (by decide +kernel) rfl
theorem i_L_next : Cond.static yL_next ∈ TB := tk5 123 (by decide +kernel) rfl
theorem k_L_clash : Cond.codeWith yL_clash cL_clash 5 (some .int) [(0, 10, 13, 19)] ∈ TB := tk5 131 (by decide +kernel) rfl
theorem i_L_clash : Cond.static yL_clash ∈ TB := tk5 130 (by decide +kernel) rfl
theorem k_L_agenda : Cond.codeWith yL_agenda cL_agenda 5 (some .int) [(0, 10, 13, 13), (0, 10, 17, 46)] ∈ TB := tk5 142 (by decide +kernel) rfl
theorem i_L_agenda : Cond.static yL_agenda ∈ TB := tk5 141 (by decide +kernel) rfl
theorem k_L_drift : Cond.codeWith yL_drift cL_drift 5 (some .int) [(0, 10, 13, 19)] ∈ TB := tk5 154 (by decide +kernel) rfl
theorem i_L_drift : Cond.static yL_drift ∈ TB := tk5 153 (by decide +kernel) rfl
theorem k_L_free : Cond.codeWith yL_free cL_free 6 (some .int) [(0, 12, 15, 13), (0, 12, 19, 46)] ∈ TB := tk5 164 (by decide +kernel) rfl
theorem i_L_free : Cond.static yL_free ∈ TB := tk5 163 (by decide +kernel) rfl
theorem k_L_append : Cond.codeWith yL_append cL_append 4 (some .int) [(0, 9, 12, 13), (0, 9, 15, 25)] ∈ TB := tk5 172 (by decide +kernel) rfl
theorem i_L_append : Cond.static yL_append ∈ TB := tk5 171 (by decide +kernel) rfl
theorem k_L_run : Cond.codeWith yL_run cL_run 3 (some .int) [(0, 8, 11, 13), (0, 8, 14, 25)] ∈ TB := tk5 183 (by decide +kernel) rfl
theorem i_L_run : Cond.static yL_run ∈ TB := tk5 182 (by decide +kernel) rfl
theorem k_L_write : Cond.codeWith yL_write cL_write 5 (some .int) [(0, 10, 13, 19)] ∈ TB := tk6 94 (by decide +kernel) rfl
theorem i_L_write : Cond.static yL_write ∈ TB := tk6 93 (by decide +kernel) rfl
theorem k_L_character : Cond.codeWith yL_character cL_character 4 (some .int) [(0, 9, 12, 19)] ∈ TB := tk6 122 (by decide +kernel) rfl
theorem i_L_character : Cond.static yL_character ∈ TB := tk6 121 (by decide +kernel) rfl
theorem k_L_undo : Cond.codeWith yL_undo cL_undo 3 (some .int) [(0, 8, 11, 25)] ∈ TB := tk6 129 (by decide +kernel) rfl
theorem i_L_undo : Cond.static yL_undo ∈ TB := tk6 128 (by decide +kernel) rfl
theorem k_L_restore : Cond.codeWith yL_restore cL_restore 3 (some .int) [(0, 8, 11, 25)] ∈ TB := tk6 140 (by decide +kernel) rfl
theorem i_L_restore : Cond.static yL_restore ∈ TB := tk6 139 (by decide +kernel) rfl
theorem k_L_count : Cond.codeWith yL_count cL_count 4 (some .int) [(0, 9, 12, 13)] ∈ TB := tk6 147 (by decide +kernel) rfl
theorem i_L_count : Cond.static yL_count ∈ TB := tk6 146 (by decide +kernel) rfl
theorem n_RL : Cond.initialized RL ∈ TB := tk1 0 (by decide +kernel) rfl
theorem xl_RL_13 : Cond.classLink RL 13 "java/lang/IllegalArgumentException" ∈ TB := tk2 161 (by decide +kernel) rfl
theorem xl_RL_19 : Cond.classLink RL 19 "java/lang/IndexOutOfBoundsException" ∈ TB := tk3 16 (by decide +kernel) rfl
theorem xl_RL_25 : Cond.classLink RL 25 "java/lang/IllegalStateException" ∈ TB := tk3 58 (by decide +kernel) rfl
theorem xl_RL_46 : Cond.classLink RL 46 "java/util/NoSuchElementException" ∈ TB := tk4 26 (by decide +kernel) rfl
theorem xl_RL_75 : Cond.classLink RL 75 "java/lang/UnsupportedOperationException" ∈ TB := tk4 158 (by decide +kernel) rfl
theorem xl_RL_8 : Cond.classLink RL 8 RX10 ∈ TB := tk1 27 (by decide +kernel) rfl
theorem xl_RL_144 : Cond.classLink RL 144 RX11 ∈ TB := tk6 160 (by decide +kernel) rfl
theorem gw_self {y y' : MethodName} {b b' : ByteArray} {n n' : Nat} {r r' : Option FieldType} {hh : List (Nat × Nat × Nat × Nat)} (h : Cond.code y b n r ∈ TB) : GoodIn (wjW y' b' n' r' hh) (wj y b n r) := by
  intro w hw
  have h1 : w ∈ TB := (List.mem_cons.mp hw).elim (fun e => by rw [e]; exact h) id
  exact ⟨List.mem_cons_of_mem _ h1, good_of_word (tb_good h1)⟩
theorem gw_V {own C : String} {idx : Nat} {y y' : MethodName} {b b' : ByteArray} {n n' : Nat} {r r' : Option FieldType} {hh : List (Nat × Nat × Nat × Nat)} (hl : Cond.methodLink own idx y ∈ TB) (hi : Cond.instanceMethod y ∈ TB) (hs : Cond.selects C y y ∈ TB) (hn : Cond.initialized C ∈ TB) (hc : Cond.code y b n r ∈ TB) : GoodIn (wjW y' b' n' r' hh) (wsV own idx C y (wj y b n r)) := by
  intro w hw
  rcases List.mem_append.mp hw with h1 | h1
  · have h2 : w ∈ TB := by simp only [List.mem_cons, List.not_mem_nil, or_false] at h1; rcases h1 with rfl | rfl | rfl | rfl <;> assumption
    exact ⟨List.mem_cons_of_mem _ h2, good_of_word (tb_good h2)⟩
  · exact gw_self hc w h1
end
