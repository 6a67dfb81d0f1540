theorem dL_day_0 : decode cL_day 0 = .ok (.aload 4, 2) := by decide +kernel
theorem dL_day_2 : decode cL_day 2 = .ok (.iconst 0, 1) := by decide +kernel
theorem dL_day_3 : decode cL_day 3 = .ok (.aload_n 0, 1) := by decide +kernel
theorem dL_day_4 : decode cL_day 4 = .ok (.iload_n 1, 1) := by decide +kernel
theorem dL_day_5 : decode cL_day 5 = .ok (.iload_n 2, 1) := by decide +kernel
theorem dL_day_6 : decode cL_day 6 = .ok (.iload_n 3, 1) := by decide +kernel
theorem dL_day_7 : decode cL_day 7 = .ok (.invokevirtual 7, 3) := by decide +kernel
theorem dL_day_10 : decode cL_day 10 = .ok (.i2l, 1) := by decide +kernel
theorem dL_day_11 : decode cL_day 11 = .ok (.lastore, 1) := by decide +kernel
theorem dL_day_12 : decode cL_day 12 = .ok (.goto 7, 3) := by decide +kernel
theorem dL_day_15 : decode cL_day 15 = .ok (.astore 5, 2) := by decide +kernel
theorem dL_day_17 : decode cL_day 17 = .ok (.iconst 1, 1) := by decide +kernel
theorem dL_day_18 : decode cL_day 18 = .ok (.ireturn, 1) := by decide +kernel
theorem dL_day_19 : decode cL_day 19 = .ok (.iconst 0, 1) := by decide +kernel
theorem dL_day_20 : decode cL_day 20 = .ok (.ireturn, 1) := by decide +kernel
theorem dL_date_0 : decode cL_date 0 = .ok (.aload_n 3, 1) := by decide +kernel
theorem dL_date_1 : decode cL_date 1 = .ok (.iconst 0, 1) := by decide +kernel
theorem dL_date_2 : decode cL_date 2 = .ok (.aload_n 0, 1) := by decide +kernel
theorem dL_date_3 : decode cL_date 3 = .ok (.iload_n 1, 1) := by decide +kernel
theorem dL_date_4 : decode cL_date 4 = .ok (.iload_n 2, 1) := by decide +kernel
theorem dL_date_5 : decode cL_date 5 = .ok (.invokevirtual 15, 3) := by decide +kernel
theorem dL_date_8 : decode cL_date 8 = .ok (.i2l, 1) := by decide +kernel
theorem dL_date_9 : decode cL_date 9 = .ok (.lastore, 1) := by decide +kernel
theorem dL_date_10 : decode cL_date 10 = .ok (.goto 11, 3) := by decide +kernel
theorem dL_date_13 : decode cL_date 13 = .ok (.astore 4, 2) := by decide +kernel
theorem dL_date_15 : decode cL_date 15 = .ok (.iconst 1, 1) := by decide +kernel
theorem dL_date_16 : decode cL_date 16 = .ok (.ireturn, 1) := by decide +kernel
theorem dL_date_17 : decode cL_date 17 = .ok (.astore 4, 2) := by decide +kernel
theorem dL_date_19 : decode cL_date 19 = .ok (.iconst 2, 1) := by decide +kernel
theorem dL_date_20 : decode cL_date 20 = .ok (.ireturn, 1) := by decide +kernel
theorem dL_date_21 : decode cL_date 21 = .ok (.iconst 0, 1) := by decide +kernel
theorem dL_date_22 : decode cL_date 22 = .ok (.ireturn, 1) := by decide +kernel
theorem dL_addZone_0 : decode cL_addZone 0 = .ok (.aload_n 2, 1) := by decide +kernel
theorem dL_addZone_1 : decode cL_addZone 1 = .ok (.iconst 0, 1) := by decide +kernel
theorem dL_addZone_2 : decode cL_addZone 2 = .ok (.aload_n 0, 1) := by decide +kernel
theorem dL_addZone_3 : decode cL_addZone 3 = .ok (.iload_n 1, 1) := by decide +kernel
theorem dL_addZone_4 : decode cL_addZone 4 = .ok (.invokevirtual 21, 3) := by decide +kernel
theorem dL_addZone_7 : decode cL_addZone 7 = .ok (.i2l, 1) := by decide +kernel
theorem dL_addZone_8 : decode cL_addZone 8 = .ok (.lastore, 1) := by decide +kernel
theorem dL_addZone_9 : decode cL_addZone 9 = .ok (.goto 9, 3) := by decide +kernel
theorem dL_addZone_12 : decode cL_addZone 12 = .ok (.astore_n 3, 1) := by decide +kernel
theorem dL_addZone_13 : decode cL_addZone 13 = .ok (.iconst 1, 1) := by decide +kernel
theorem dL_addZone_14 : decode cL_addZone 14 = .ok (.ireturn, 1) := by decide +kernel
theorem dL_addZone_15 : decode cL_addZone 15 = .ok (.astore_n 3, 1) := by decide +kernel
theorem dL_addZone_16 : decode cL_addZone 16 = .ok (.iconst 2, 1) := by decide +kernel
theorem dL_addZone_17 : decode cL_addZone 17 = .ok (.ireturn, 1) := by decide +kernel
theorem dL_addZone_18 : decode cL_addZone 18 = .ok (.iconst 0, 1) := by decide +kernel
theorem dL_addZone_19 : decode cL_addZone 19 = .ok (.ireturn, 1) := by decide +kernel
theorem dL_changeBase_0 : decode cL_changeBase 0 = .ok (.aload 4, 2) := by decide +kernel
theorem dL_changeBase_2 : decode cL_changeBase 2 = .ok (.iconst 0, 1) := by decide +kernel
theorem dL_changeBase_3 : decode cL_changeBase 3 = .ok (.aload_n 0, 1) := by decide +kernel
theorem dL_changeBase_4 : decode cL_changeBase 4 = .ok (.iload_n 1, 1) := by decide +kernel
theorem dL_changeBase_5 : decode cL_changeBase 5 = .ok (.iload_n 2, 1) := by decide +kernel
theorem dL_changeBase_6 : decode cL_changeBase 6 = .ok (.iload_n 3, 1) := by decide +kernel
theorem dL_changeBase_7 : decode cL_changeBase 7 = .ok (.invokevirtual 27, 3) := by decide +kernel
theorem dL_changeBase_10 : decode cL_changeBase 10 = .ok (.i2l, 1) := by decide +kernel
theorem dL_changeBase_11 : decode cL_changeBase 11 = .ok (.lastore, 1) := by decide +kernel
theorem dL_changeBase_12 : decode cL_changeBase 12 = .ok (.goto 15, 3) := by decide +kernel
theorem dL_changeBase_15 : decode cL_changeBase 15 = .ok (.astore 5, 2) := by decide +kernel
theorem dL_changeBase_17 : decode cL_changeBase 17 = .ok (.iconst 1, 1) := by decide +kernel
theorem dL_changeBase_18 : decode cL_changeBase 18 = .ok (.ireturn, 1) := by decide +kernel
theorem dL_changeBase_19 : decode cL_changeBase 19 = .ok (.astore 5, 2) := by decide +kernel
theorem dL_changeBase_21 : decode cL_changeBase 21 = .ok (.iconst 2, 1) := by decide +kernel
theorem dL_changeBase_22 : decode cL_changeBase 22 = .ok (.ireturn, 1) := by decide +kernel
theorem dL_changeBase_23 : decode cL_changeBase 23 = .ok (.astore 5, 2) := by decide +kernel
theorem dL_changeBase_25 : decode cL_changeBase 25 = .ok (.iconst 3, 1) := by decide +kernel
theorem dL_changeBase_26 : decode cL_changeBase 26 = .ok (.ireturn, 1) := by decide +kernel
theorem dL_changeBase_27 : decode cL_changeBase 27 = .ok (.iconst 0, 1) := by decide +kernel
theorem dL_changeBase_28 : decode cL_changeBase 28 = .ok (.ireturn, 1) := by decide +kernel
theorem dL_addRule_0 : decode cL_addRule 0 = .ok (.aload 7, 2) := by decide +kernel
theorem dL_addRule_2 : decode cL_addRule 2 = .ok (.iconst 0, 1) := by decide +kernel
theorem dL_addRule_3 : decode cL_addRule 3 = .ok (.aload_n 0, 1) := by decide +kernel
theorem dL_addRule_4 : decode cL_addRule 4 = .ok (.iload_n 1, 1) := by decide +kernel
theorem dL_addRule_5 : decode cL_addRule 5 = .ok (.iload_n 2, 1) := by decide +kernel
theorem dL_addRule_6 : decode cL_addRule 6 = .ok (.iload_n 3, 1) := by decide +kernel
theorem dL_addRule_7 : decode cL_addRule 7 = .ok (.iload 4, 2) := by decide +kernel
theorem dL_addRule_9 : decode cL_addRule 9 = .ok (.iload 5, 2) := by decide +kernel
theorem dL_addRule_11 : decode cL_addRule 11 = .ok (.iload 6, 2) := by decide +kernel
theorem dL_addRule_13 : decode cL_addRule 13 = .ok (.invokevirtual 30, 3) := by decide +kernel
theorem dL_addRule_16 : decode cL_addRule 16 = .ok (.i2l, 1) := by decide +kernel
theorem dL_addRule_17 : decode cL_addRule 17 = .ok (.lastore, 1) := by decide +kernel
theorem dL_addRule_18 : decode cL_addRule 18 = .ok (.goto 15, 3) := by decide +kernel
theorem dL_addRule_21 : decode cL_addRule 21 = .ok (.astore 8, 2) := by decide +kernel
theorem dL_addRule_23 : decode cL_addRule 23 = .ok (.iconst 1, 1) := by decide +kernel
theorem dL_addRule_24 : decode cL_addRule 24 = .ok (.ireturn, 1) := by decide +kernel
theorem dL_addRule_25 : decode cL_addRule 25 = .ok (.astore 8, 2) := by decide +kernel
theorem dL_addRule_27 : decode cL_addRule 27 = .ok (.iconst 2, 1) := by decide +kernel
theorem dL_addRule_28 : decode cL_addRule 28 = .ok (.ireturn, 1) := by decide +kernel
theorem dL_addRule_29 : decode cL_addRule 29 = .ok (.astore 8, 2) := by decide +kernel
theorem dL_addRule_31 : decode cL_addRule 31 = .ok (.iconst 3, 1) := by decide +kernel
theorem dL_addRule_32 : decode cL_addRule 32 = .ok (.ireturn, 1) := by decide +kernel
theorem dL_addRule_33 : decode cL_addRule 33 = .ok (.iconst 0, 1) := by decide +kernel
theorem dL_addRule_34 : decode cL_addRule 34 = .ok (.ireturn, 1) := by decide +kernel
theorem dL_dropRule_0 : decode cL_dropRule 0 = .ok (.aload_n 3, 1) := by decide +kernel
theorem dL_dropRule_1 : decode cL_dropRule 1 = .ok (.iconst 0, 1) := by decide +kernel
theorem dL_dropRule_2 : decode cL_dropRule 2 = .ok (.aload_n 0, 1) := by decide +kernel
theorem dL_dropRule_3 : decode cL_dropRule 3 = .ok (.iload_n 1, 1) := by decide +kernel
theorem dL_dropRule_4 : decode cL_dropRule 4 = .ok (.iload_n 2, 1) := by decide +kernel
theorem dL_dropRule_5 : decode cL_dropRule 5 = .ok (.invokevirtual 34, 3) := by decide +kernel
theorem dL_dropRule_8 : decode cL_dropRule 8 = .ok (.i2l, 1) := by decide +kernel
theorem dL_dropRule_9 : decode cL_dropRule 9 = .ok (.lastore, 1) := by decide +kernel
theorem dL_dropRule_10 : decode cL_dropRule 10 = .ok (.goto 7, 3) := by decide +kernel
theorem dL_dropRule_13 : decode cL_dropRule 13 = .ok (.astore 4, 2) := by decide +kernel
theorem dL_dropRule_15 : decode cL_dropRule 15 = .ok (.iconst 1, 1) := by decide +kernel
theorem dL_dropRule_16 : decode cL_dropRule 16 = .ok (.ireturn, 1) := by decide +kernel
theorem dL_dropRule_17 : decode cL_dropRule 17 = .ok (.iconst 0, 1) := by decide +kernel
theorem dL_dropRule_18 : decode cL_dropRule 18 = .ok (.ireturn, 1) := by decide +kernel
theorem dL_zone_0 : decode cL_zone 0 = .ok (.aload_n 3, 1) := by decide +kernel
theorem dL_zone_1 : decode cL_zone 1 = .ok (.iconst 0, 1) := by decide +kernel
theorem dL_zone_2 : decode cL_zone 2 = .ok (.aload_n 0, 1) := by decide +kernel
theorem dL_zone_3 : decode cL_zone 3 = .ok (.iload_n 1, 1) := by decide +kernel
theorem dL_zone_4 : decode cL_zone 4 = .ok (.iload_n 2, 1) := by decide +kernel
theorem dL_zone_5 : decode cL_zone 5 = .ok (.invokevirtual 37, 3) := by decide +kernel
theorem dL_zone_8 : decode cL_zone 8 = .ok (.i2l, 1) := by decide +kernel
theorem dL_zone_9 : decode cL_zone 9 = .ok (.lastore, 1) := by decide +kernel
theorem dL_zone_10 : decode cL_zone 10 = .ok (.goto 11, 3) := by decide +kernel
theorem dL_zone_13 : decode cL_zone 13 = .ok (.astore 4, 2) := by decide +kernel
theorem dL_zone_15 : decode cL_zone 15 = .ok (.iconst 1, 1) := by decide +kernel
theorem dL_zone_16 : decode cL_zone 16 = .ok (.ireturn, 1) := by decide +kernel
theorem dL_zone_17 : decode cL_zone 17 = .ok (.astore 4, 2) := by decide +kernel
theorem dL_zone_19 : decode cL_zone 19 = .ok (.iconst 2, 1) := by decide +kernel
theorem dL_zone_20 : decode cL_zone 20 = .ok (.ireturn, 1) := by decide +kernel
theorem dL_zone_21 : decode cL_zone 21 = .ok (.iconst 0, 1) := by decide +kernel
theorem dL_zone_22 : decode cL_zone 22 = .ok (.ireturn, 1) := by decide +kernel
theorem dL_rule_0 : decode cL_rule 0 = .ok (.aload 4, 2) := by decide +kernel
theorem dL_rule_2 : decode cL_rule 2 = .ok (.iconst 0, 1) := by decide +kernel
theorem dL_rule_3 : decode cL_rule 3 = .ok (.aload_n 0, 1) := by decide +kernel
theorem dL_rule_4 : decode cL_rule 4 = .ok (.iload_n 1, 1) := by decide +kernel
theorem dL_rule_5 : decode cL_rule 5 = .ok (.iload_n 2, 1) := by decide +kernel
theorem dL_rule_6 : decode cL_rule 6 = .ok (.iload_n 3, 1) := by decide +kernel
theorem dL_rule_7 : decode cL_rule 7 = .ok (.invokevirtual 40, 3) := by decide +kernel
theorem dL_rule_10 : decode cL_rule 10 = .ok (.i2l, 1) := by decide +kernel
theorem dL_rule_11 : decode cL_rule 11 = .ok (.lastore, 1) := by decide +kernel
theorem dL_rule_12 : decode cL_rule 12 = .ok (.goto 11, 3) := by decide +kernel
theorem dL_rule_15 : decode cL_rule 15 = .ok (.astore 5, 2) := by decide +kernel
theorem dL_rule_17 : decode cL_rule 17 = .ok (.iconst 1, 1) := by decide +kernel
theorem dL_rule_18 : decode cL_rule 18 = .ok (.ireturn, 1) := by decide +kernel
theorem dL_rule_19 : decode cL_rule 19 = .ok (.astore 5, 2) := by decide +kernel
theorem dL_rule_21 : decode cL_rule 21 = .ok (.iconst 2, 1) := by decide +kernel
theorem dL_rule_22 : decode cL_rule 22 = .ok (.ireturn, 1) := by decide +kernel
theorem dL_rule_23 : decode cL_rule 23 = .ok (.iconst 0, 1) := by decide +kernel
theorem dL_rule_24 : decode cL_rule 24 = .ok (.ireturn, 1) := by decide +kernel
theorem dL_eventDay_0 : decode cL_eventDay 0 = .ok (.aload 4, 2) := by decide +kernel
theorem dL_eventDay_2 : decode cL_eventDay 2 = .ok (.iconst 0, 1) := by decide +kernel
theorem dL_eventDay_3 : decode cL_eventDay 3 = .ok (.aload_n 0, 1) := by decide +kernel
theorem dL_eventDay_4 : decode cL_eventDay 4 = .ok (.iload_n 1, 1) := by decide +kernel
theorem dL_eventDay_5 : decode cL_eventDay 5 = .ok (.iload_n 2, 1) := by decide +kernel
theorem dL_eventDay_6 : decode cL_eventDay 6 = .ok (.iload_n 3, 1) := by decide +kernel
theorem dL_eventDay_7 : decode cL_eventDay 7 = .ok (.invokevirtual 43, 3) := by decide +kernel
theorem dL_eventDay_10 : decode cL_eventDay 10 = .ok (.i2l, 1) := by decide +kernel
theorem dL_eventDay_11 : decode cL_eventDay 11 = .ok (.lastore, 1) := by decide +kernel
theorem dL_eventDay_12 : decode cL_eventDay 12 = .ok (.goto 15, 3) := by decide +kernel
theorem dL_eventDay_15 : decode cL_eventDay 15 = .ok (.astore 5, 2) := by decide +kernel
theorem dL_eventDay_17 : decode cL_eventDay 17 = .ok (.iconst 1, 1) := by decide +kernel
theorem dL_eventDay_18 : decode cL_eventDay 18 = .ok (.ireturn, 1) := by decide +kernel
theorem dL_eventDay_19 : decode cL_eventDay 19 = .ok (.astore 5, 2) := by decide +kernel
theorem dL_eventDay_21 : decode cL_eventDay 21 = .ok (.iconst 2, 1) := by decide +kernel
theorem dL_eventDay_22 : decode cL_eventDay 22 = .ok (.ireturn, 1) := by decide +kernel
theorem dL_eventDay_23 : decode cL_eventDay 23 = .ok (.astore 5, 2) := by decide +kernel
theorem dL_eventDay_25 : decode cL_eventDay 25 = .ok (.iconst 3, 1) := by decide +kernel
theorem dL_eventDay_26 : decode cL_eventDay 26 = .ok (.ireturn, 1) := by decide +kernel
theorem dL_eventDay_27 : decode cL_eventDay 27 = .ok (.iconst 0, 1) := by decide +kernel
theorem dL_eventDay_28 : decode cL_eventDay 28 = .ok (.ireturn, 1) := by decide +kernel
theorem dL_transition_0 : decode cL_transition 0 = .ok (.aload 4, 2) := by decide +kernel
theorem dL_transition_2 : decode cL_transition 2 = .ok (.iconst 0, 1) := by decide +kernel
theorem dL_transition_3 : decode cL_transition 3 = .ok (.aload_n 0, 1) := by decide +kernel
theorem dL_transition_4 : decode cL_transition 4 = .ok (.iload_n 1, 1) := by decide +kernel
theorem dL_transition_5 : decode cL_transition 5 = .ok (.iload_n 2, 1) := by decide +kernel
theorem dL_transition_6 : decode cL_transition 6 = .ok (.iload_n 3, 1) := by decide +kernel
theorem dL_transition_7 : decode cL_transition 7 = .ok (.invokevirtual 48, 3) := by decide +kernel
theorem dL_transition_10 : decode cL_transition 10 = .ok (.i2l, 1) := by decide +kernel
theorem dL_transition_11 : decode cL_transition 11 = .ok (.lastore, 1) := by decide +kernel
theorem dL_transition_12 : decode cL_transition 12 = .ok (.goto 15, 3) := by decide +kernel
theorem dL_transition_15 : decode cL_transition 15 = .ok (.astore 5, 2) := by decide +kernel
theorem dL_transition_17 : decode cL_transition 17 = .ok (.iconst 1, 1) := by decide +kernel
theorem dL_transition_18 : decode cL_transition 18 = .ok (.ireturn, 1) := by decide +kernel
theorem dL_transition_19 : decode cL_transition 19 = .ok (.astore 5, 2) := by decide +kernel
theorem dL_transition_21 : decode cL_transition 21 = .ok (.iconst 2, 1) := by decide +kernel
theorem dL_transition_22 : decode cL_transition 22 = .ok (.ireturn, 1) := by decide +kernel
theorem dL_transition_23 : decode cL_transition 23 = .ok (.astore 5, 2) := by decide +kernel
theorem dL_transition_25 : decode cL_transition 25 = .ok (.iconst 3, 1) := by decide +kernel
theorem dL_transition_26 : decode cL_transition 26 = .ok (.ireturn, 1) := by decide +kernel
theorem dL_transition_27 : decode cL_transition 27 = .ok (.iconst 0, 1) := by decide +kernel
theorem dL_transition_28 : decode cL_transition 28 = .ok (.ireturn, 1) := by decide +kernel
theorem dL_voidEvent_0 : decode cL_voidEvent 0 = .ok (.aload 4, 2) := by decide +kernel
theorem dL_voidEvent_2 : decode cL_voidEvent 2 = .ok (.iconst 0, 1) := by decide +kernel
theorem dL_voidEvent_3 : decode cL_voidEvent 3 = .ok (.aload_n 0, 1) := by decide +kernel
theorem dL_voidEvent_4 : decode cL_voidEvent 4 = .ok (.iload_n 1, 1) := by decide +kernel
theorem dL_voidEvent_5 : decode cL_voidEvent 5 = .ok (.iload_n 2, 1) := by decide +kernel
theorem dL_voidEvent_6 : decode cL_voidEvent 6 = .ok (.iload_n 3, 1) := by decide +kernel
theorem dL_voidEvent_7 : decode cL_voidEvent 7 = .ok (.invokevirtual 51, 3) := by decide +kernel
theorem dL_voidEvent_10 : decode cL_voidEvent 10 = .ok (.i2l, 1) := by decide +kernel
theorem dL_voidEvent_11 : decode cL_voidEvent 11 = .ok (.lastore, 1) := by decide +kernel
theorem dL_voidEvent_12 : decode cL_voidEvent 12 = .ok (.goto 15, 3) := by decide +kernel
theorem dL_voidEvent_15 : decode cL_voidEvent 15 = .ok (.astore 5, 2) := by decide +kernel
theorem dL_voidEvent_17 : decode cL_voidEvent 17 = .ok (.iconst 1, 1) := by decide +kernel
theorem dL_voidEvent_18 : decode cL_voidEvent 18 = .ok (.ireturn, 1) := by decide +kernel
theorem dL_voidEvent_19 : decode cL_voidEvent 19 = .ok (.astore 5, 2) := by decide +kernel
theorem dL_voidEvent_21 : decode cL_voidEvent 21 = .ok (.iconst 2, 1) := by decide +kernel
theorem dL_voidEvent_22 : decode cL_voidEvent 22 = .ok (.ireturn, 1) := by decide +kernel
theorem dL_voidEvent_23 : decode cL_voidEvent 23 = .ok (.astore 5, 2) := by decide +kernel
theorem dL_voidEvent_25 : decode cL_voidEvent 25 = .ok (.iconst 3, 1) := by decide +kernel
theorem dL_voidEvent_26 : decode cL_voidEvent 26 = .ok (.ireturn, 1) := by decide +kernel
theorem dL_voidEvent_27 : decode cL_voidEvent 27 = .ok (.iconst 0, 1) := by decide +kernel
theorem dL_voidEvent_28 : decode cL_voidEvent 28 = .ok (.ireturn, 1) := by decide +kernel
theorem dL_offset_0 : decode cL_offset 0 = .ok (.aload_n 3, 1) := by decide +kernel
theorem dL_offset_1 : decode cL_offset 1 = .ok (.iconst 0, 1) := by decide +kernel
theorem dL_offset_2 : decode cL_offset 2 = .ok (.aload_n 0, 1) := by decide +kernel
theorem dL_offset_3 : decode cL_offset 3 = .ok (.iload_n 1, 1) := by decide +kernel
theorem dL_offset_4 : decode cL_offset 4 = .ok (.iload_n 2, 1) := by decide +kernel
theorem dL_offset_5 : decode cL_offset 5 = .ok (.invokevirtual 54, 3) := by decide +kernel
theorem dL_offset_8 : decode cL_offset 8 = .ok (.i2l, 1) := by decide +kernel
theorem dL_offset_9 : decode cL_offset 9 = .ok (.lastore, 1) := by decide +kernel
theorem dL_offset_10 : decode cL_offset 10 = .ok (.goto 11, 3) := by decide +kernel
theorem dL_offset_13 : decode cL_offset 13 = .ok (.astore 4, 2) := by decide +kernel
theorem dL_offset_15 : decode cL_offset 15 = .ok (.iconst 1, 1) := by decide +kernel
theorem dL_offset_16 : decode cL_offset 16 = .ok (.ireturn, 1) := by decide +kernel
theorem dL_offset_17 : decode cL_offset 17 = .ok (.astore 4, 2) := by decide +kernel
theorem dL_offset_19 : decode cL_offset 19 = .ok (.iconst 2, 1) := by decide +kernel
theorem dL_offset_20 : decode cL_offset 20 = .ok (.ireturn, 1) := by decide +kernel
theorem dL_offset_21 : decode cL_offset 21 = .ok (.iconst 0, 1) := by decide +kernel
theorem dL_offset_22 : decode cL_offset 22 = .ok (.ireturn, 1) := by decide +kernel
theorem dL_offsetAgain_0 : decode cL_offsetAgain 0 = .ok (.aload_n 3, 1) := by decide +kernel
theorem dL_offsetAgain_1 : decode cL_offsetAgain 1 = .ok (.iconst 0, 1) := by decide +kernel
theorem dL_offsetAgain_2 : decode cL_offsetAgain 2 = .ok (.aload_n 0, 1) := by decide +kernel
theorem dL_offsetAgain_3 : decode cL_offsetAgain 3 = .ok (.iload_n 1, 1) := by decide +kernel
theorem dL_offsetAgain_4 : decode cL_offsetAgain 4 = .ok (.iload_n 2, 1) := by decide +kernel
theorem dL_offsetAgain_5 : decode cL_offsetAgain 5 = .ok (.invokevirtual 57, 3) := by decide +kernel
theorem dL_offsetAgain_8 : decode cL_offsetAgain 8 = .ok (.i2l, 1) := by decide +kernel
theorem dL_offsetAgain_9 : decode cL_offsetAgain 9 = .ok (.lastore, 1) := by decide +kernel
theorem dL_offsetAgain_10 : decode cL_offsetAgain 10 = .ok (.goto 11, 3) := by decide +kernel
theorem dL_offsetAgain_13 : decode cL_offsetAgain 13 = .ok (.astore 4, 2) := by decide +kernel
theorem dL_offsetAgain_15 : decode cL_offsetAgain 15 = .ok (.iconst 1, 1) := by decide +kernel
theorem dL_offsetAgain_16 : decode cL_offsetAgain 16 = .ok (.ireturn, 1) := by decide +kernel
theorem dL_offsetAgain_17 : decode cL_offsetAgain 17 = .ok (.astore 4, 2) := by decide +kernel
theorem dL_offsetAgain_19 : decode cL_offsetAgain 19 = .ok (.iconst 2, 1) := by decide +kernel
theorem dL_offsetAgain_20 : decode cL_offsetAgain 20 = .ok (.ireturn, 1) := by decide +kernel
theorem dL_offsetAgain_21 : decode cL_offsetAgain 21 = .ok (.iconst 0, 1) := by decide +kernel
theorem dL_offsetAgain_22 : decode cL_offsetAgain 22 = .ok (.ireturn, 1) := by decide +kernel
theorem dL_toLocal_0 : decode cL_toLocal 0 = .ok (.aload_n 3, 1) := by decide +kernel
theorem dL_toLocal_1 : decode cL_toLocal 1 = .ok (.iconst 0, 1) := by decide +kernel
theorem dL_toLocal_2 : decode cL_toLocal 2 = .ok (.aload_n 0, 1) := by decide +kernel
theorem dL_toLocal_3 : decode cL_toLocal 3 = .ok (.iload_n 1, 1) := by decide +kernel
theorem dL_toLocal_4 : decode cL_toLocal 4 = .ok (.iload_n 2, 1) := by decide +kernel
theorem dL_toLocal_5 : decode cL_toLocal 5 = .ok (.invokevirtual 60, 3) := by decide +kernel
theorem dL_toLocal_8 : decode cL_toLocal 8 = .ok (.i2l, 1) := by decide +kernel
theorem dL_toLocal_9 : decode cL_toLocal 9 = .ok (.lastore, 1) := by decide +kernel
theorem dL_toLocal_10 : decode cL_toLocal 10 = .ok (.goto 11, 3) := by decide +kernel
theorem dL_toLocal_13 : decode cL_toLocal 13 = .ok (.astore 4, 2) := by decide +kernel
theorem dL_toLocal_15 : decode cL_toLocal 15 = .ok (.iconst 1, 1) := by decide +kernel
theorem dL_toLocal_16 : decode cL_toLocal 16 = .ok (.ireturn, 1) := by decide +kernel
theorem dL_toLocal_17 : decode cL_toLocal 17 = .ok (.astore 4, 2) := by decide +kernel
theorem dL_toLocal_19 : decode cL_toLocal 19 = .ok (.iconst 2, 1) := by decide +kernel
theorem dL_toLocal_20 : decode cL_toLocal 20 = .ok (.ireturn, 1) := by decide +kernel
theorem dL_toLocal_21 : decode cL_toLocal 21 = .ok (.iconst 0, 1) := by decide +kernel
theorem dL_toLocal_22 : decode cL_toLocal 22 = .ok (.ireturn, 1) := by decide +kernel
theorem dL_instants_0 : decode cL_instants 0 = .ok (.aload_n 3, 1) := by decide +kernel
theorem dL_instants_1 : decode cL_instants 1 = .ok (.iconst 0, 1) := by decide +kernel
theorem dL_instants_2 : decode cL_instants 2 = .ok (.aload_n 0, 1) := by decide +kernel
theorem dL_instants_3 : decode cL_instants 3 = .ok (.iload_n 1, 1) := by decide +kernel
theorem dL_instants_4 : decode cL_instants 4 = .ok (.iload_n 2, 1) := by decide +kernel
theorem dL_instants_5 : decode cL_instants 5 = .ok (.invokevirtual 63, 3) := by decide +kernel
theorem dL_instants_8 : decode cL_instants 8 = .ok (.i2l, 1) := by decide +kernel
theorem dL_instants_9 : decode cL_instants 9 = .ok (.lastore, 1) := by decide +kernel
theorem dL_instants_10 : decode cL_instants 10 = .ok (.goto 11, 3) := by decide +kernel
theorem dL_instants_13 : decode cL_instants 13 = .ok (.astore 4, 2) := by decide +kernel
theorem dL_instants_15 : decode cL_instants 15 = .ok (.iconst 1, 1) := by decide +kernel
theorem dL_instants_16 : decode cL_instants 16 = .ok (.ireturn, 1) := by decide +kernel
theorem dL_instants_17 : decode cL_instants 17 = .ok (.astore 4, 2) := by decide +kernel
theorem dL_instants_19 : decode cL_instants 19 = .ok (.iconst 2, 1) := by decide +kernel
theorem dL_instants_20 : decode cL_instants 20 = .ok (.ireturn, 1) := by decide +kernel
theorem dL_instants_21 : decode cL_instants 21 = .ok (.iconst 0, 1) := by decide +kernel
theorem dL_instants_22 : decode cL_instants 22 = .ok (.ireturn, 1) := by decide +kernel
theorem dL_instantsAgain_0 : decode cL_instantsAgain 0 = .ok (.aload_n 3, 1) := by decide +kernel
theorem dL_instantsAgain_1 : decode cL_instantsAgain 1 = .ok (.iconst 0, 1) := by decide +kernel
theorem dL_instantsAgain_2 : decode cL_instantsAgain 2 = .ok (.aload_n 0, 1) := by decide +kernel
theorem dL_instantsAgain_3 : decode cL_instantsAgain 3 = .ok (.iload_n 1, 1) := by decide +kernel
theorem dL_instantsAgain_4 : decode cL_instantsAgain 4 = .ok (.iload_n 2, 1) := by decide +kernel
theorem dL_instantsAgain_5 : decode cL_instantsAgain 5 = .ok (.invokevirtual 66, 3) := by decide +kernel
theorem dL_instantsAgain_8 : decode cL_instantsAgain 8 = .ok (.i2l, 1) := by decide +kernel
theorem dL_instantsAgain_9 : decode cL_instantsAgain 9 = .ok (.lastore, 1) := by decide +kernel
theorem dL_instantsAgain_10 : decode cL_instantsAgain 10 = .ok (.goto 11, 3) := by decide +kernel
theorem dL_instantsAgain_13 : decode cL_instantsAgain 13 = .ok (.astore 4, 2) := by decide +kernel
theorem dL_instantsAgain_15 : decode cL_instantsAgain 15 = .ok (.iconst 1, 1) := by decide +kernel
theorem dL_instantsAgain_16 : decode cL_instantsAgain 16 = .ok (.ireturn, 1) := by decide +kernel
theorem dL_instantsAgain_17 : decode cL_instantsAgain 17 = .ok (.astore 4, 2) := by decide +kernel
theorem dL_instantsAgain_19 : decode cL_instantsAgain 19 = .ok (.iconst 2, 1) := by decide +kernel
theorem dL_instantsAgain_20 : decode cL_instantsAgain 20 = .ok (.ireturn, 1) := by decide +kernel
theorem dL_instantsAgain_21 : decode cL_instantsAgain 21 = .ok (.iconst 0, 1) := by decide +kernel
theorem dL_instantsAgain_22 : decode cL_instantsAgain 22 = .ok (.ireturn, 1) := by decide +kernel
theorem dL_cause_0 : decode cL_cause 0 = .ok (.aload_n 3, 1) := by decide +kernel
theorem dL_cause_1 : decode cL_cause 1 = .ok (.iconst 0, 1) := by decide +kernel
theorem dL_cause_2 : decode cL_cause 2 = .ok (.aload_n 0, 1) := by decide +kernel
theorem dL_cause_3 : decode cL_cause 3 = .ok (.iload_n 1, 1) := by decide +kernel
theorem dL_cause_4 : decode cL_cause 4 = .ok (.iload_n 2, 1) := by decide +kernel
theorem dL_cause_5 : decode cL_cause 5 = .ok (.invokevirtual 69, 3) := by decide +kernel
theorem dL_cause_8 : decode cL_cause 8 = .ok (.i2l, 1) := by decide +kernel
theorem dL_cause_9 : decode cL_cause 9 = .ok (.lastore, 1) := by decide +kernel
theorem dL_cause_10 : decode cL_cause 10 = .ok (.goto 11, 3) := by decide +kernel
theorem dL_cause_13 : decode cL_cause 13 = .ok (.astore 4, 2) := by decide +kernel
theorem dL_cause_15 : decode cL_cause 15 = .ok (.iconst 1, 1) := by decide +kernel
theorem dL_cause_16 : decode cL_cause 16 = .ok (.ireturn, 1) := by decide +kernel
theorem dL_cause_17 : decode cL_cause 17 = .ok (.astore 4, 2) := by decide +kernel
theorem dL_cause_19 : decode cL_cause 19 = .ok (.iconst 2, 1) := by decide +kernel
theorem dL_cause_20 : decode cL_cause 20 = .ok (.ireturn, 1) := by decide +kernel
theorem dL_cause_21 : decode cL_cause 21 = .ok (.iconst 0, 1) := by decide +kernel
theorem dL_cause_22 : decode cL_cause 22 = .ok (.ireturn, 1) := by decide +kernel
theorem dL_toInstant_0 : decode cL_toInstant 0 = .ok (.aload 4, 2) := by decide +kernel
theorem dL_toInstant_2 : decode cL_toInstant 2 = .ok (.iconst 0, 1) := by decide +kernel
theorem dL_toInstant_3 : decode cL_toInstant 3 = .ok (.aload_n 0, 1) := by decide +kernel
theorem dL_toInstant_4 : decode cL_toInstant 4 = .ok (.iload_n 1, 1) := by decide +kernel
theorem dL_toInstant_5 : decode cL_toInstant 5 = .ok (.iload_n 2, 1) := by decide +kernel
theorem dL_toInstant_6 : decode cL_toInstant 6 = .ok (.iload_n 3, 1) := by decide +kernel
theorem dL_toInstant_7 : decode cL_toInstant 7 = .ok (.invokevirtual 72, 3) := by decide +kernel
theorem dL_toInstant_10 : decode cL_toInstant 10 = .ok (.i2l, 1) := by decide +kernel
theorem dL_toInstant_11 : decode cL_toInstant 11 = .ok (.lastore, 1) := by decide +kernel
theorem dL_toInstant_12 : decode cL_toInstant 12 = .ok (.goto 15, 3) := by decide +kernel
theorem dL_toInstant_15 : decode cL_toInstant 15 = .ok (.astore 5, 2) := by decide +kernel
theorem dL_toInstant_17 : decode cL_toInstant 17 = .ok (.iconst 1, 1) := by decide +kernel
theorem dL_toInstant_18 : decode cL_toInstant 18 = .ok (.ireturn, 1) := by decide +kernel
theorem dL_toInstant_19 : decode cL_toInstant 19 = .ok (.astore 5, 2) := by decide +kernel
theorem dL_toInstant_21 : decode cL_toInstant 21 = .ok (.iconst 2, 1) := by decide +kernel
theorem dL_toInstant_22 : decode cL_toInstant 22 = .ok (.ireturn, 1) := by decide +kernel
theorem dL_toInstant_23 : decode cL_toInstant 23 = .ok (.astore 5, 2) := by decide +kernel
theorem dL_toInstant_25 : decode cL_toInstant 25 = .ok (.iconst 3, 1) := by decide +kernel
theorem dL_toInstant_26 : decode cL_toInstant 26 = .ok (.ireturn, 1) := by decide +kernel
theorem dL_toInstant_27 : decode cL_toInstant 27 = .ok (.iconst 0, 1) := by decide +kernel
theorem dL_toInstant_28 : decode cL_toInstant 28 = .ok (.ireturn, 1) := by decide +kernel
theorem dL_convert_0 : decode cL_convert 0 = .ok (.aload 5, 2) := by decide +kernel
theorem dL_convert_2 : decode cL_convert 2 = .ok (.iconst 0, 1) := by decide +kernel
theorem dL_convert_3 : decode cL_convert 3 = .ok (.aload_n 0, 1) := by decide +kernel
theorem dL_convert_4 : decode cL_convert 4 = .ok (.iload_n 1, 1) := by decide +kernel
theorem dL_convert_5 : decode cL_convert 5 = .ok (.iload_n 2, 1) := by decide +kernel
theorem dL_convert_6 : decode cL_convert 6 = .ok (.iload_n 3, 1) := by decide +kernel
theorem dL_convert_7 : decode cL_convert 7 = .ok (.iload 4, 2) := by decide +kernel
theorem dL_convert_9 : decode cL_convert 9 = .ok (.invokevirtual 77, 3) := by decide +kernel
theorem dL_convert_12 : decode cL_convert 12 = .ok (.i2l, 1) := by decide +kernel
theorem dL_convert_13 : decode cL_convert 13 = .ok (.lastore, 1) := by decide +kernel
theorem dL_convert_14 : decode cL_convert 14 = .ok (.goto 15, 3) := by decide +kernel
theorem dL_convert_17 : decode cL_convert 17 = .ok (.astore 6, 2) := by decide +kernel
theorem dL_convert_19 : decode cL_convert 19 = .ok (.iconst 1, 1) := by decide +kernel
theorem dL_convert_20 : decode cL_convert 20 = .ok (.ireturn, 1) := by decide +kernel
theorem dL_convert_21 : decode cL_convert 21 = .ok (.astore 6, 2) := by decide +kernel
theorem dL_convert_23 : decode cL_convert 23 = .ok (.iconst 2, 1) := by decide +kernel
theorem dL_convert_24 : decode cL_convert 24 = .ok (.ireturn, 1) := by decide +kernel
theorem dL_convert_25 : decode cL_convert 25 = .ok (.astore 6, 2) := by decide +kernel
theorem dL_convert_27 : decode cL_convert 27 = .ok (.iconst 3, 1) := by decide +kernel
theorem dL_convert_28 : decode cL_convert 28 = .ok (.ireturn, 1) := by decide +kernel
theorem dL_convert_29 : decode cL_convert 29 = .ok (.iconst 0, 1) := by decide +kernel
theorem dL_convert_30 : decode cL_convert 30 = .ok (.ireturn, 1) := by decide +kernel
theorem dL_dayLength_0 : decode cL_dayLength 0 = .ok (.aload_n 3, 1) := by decide +kernel
theorem dL_dayLength_1 : decode cL_dayLength 1 = .ok (.iconst 0, 1) := by decide +kernel
theorem dL_dayLength_2 : decode cL_dayLength 2 = .ok (.aload_n 0, 1) := by decide +kernel
theorem dL_dayLength_3 : decode cL_dayLength 3 = .ok (.iload_n 1, 1) := by decide +kernel
theorem dL_dayLength_4 : decode cL_dayLength 4 = .ok (.iload_n 2, 1) := by decide +kernel
theorem dL_dayLength_5 : decode cL_dayLength 5 = .ok (.invokevirtual 81, 3) := by decide +kernel
theorem dL_dayLength_8 : decode cL_dayLength 8 = .ok (.i2l, 1) := by decide +kernel
theorem dL_dayLength_9 : decode cL_dayLength 9 = .ok (.lastore, 1) := by decide +kernel
theorem dL_dayLength_10 : decode cL_dayLength 10 = .ok (.goto 7, 3) := by decide +kernel
theorem dL_dayLength_13 : decode cL_dayLength 13 = .ok (.astore 4, 2) := by decide +kernel
theorem dL_dayLength_15 : decode cL_dayLength 15 = .ok (.iconst 1, 1) := by decide +kernel
theorem dL_dayLength_16 : decode cL_dayLength 16 = .ok (.ireturn, 1) := by decide +kernel
theorem dL_dayLength_17 : decode cL_dayLength 17 = .ok (.iconst 0, 1) := by decide +kernel
theorem dL_dayLength_18 : decode cL_dayLength 18 = .ok (.ireturn, 1) := by decide +kernel
theorem dL_account_0 : decode cL_account 0 = .ok (.aload 4, 2) := by decide +kernel
theorem dL_account_2 : decode cL_account 2 = .ok (.iconst 0, 1) := by decide +kernel
theorem dL_account_3 : decode cL_account 3 = .ok (.aload_n 0, 1) := by decide +kernel
theorem dL_account_4 : decode cL_account 4 = .ok (.iload_n 1, 1) := by decide +kernel
theorem dL_account_5 : decode cL_account 5 = .ok (.iload_n 2, 1) := by decide +kernel
theorem dL_account_6 : decode cL_account 6 = .ok (.iload_n 3, 1) := by decide +kernel
theorem dL_account_7 : decode cL_account 7 = .ok (.invokevirtual 84, 3) := by decide +kernel
theorem dL_account_10 : decode cL_account 10 = .ok (.i2l, 1) := by decide +kernel
theorem dL_account_11 : decode cL_account 11 = .ok (.lastore, 1) := by decide +kernel
theorem dL_account_12 : decode cL_account 12 = .ok (.goto 11, 3) := by decide +kernel
theorem dL_account_15 : decode cL_account 15 = .ok (.astore 5, 2) := by decide +kernel
theorem dL_account_17 : decode cL_account 17 = .ok (.iconst 1, 1) := by decide +kernel
theorem dL_account_18 : decode cL_account 18 = .ok (.ireturn, 1) := by decide +kernel
theorem dL_account_19 : decode cL_account 19 = .ok (.astore 5, 2) := by decide +kernel
theorem dL_account_21 : decode cL_account 21 = .ok (.iconst 2, 1) := by decide +kernel
theorem dL_account_22 : decode cL_account 22 = .ok (.ireturn, 1) := by decide +kernel
theorem dL_account_23 : decode cL_account 23 = .ok (.iconst 0, 1) := by decide +kernel
theorem dL_account_24 : decode cL_account 24 = .ok (.ireturn, 1) := by decide +kernel
theorem dL_addMeeting_0 : decode cL_addMeeting 0 = .ok (.aload 7, 2) := by decide +kernel
theorem dL_addMeeting_2 : decode cL_addMeeting 2 = .ok (.iconst 0, 1) := by decide +kernel
theorem dL_addMeeting_3 : decode cL_addMeeting 3 = .ok (.aload_n 0, 1) := by decide +kernel
theorem dL_addMeeting_4 : decode cL_addMeeting 4 = .ok (.iload_n 1, 1) := by decide +kernel
theorem dL_addMeeting_5 : decode cL_addMeeting 5 = .ok (.iload_n 2, 1) := by decide +kernel
theorem dL_addMeeting_6 : decode cL_addMeeting 6 = .ok (.iload_n 3, 1) := by decide +kernel
theorem dL_addMeeting_7 : decode cL_addMeeting 7 = .ok (.iload 4, 2) := by decide +kernel
theorem dL_addMeeting_9 : decode cL_addMeeting 9 = .ok (.iload 5, 2) := by decide +kernel
theorem dL_addMeeting_11 : decode cL_addMeeting 11 = .ok (.iload 6, 2) := by decide +kernel
theorem dL_addMeeting_13 : decode cL_addMeeting 13 = .ok (.invokevirtual 87, 3) := by decide +kernel
theorem dL_addMeeting_16 : decode cL_addMeeting 16 = .ok (.i2l, 1) := by decide +kernel
theorem dL_addMeeting_17 : decode cL_addMeeting 17 = .ok (.lastore, 1) := by decide +kernel
theorem dL_addMeeting_18 : decode cL_addMeeting 18 = .ok (.goto 15, 3) := by decide +kernel
theorem dL_addMeeting_21 : decode cL_addMeeting 21 = .ok (.astore 8, 2) := by decide +kernel
theorem dL_addMeeting_23 : decode cL_addMeeting 23 = .ok (.iconst 1, 1) := by decide +kernel
theorem dL_addMeeting_24 : decode cL_addMeeting 24 = .ok (.ireturn, 1) := by decide +kernel
theorem dL_addMeeting_25 : decode cL_addMeeting 25 = .ok (.astore 8, 2) := by decide +kernel
theorem dL_addMeeting_27 : decode cL_addMeeting 27 = .ok (.iconst 2, 1) := by decide +kernel
theorem dL_addMeeting_28 : decode cL_addMeeting 28 = .ok (.ireturn, 1) := by decide +kernel
theorem dL_addMeeting_29 : decode cL_addMeeting 29 = .ok (.astore 8, 2) := by decide +kernel
theorem dL_addMeeting_31 : decode cL_addMeeting 31 = .ok (.iconst 3, 1) := by decide +kernel
theorem dL_addMeeting_32 : decode cL_addMeeting 32 = .ok (.ireturn, 1) := by decide +kernel
theorem dL_addMeeting_33 : decode cL_addMeeting 33 = .ok (.iconst 0, 1) := by decide +kernel
theorem dL_addMeeting_34 : decode cL_addMeeting 34 = .ok (.ireturn, 1) := by decide +kernel
theorem dL_recur_0 : decode cL_recur 0 = .ok (.aload 5, 2) := by decide +kernel
theorem dL_recur_2 : decode cL_recur 2 = .ok (.iconst 0, 1) := by decide +kernel
theorem dL_recur_3 : decode cL_recur 3 = .ok (.aload_n 0, 1) := by decide +kernel
theorem dL_recur_4 : decode cL_recur 4 = .ok (.iload_n 1, 1) := by decide +kernel
theorem dL_recur_5 : decode cL_recur 5 = .ok (.iload_n 2, 1) := by decide +kernel
theorem dL_recur_6 : decode cL_recur 6 = .ok (.iload_n 3, 1) := by decide +kernel
theorem dL_recur_7 : decode cL_recur 7 = .ok (.iload 4, 2) := by decide +kernel
theorem dL_recur_9 : decode cL_recur 9 = .ok (.invokevirtual 90, 3) := by decide +kernel
theorem dL_recur_12 : decode cL_recur 12 = .ok (.i2l, 1) := by decide +kernel
theorem dL_recur_13 : decode cL_recur 13 = .ok (.lastore, 1) := by decide +kernel
theorem dL_recur_14 : decode cL_recur 14 = .ok (.goto 11, 3) := by decide +kernel
theorem dL_recur_17 : decode cL_recur 17 = .ok (.astore 6, 2) := by decide +kernel
theorem dL_recur_19 : decode cL_recur 19 = .ok (.iconst 1, 1) := by decide +kernel
theorem dL_recur_20 : decode cL_recur 20 = .ok (.ireturn, 1) := by decide +kernel
theorem dL_recur_21 : decode cL_recur 21 = .ok (.astore 6, 2) := by decide +kernel
theorem dL_recur_23 : decode cL_recur 23 = .ok (.iconst 2, 1) := by decide +kernel
theorem dL_recur_24 : decode cL_recur 24 = .ok (.ireturn, 1) := by decide +kernel
theorem dL_recur_25 : decode cL_recur 25 = .ok (.iconst 0, 1) := by decide +kernel
theorem dL_recur_26 : decode cL_recur 26 = .ok (.ireturn, 1) := by decide +kernel
theorem dL_cancel_0 : decode cL_cancel 0 = .ok (.aload_n 3, 1) := by decide +kernel
theorem dL_cancel_1 : decode cL_cancel 1 = .ok (.iconst 0, 1) := by decide +kernel
theorem dL_cancel_2 : decode cL_cancel 2 = .ok (.aload_n 0, 1) := by decide +kernel
theorem dL_cancel_3 : decode cL_cancel 3 = .ok (.iload_n 1, 1) := by decide +kernel
theorem dL_cancel_4 : decode cL_cancel 4 = .ok (.iload_n 2, 1) := by decide +kernel
theorem dL_cancel_5 : decode cL_cancel 5 = .ok (.invokevirtual 93, 3) := by decide +kernel
theorem dL_cancel_8 : decode cL_cancel 8 = .ok (.i2l, 1) := by decide +kernel
theorem dL_cancel_9 : decode cL_cancel 9 = .ok (.lastore, 1) := by decide +kernel
theorem dL_cancel_10 : decode cL_cancel 10 = .ok (.goto 7, 3) := by decide +kernel
theorem dL_cancel_13 : decode cL_cancel 13 = .ok (.astore 4, 2) := by decide +kernel
theorem dL_cancel_15 : decode cL_cancel 15 = .ok (.iconst 1, 1) := by decide +kernel
theorem dL_cancel_16 : decode cL_cancel 16 = .ok (.ireturn, 1) := by decide +kernel
theorem dL_cancel_17 : decode cL_cancel 17 = .ok (.iconst 0, 1) := by decide +kernel
theorem dL_cancel_18 : decode cL_cancel 18 = .ok (.ireturn, 1) := by decide +kernel
theorem dL_shift_0 : decode cL_shift 0 = .ok (.aload 4, 2) := by decide +kernel
theorem dL_shift_2 : decode cL_shift 2 = .ok (.iconst 0, 1) := by decide +kernel
theorem dL_shift_3 : decode cL_shift 3 = .ok (.aload_n 0, 1) := by decide +kernel
theorem dL_shift_4 : decode cL_shift 4 = .ok (.iload_n 1, 1) := by decide +kernel
theorem dL_shift_5 : decode cL_shift 5 = .ok (.iload_n 2, 1) := by decide +kernel
theorem dL_shift_6 : decode cL_shift 6 = .ok (.iload_n 3, 1) := by decide +kernel
theorem dL_shift_7 : decode cL_shift 7 = .ok (.invokevirtual 96, 3) := by decide +kernel
theorem dL_shift_10 : decode cL_shift 10 = .ok (.i2l, 1) := by decide +kernel
theorem dL_shift_11 : decode cL_shift 11 = .ok (.lastore, 1) := by decide +kernel
theorem dL_shift_12 : decode cL_shift 12 = .ok (.goto 11, 3) := by decide +kernel
theorem dL_shift_15 : decode cL_shift 15 = .ok (.astore 5, 2) := by decide +kernel
theorem dL_shift_17 : decode cL_shift 17 = .ok (.iconst 1, 1) := by decide +kernel
theorem dL_shift_18 : decode cL_shift 18 = .ok (.ireturn, 1) := by decide +kernel
theorem dL_shift_19 : decode cL_shift 19 = .ok (.astore 5, 2) := by decide +kernel
theorem dL_shift_21 : decode cL_shift 21 = .ok (.iconst 2, 1) := by decide +kernel
theorem dL_shift_22 : decode cL_shift 22 = .ok (.ireturn, 1) := by decide +kernel
theorem dL_shift_23 : decode cL_shift 23 = .ok (.iconst 0, 1) := by decide +kernel
theorem dL_shift_24 : decode cL_shift 24 = .ok (.ireturn, 1) := by decide +kernel
theorem dL_meeting_0 : decode cL_meeting 0 = .ok (.aload_n 3, 1) := by decide +kernel
theorem dL_meeting_1 : decode cL_meeting 1 = .ok (.iconst 0, 1) := by decide +kernel
theorem dL_meeting_2 : decode cL_meeting 2 = .ok (.aload_n 0, 1) := by decide +kernel
theorem dL_meeting_3 : decode cL_meeting 3 = .ok (.iload_n 1, 1) := by decide +kernel
theorem dL_meeting_4 : decode cL_meeting 4 = .ok (.iload_n 2, 1) := by decide +kernel
theorem dL_meeting_5 : decode cL_meeting 5 = .ok (.invokevirtual 99, 3) := by decide +kernel
theorem dL_meeting_8 : decode cL_meeting 8 = .ok (.i2l, 1) := by decide +kernel
theorem dL_meeting_9 : decode cL_meeting 9 = .ok (.lastore, 1) := by decide +kernel
theorem dL_meeting_10 : decode cL_meeting 10 = .ok (.goto 11, 3) := by decide +kernel
theorem dL_meeting_13 : decode cL_meeting 13 = .ok (.astore 4, 2) := by decide +kernel
theorem dL_meeting_15 : decode cL_meeting 15 = .ok (.iconst 1, 1) := by decide +kernel
theorem dL_meeting_16 : decode cL_meeting 16 = .ok (.ireturn, 1) := by decide +kernel
theorem dL_meeting_17 : decode cL_meeting 17 = .ok (.astore 4, 2) := by decide +kernel
theorem dL_meeting_19 : decode cL_meeting 19 = .ok (.iconst 2, 1) := by decide +kernel
theorem dL_meeting_20 : decode cL_meeting 20 = .ok (.ireturn, 1) := by decide +kernel
theorem dL_meeting_21 : decode cL_meeting 21 = .ok (.iconst 0, 1) := by decide +kernel
theorem dL_meeting_22 : decode cL_meeting 22 = .ok (.ireturn, 1) := by decide +kernel
theorem dL_occurrence_0 : decode cL_occurrence 0 = .ok (.aload 4, 2) := by decide +kernel
theorem dL_occurrence_2 : decode cL_occurrence 2 = .ok (.iconst 0, 1) := by decide +kernel
theorem dL_occurrence_3 : decode cL_occurrence 3 = .ok (.aload_n 0, 1) := by decide +kernel
theorem dL_occurrence_4 : decode cL_occurrence 4 = .ok (.iload_n 1, 1) := by decide +kernel
theorem dL_occurrence_5 : decode cL_occurrence 5 = .ok (.iload_n 2, 1) := by decide +kernel
theorem dL_occurrence_6 : decode cL_occurrence 6 = .ok (.iload_n 3, 1) := by decide +kernel
theorem dL_occurrence_7 : decode cL_occurrence 7 = .ok (.invokevirtual 102, 3) := by decide +kernel
theorem dL_occurrence_10 : decode cL_occurrence 10 = .ok (.i2l, 1) := by decide +kernel
theorem dL_occurrence_11 : decode cL_occurrence 11 = .ok (.lastore, 1) := by decide +kernel
theorem dL_occurrence_12 : decode cL_occurrence 12 = .ok (.goto 15, 3) := by decide +kernel
theorem dL_occurrence_15 : decode cL_occurrence 15 = .ok (.astore 5, 2) := by decide +kernel
theorem dL_occurrence_17 : decode cL_occurrence 17 = .ok (.iconst 1, 1) := by decide +kernel
theorem dL_occurrence_18 : decode cL_occurrence 18 = .ok (.ireturn, 1) := by decide +kernel
theorem dL_occurrence_19 : decode cL_occurrence 19 = .ok (.astore 5, 2) := by decide +kernel
theorem dL_occurrence_21 : decode cL_occurrence 21 = .ok (.iconst 2, 1) := by decide +kernel
theorem dL_occurrence_22 : decode cL_occurrence 22 = .ok (.ireturn, 1) := by decide +kernel
theorem dL_occurrence_23 : decode cL_occurrence 23 = .ok (.astore 5, 2) := by decide +kernel
theorem dL_occurrence_25 : decode cL_occurrence 25 = .ok (.iconst 3, 1) := by decide +kernel
theorem dL_occurrence_26 : decode cL_occurrence 26 = .ok (.ireturn, 1) := by decide +kernel
theorem dL_occurrence_27 : decode cL_occurrence 27 = .ok (.iconst 0, 1) := by decide +kernel
theorem dL_occurrence_28 : decode cL_occurrence 28 = .ok (.ireturn, 1) := by decide +kernel
theorem dL_next_0 : decode cL_next 0 = .ok (.aload_n 3, 1) := by decide +kernel
theorem dL_next_1 : decode cL_next 1 = .ok (.iconst 0, 1) := by decide +kernel
theorem dL_next_2 : decode cL_next 2 = .ok (.aload_n 0, 1) := by decide +kernel
theorem dL_next_3 : decode cL_next 3 = .ok (.iload_n 1, 1) := by decide +kernel
theorem dL_next_4 : decode cL_next 4 = .ok (.iload_n 2, 1) := by decide +kernel
theorem dL_next_5 : decode cL_next 5 = .ok (.invokevirtual 105, 3) := by decide +kernel
theorem dL_next_8 : decode cL_next 8 = .ok (.i2l, 1) := by decide +kernel
theorem dL_next_9 : decode cL_next 9 = .ok (.lastore, 1) := by decide +kernel
theorem dL_next_10 : decode cL_next 10 = .ok (.goto 15, 3) := by decide +kernel
theorem dL_next_13 : decode cL_next 13 = .ok (.astore 4, 2) := by decide +kernel
theorem dL_next_15 : decode cL_next 15 = .ok (.iconst 1, 1) := by decide +kernel
theorem dL_next_16 : decode cL_next 16 = .ok (.ireturn, 1) := by decide +kernel
theorem dL_next_17 : decode cL_next 17 = .ok (.astore 4, 2) := by decide +kernel
theorem dL_next_19 : decode cL_next 19 = .ok (.iconst 2, 1) := by decide +kernel
theorem dL_next_20 : decode cL_next 20 = .ok (.ireturn, 1) := by decide +kernel
theorem dL_next_21 : decode cL_next 21 = .ok (.astore 4, 2) := by decide +kernel
theorem dL_next_23 : decode cL_next 23 = .ok (.iconst 3, 1) := by decide +kernel
theorem dL_next_24 : decode cL_next 24 = .ok (.ireturn, 1) := by decide +kernel
theorem dL_next_25 : decode cL_next 25 = .ok (.iconst 0, 1) := by decide +kernel
theorem dL_next_26 : decode cL_next 26 = .ok (.ireturn, 1) := by decide +kernel
theorem dL_clash_0 : decode cL_clash 0 = .ok (.aload_n 3, 1) := by decide +kernel
theorem dL_clash_1 : decode cL_clash 1 = .ok (.iconst 0, 1) := by decide +kernel
theorem dL_clash_2 : decode cL_clash 2 = .ok (.aload_n 0, 1) := by decide +kernel
theorem dL_clash_3 : decode cL_clash 3 = .ok (.iload_n 1, 1) := by decide +kernel
theorem dL_clash_4 : decode cL_clash 4 = .ok (.iload_n 2, 1) := by decide +kernel
theorem dL_clash_5 : decode cL_clash 5 = .ok (.invokevirtual 108, 3) := by decide +kernel
theorem dL_clash_8 : decode cL_clash 8 = .ok (.i2l, 1) := by decide +kernel
theorem dL_clash_9 : decode cL_clash 9 = .ok (.lastore, 1) := by decide +kernel
theorem dL_clash_10 : decode cL_clash 10 = .ok (.goto 7, 3) := by decide +kernel
theorem dL_clash_13 : decode cL_clash 13 = .ok (.astore 4, 2) := by decide +kernel
theorem dL_clash_15 : decode cL_clash 15 = .ok (.iconst 1, 1) := by decide +kernel
theorem dL_clash_16 : decode cL_clash 16 = .ok (.ireturn, 1) := by decide +kernel
theorem dL_clash_17 : decode cL_clash 17 = .ok (.iconst 0, 1) := by decide +kernel
theorem dL_clash_18 : decode cL_clash 18 = .ok (.ireturn, 1) := by decide +kernel
theorem dL_agenda_0 : decode cL_agenda 0 = .ok (.aload_n 3, 1) := by decide +kernel
theorem dL_agenda_1 : decode cL_agenda 1 = .ok (.iconst 0, 1) := by decide +kernel
theorem dL_agenda_2 : decode cL_agenda 2 = .ok (.aload_n 0, 1) := by decide +kernel
theorem dL_agenda_3 : decode cL_agenda 3 = .ok (.iload_n 1, 1) := by decide +kernel
theorem dL_agenda_4 : decode cL_agenda 4 = .ok (.iload_n 2, 1) := by decide +kernel
theorem dL_agenda_5 : decode cL_agenda 5 = .ok (.invokevirtual 111, 3) := by decide +kernel
theorem dL_agenda_8 : decode cL_agenda 8 = .ok (.i2l, 1) := by decide +kernel
theorem dL_agenda_9 : decode cL_agenda 9 = .ok (.lastore, 1) := by decide +kernel
theorem dL_agenda_10 : decode cL_agenda 10 = .ok (.goto 11, 3) := by decide +kernel
theorem dL_agenda_13 : decode cL_agenda 13 = .ok (.astore 4, 2) := by decide +kernel
theorem dL_agenda_15 : decode cL_agenda 15 = .ok (.iconst 1, 1) := by decide +kernel
theorem dL_agenda_16 : decode cL_agenda 16 = .ok (.ireturn, 1) := by decide +kernel
theorem dL_agenda_17 : decode cL_agenda 17 = .ok (.astore 4, 2) := by decide +kernel
theorem dL_agenda_19 : decode cL_agenda 19 = .ok (.iconst 2, 1) := by decide +kernel
theorem dL_agenda_20 : decode cL_agenda 20 = .ok (.ireturn, 1) := by decide +kernel
theorem dL_agenda_21 : decode cL_agenda 21 = .ok (.iconst 0, 1) := by decide +kernel
theorem dL_agenda_22 : decode cL_agenda 22 = .ok (.ireturn, 1) := by decide +kernel
theorem dL_drift_0 : decode cL_drift 0 = .ok (.aload_n 3, 1) := by decide +kernel
theorem dL_drift_1 : decode cL_drift 1 = .ok (.iconst 0, 1) := by decide +kernel
theorem dL_drift_2 : decode cL_drift 2 = .ok (.aload_n 0, 1) := by decide +kernel
theorem dL_drift_3 : decode cL_drift 3 = .ok (.iload_n 1, 1) := by decide +kernel
theorem dL_drift_4 : decode cL_drift 4 = .ok (.iload_n 2, 1) := by decide +kernel
theorem dL_drift_5 : decode cL_drift 5 = .ok (.invokevirtual 114, 3) := by decide +kernel
theorem dL_drift_8 : decode cL_drift 8 = .ok (.i2l, 1) := by decide +kernel
theorem dL_drift_9 : decode cL_drift 9 = .ok (.lastore, 1) := by decide +kernel
theorem dL_drift_10 : decode cL_drift 10 = .ok (.goto 7, 3) := by decide +kernel
theorem dL_drift_13 : decode cL_drift 13 = .ok (.astore 4, 2) := by decide +kernel
theorem dL_drift_15 : decode cL_drift 15 = .ok (.iconst 1, 1) := by decide +kernel
theorem dL_drift_16 : decode cL_drift 16 = .ok (.ireturn, 1) := by decide +kernel
theorem dL_drift_17 : decode cL_drift 17 = .ok (.iconst 0, 1) := by decide +kernel
theorem dL_drift_18 : decode cL_drift 18 = .ok (.ireturn, 1) := by decide +kernel
theorem dL_free_0 : decode cL_free 0 = .ok (.aload 4, 2) := by decide +kernel
theorem dL_free_2 : decode cL_free 2 = .ok (.iconst 0, 1) := by decide +kernel
theorem dL_free_3 : decode cL_free 3 = .ok (.aload_n 0, 1) := by decide +kernel
theorem dL_free_4 : decode cL_free 4 = .ok (.iload_n 1, 1) := by decide +kernel
theorem dL_free_5 : decode cL_free 5 = .ok (.iload_n 2, 1) := by decide +kernel
theorem dL_free_6 : decode cL_free 6 = .ok (.iload_n 3, 1) := by decide +kernel
theorem dL_free_7 : decode cL_free 7 = .ok (.invokevirtual 117, 3) := by decide +kernel
theorem dL_free_10 : decode cL_free 10 = .ok (.i2l, 1) := by decide +kernel
theorem dL_free_11 : decode cL_free 11 = .ok (.lastore, 1) := by decide +kernel
theorem dL_free_12 : decode cL_free 12 = .ok (.goto 11, 3) := by decide +kernel
theorem dL_free_15 : decode cL_free 15 = .ok (.astore 5, 2) := by decide +kernel
theorem dL_free_17 : decode cL_free 17 = .ok (.iconst 1, 1) := by decide +kernel
theorem dL_free_18 : decode cL_free 18 = .ok (.ireturn, 1) := by decide +kernel
theorem dL_free_19 : decode cL_free 19 = .ok (.astore 5, 2) := by decide +kernel
theorem dL_free_21 : decode cL_free 21 = .ok (.iconst 2, 1) := by decide +kernel
theorem dL_free_22 : decode cL_free 22 = .ok (.ireturn, 1) := by decide +kernel
theorem dL_free_23 : decode cL_free 23 = .ok (.iconst 0, 1) := by decide +kernel
theorem dL_free_24 : decode cL_free 24 = .ok (.ireturn, 1) := by decide +kernel
theorem dL_append_0 : decode cL_append 0 = .ok (.aload_n 2, 1) := by decide +kernel
theorem dL_append_1 : decode cL_append 1 = .ok (.iconst 0, 1) := by decide +kernel
theorem dL_append_2 : decode cL_append 2 = .ok (.aload_n 0, 1) := by decide +kernel
theorem dL_append_3 : decode cL_append 3 = .ok (.iload_n 1, 1) := by decide +kernel
theorem dL_append_4 : decode cL_append 4 = .ok (.invokevirtual 120, 3) := by decide +kernel
theorem dL_append_7 : decode cL_append 7 = .ok (.i2l, 1) := by decide +kernel
theorem dL_append_8 : decode cL_append 8 = .ok (.lastore, 1) := by decide +kernel
theorem dL_append_9 : decode cL_append 9 = .ok (.goto 9, 3) := by decide +kernel
theorem dL_append_12 : decode cL_append 12 = .ok (.astore_n 3, 1) := by decide +kernel
theorem dL_append_13 : decode cL_append 13 = .ok (.iconst 1, 1) := by decide +kernel
theorem dL_append_14 : decode cL_append 14 = .ok (.ireturn, 1) := by decide +kernel
theorem dL_append_15 : decode cL_append 15 = .ok (.astore_n 3, 1) := by decide +kernel
theorem dL_append_16 : decode cL_append 16 = .ok (.iconst 2, 1) := by decide +kernel
theorem dL_append_17 : decode cL_append 17 = .ok (.ireturn, 1) := by decide +kernel
theorem dL_append_18 : decode cL_append 18 = .ok (.iconst 0, 1) := by decide +kernel
theorem dL_append_19 : decode cL_append 19 = .ok (.ireturn, 1) := by decide +kernel
theorem dL_run_0 : decode cL_run 0 = .ok (.aload_n 1, 1) := by decide +kernel
theorem dL_run_1 : decode cL_run 1 = .ok (.iconst 0, 1) := by decide +kernel
theorem dL_run_2 : decode cL_run 2 = .ok (.aload_n 0, 1) := by decide +kernel
theorem dL_run_3 : decode cL_run 3 = .ok (.invokevirtual 123, 3) := by decide +kernel
theorem dL_run_6 : decode cL_run 6 = .ok (.i2l, 1) := by decide +kernel
theorem dL_run_7 : decode cL_run 7 = .ok (.lastore, 1) := by decide +kernel
theorem dL_run_8 : decode cL_run 8 = .ok (.goto 9, 3) := by decide +kernel
theorem dL_run_11 : decode cL_run 11 = .ok (.astore_n 2, 1) := by decide +kernel
theorem dL_run_12 : decode cL_run 12 = .ok (.iconst 1, 1) := by decide +kernel
theorem dL_run_13 : decode cL_run 13 = .ok (.ireturn, 1) := by decide +kernel
theorem dL_run_14 : decode cL_run 14 = .ok (.astore_n 2, 1) := by decide +kernel
theorem dL_run_15 : decode cL_run 15 = .ok (.iconst 2, 1) := by decide +kernel
theorem dL_run_16 : decode cL_run 16 = .ok (.ireturn, 1) := by decide +kernel
theorem dL_run_17 : decode cL_run 17 = .ok (.iconst 0, 1) := by decide +kernel
theorem dL_run_18 : decode cL_run 18 = .ok (.ireturn, 1) := by decide +kernel
theorem dL_write_0 : decode cL_write 0 = .ok (.aload_n 3, 1) := by decide +kernel
theorem dL_write_1 : decode cL_write 1 = .ok (.iconst 0, 1) := by decide +kernel
theorem dL_write_2 : decode cL_write 2 = .ok (.aload_n 0, 1) := by decide +kernel
theorem dL_write_3 : decode cL_write 3 = .ok (.iload_n 1, 1) := by decide +kernel
theorem dL_write_4 : decode cL_write 4 = .ok (.iload_n 2, 1) := by decide +kernel
theorem dL_write_5 : decode cL_write 5 = .ok (.invokevirtual 127, 3) := by decide +kernel
theorem dL_write_8 : decode cL_write 8 = .ok (.i2l, 1) := by decide +kernel
theorem dL_write_9 : decode cL_write 9 = .ok (.lastore, 1) := by decide +kernel
theorem dL_write_10 : decode cL_write 10 = .ok (.goto 7, 3) := by decide +kernel
theorem dL_write_13 : decode cL_write 13 = .ok (.astore 4, 2) := by decide +kernel
theorem dL_write_15 : decode cL_write 15 = .ok (.iconst 1, 1) := by decide +kernel
theorem dL_write_16 : decode cL_write 16 = .ok (.ireturn, 1) := by decide +kernel
theorem dL_write_17 : decode cL_write 17 = .ok (.iconst 0, 1) := by decide +kernel
theorem dL_write_18 : decode cL_write 18 = .ok (.ireturn, 1) := by decide +kernel
theorem dL_character_0 : decode cL_character 0 = .ok (.aload_n 2, 1) := by decide +kernel
theorem dL_character_1 : decode cL_character 1 = .ok (.iconst 0, 1) := by decide +kernel
theorem dL_character_2 : decode cL_character 2 = .ok (.aload_n 0, 1) := by decide +kernel
theorem dL_character_3 : decode cL_character 3 = .ok (.iload_n 1, 1) := by decide +kernel
theorem dL_character_4 : decode cL_character 4 = .ok (.invokevirtual 130, 3) := by decide +kernel
theorem dL_character_7 : decode cL_character 7 = .ok (.i2l, 1) := by decide +kernel
theorem dL_character_8 : decode cL_character 8 = .ok (.lastore, 1) := by decide +kernel
theorem dL_character_9 : decode cL_character 9 = .ok (.goto 6, 3) := by decide +kernel
theorem dL_character_12 : decode cL_character 12 = .ok (.astore_n 3, 1) := by decide +kernel
theorem dL_character_13 : decode cL_character 13 = .ok (.iconst 1, 1) := by decide +kernel
theorem dL_character_14 : decode cL_character 14 = .ok (.ireturn, 1) := by decide +kernel
theorem dL_character_15 : decode cL_character 15 = .ok (.iconst 0, 1) := by decide +kernel
theorem dL_character_16 : decode cL_character 16 = .ok (.ireturn, 1) := by decide +kernel
theorem dL_undo_0 : decode cL_undo 0 = .ok (.aload_n 1, 1) := by decide +kernel
theorem dL_undo_1 : decode cL_undo 1 = .ok (.iconst 0, 1) := by decide +kernel
theorem dL_undo_2 : decode cL_undo 2 = .ok (.aload_n 0, 1) := by decide +kernel
theorem dL_undo_3 : decode cL_undo 3 = .ok (.invokevirtual 134, 3) := by decide +kernel
theorem dL_undo_6 : decode cL_undo 6 = .ok (.i2l, 1) := by decide +kernel
theorem dL_undo_7 : decode cL_undo 7 = .ok (.lastore, 1) := by decide +kernel
theorem dL_undo_8 : decode cL_undo 8 = .ok (.goto 6, 3) := by decide +kernel
theorem dL_undo_11 : decode cL_undo 11 = .ok (.astore_n 2, 1) := by decide +kernel
theorem dL_undo_12 : decode cL_undo 12 = .ok (.iconst 1, 1) := by decide +kernel
theorem dL_undo_13 : decode cL_undo 13 = .ok (.ireturn, 1) := by decide +kernel
theorem dL_undo_14 : decode cL_undo 14 = .ok (.iconst 0, 1) := by decide +kernel
theorem dL_undo_15 : decode cL_undo 15 = .ok (.ireturn, 1) := by decide +kernel
theorem dL_restore_0 : decode cL_restore 0 = .ok (.aload_n 1, 1) := by decide +kernel
theorem dL_restore_1 : decode cL_restore 1 = .ok (.iconst 0, 1) := by decide +kernel
theorem dL_restore_2 : decode cL_restore 2 = .ok (.aload_n 0, 1) := by decide +kernel
theorem dL_restore_3 : decode cL_restore 3 = .ok (.invokevirtual 137, 3) := by decide +kernel
theorem dL_restore_6 : decode cL_restore 6 = .ok (.i2l, 1) := by decide +kernel
theorem dL_restore_7 : decode cL_restore 7 = .ok (.lastore, 1) := by decide +kernel
theorem dL_restore_8 : decode cL_restore 8 = .ok (.goto 6, 3) := by decide +kernel
theorem dL_restore_11 : decode cL_restore 11 = .ok (.astore_n 2, 1) := by decide +kernel
theorem dL_restore_12 : decode cL_restore 12 = .ok (.iconst 1, 1) := by decide +kernel
theorem dL_restore_13 : decode cL_restore 13 = .ok (.ireturn, 1) := by decide +kernel
theorem dL_restore_14 : decode cL_restore 14 = .ok (.iconst 0, 1) := by decide +kernel
theorem dL_restore_15 : decode cL_restore 15 = .ok (.ireturn, 1) := by decide +kernel
theorem dL_count_0 : decode cL_count 0 = .ok (.aload_n 2, 1) := by decide +kernel
theorem dL_count_1 : decode cL_count 1 = .ok (.iconst 0, 1) := by decide +kernel
theorem dL_count_2 : decode cL_count 2 = .ok (.aload_n 0, 1) := by decide +kernel
theorem dL_count_3 : decode cL_count 3 = .ok (.iload_n 1, 1) := by decide +kernel
theorem dL_count_4 : decode cL_count 4 = .ok (.invokevirtual 140, 3) := by decide +kernel
theorem dL_count_7 : decode cL_count 7 = .ok (.i2l, 1) := by decide +kernel
theorem dL_count_8 : decode cL_count 8 = .ok (.lastore, 1) := by decide +kernel
theorem dL_count_9 : decode cL_count 9 = .ok (.goto 6, 3) := by decide +kernel
theorem dL_count_12 : decode cL_count 12 = .ok (.astore_n 3, 1) := by decide +kernel
theorem dL_count_13 : decode cL_count 13 = .ok (.iconst 1, 1) := by decide +kernel
theorem dL_count_14 : decode cL_count 14 = .ok (.ireturn, 1) := by decide +kernel
theorem dL_count_15 : decode cL_count 15 = .ok (.iconst 0, 1) := by decide +kernel
theorem dL_count_16 : decode cL_count 16 = .ok (.ireturn, 1) := by decide +kernel
