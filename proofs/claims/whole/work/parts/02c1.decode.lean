theorem dX10_instantsAgain_18 : decode cX10_instantsAgain 18 = .ok (.iconst 0, 1) := by decide +kernel
theorem dX10_instantsAgain_19 : decode cX10_instantsAgain 19 = .ok (.istore 4, 2) := by decide +kernel
theorem dX10_instantsAgain_21 : decode cX10_instantsAgain 21 = .ok (.iconst 0, 1) := by decide +kernel
theorem dX10_instantsAgain_22 : decode cX10_instantsAgain 22 = .ok (.istore 5, 2) := by decide +kernel
theorem dX10_instantsAgain_24 : decode cX10_instantsAgain 24 = .ok (.iconst 0, 1) := by decide +kernel
theorem dX10_instantsAgain_25 : decode cX10_instantsAgain 25 = .ok (.istore 6, 2) := by decide +kernel
theorem dX10_instantsAgain_27 : decode cX10_instantsAgain 27 = .ok (.iload 6, 2) := by decide +kernel
theorem dX10_instantsAgain_29 : decode cX10_instantsAgain 29 = .ok (.aload_n 3, 1) := by decide +kernel
theorem dX10_instantsAgain_30 : decode cX10_instantsAgain 30 = .ok (.getfield 160, 3) := by decide +kernel
theorem dX10_instantsAgain_33 : decode cX10_instantsAgain 33 = .ok (.if_icmp .gt 65, 3) := by decide +kernel
theorem dX10_instantsAgain_36 : decode cX10_instantsAgain 36 = .ok (.aload_n 3, 1) := by decide +kernel
theorem dX10_instantsAgain_37 : decode cX10_instantsAgain 37 = .ok (.iload 6, 2) := by decide +kernel
theorem dX10_instantsAgain_39 : decode cX10_instantsAgain 39 = .ok (.invokevirtual 169, 3) := by decide +kernel
theorem dX10_instantsAgain_42 : decode cX10_instantsAgain 42 = .ok (.istore 7, 2) := by decide +kernel
theorem dX10_instantsAgain_44 : decode cX10_instantsAgain 44 = .ok (.iload 4, 2) := by decide +kernel
theorem dX10_instantsAgain_46 : decode cX10_instantsAgain 46 = .ok (.istore 8, 2) := by decide +kernel
theorem dX10_instantsAgain_48 : decode cX10_instantsAgain 48 = .ok (.aload_n 0, 1) := by decide +kernel
theorem dX10_instantsAgain_49 : decode cX10_instantsAgain 49 = .ok (.getfield 62, 3) := by decide +kernel
theorem dX10_instantsAgain_52 : decode cX10_instantsAgain 52 = .ok (.iload 4, 2) := by decide +kernel
theorem dX10_instantsAgain_54 : decode cX10_instantsAgain 54 = .ok (.iload 7, 2) := by decide +kernel
theorem dX10_instantsAgain_56 : decode cX10_instantsAgain 56 = .ok (.i2l, 1) := by decide +kernel
theorem dX10_instantsAgain_57 : decode cX10_instantsAgain 57 = .ok (.invokestatic 243, 3) := by decide +kernel
theorem dX10_instantsAgain_60 : decode cX10_instantsAgain 60 = .ok (.istore 4, 2) := by decide +kernel
theorem dX10_instantsAgain_62 : decode cX10_instantsAgain 62 = .ok (.iload 5, 2) := by decide +kernel
theorem dX10_instantsAgain_64 : decode cX10_instantsAgain 64 = .ok (.iload 4, 2) := by decide +kernel
theorem dX10_instantsAgain_66 : decode cX10_instantsAgain 66 = .ok (.iload 8, 2) := by decide +kernel
theorem dX10_instantsAgain_68 : decode cX10_instantsAgain 68 = .ok (.if_icmp .le 20, 3) := by decide +kernel
theorem dX10_instantsAgain_71 : decode cX10_instantsAgain 71 = .ok (.aload_n 3, 1) := by decide +kernel
theorem dX10_instantsAgain_72 : decode cX10_instantsAgain 72 = .ok (.iload_n 2, 1) := by decide +kernel
theorem dX10_instantsAgain_73 : decode cX10_instantsAgain 73 = .ok (.iload 7, 2) := by decide +kernel
theorem dX10_instantsAgain_75 : decode cX10_instantsAgain 75 = .ok (.isub, 1) := by decide +kernel
theorem dX10_instantsAgain_76 : decode cX10_instantsAgain 76 = .ok (.invokevirtual 209, 3) := by decide +kernel
theorem dX10_instantsAgain_79 : decode cX10_instantsAgain 79 = .ok (.iload 7, 2) := by decide +kernel
theorem dX10_instantsAgain_81 : decode cX10_instantsAgain 81 = .ok (.if_icmp .ne 7, 3) := by decide +kernel
theorem dX10_instantsAgain_84 : decode cX10_instantsAgain 84 = .ok (.iconst 1, 1) := by decide +kernel
theorem dX10_instantsAgain_85 : decode cX10_instantsAgain 85 = .ok (.goto 4, 3) := by decide +kernel
theorem dX10_instantsAgain_88 : decode cX10_instantsAgain 88 = .ok (.iconst 0, 1) := by decide +kernel
theorem dX10_instantsAgain_89 : decode cX10_instantsAgain 89 = .ok (.iadd, 1) := by decide +kernel
theorem dX10_instantsAgain_90 : decode cX10_instantsAgain 90 = .ok (.istore 5, 2) := by decide +kernel
theorem dX10_instantsAgain_92 : decode cX10_instantsAgain 92 = .ok (.iinc 6 1, 3) := by decide +kernel
theorem dX10_instantsAgain_95 : decode cX10_instantsAgain 95 = .ok (.goto (-68), 3) := by decide +kernel
theorem dX10_instantsAgain_98 : decode cX10_instantsAgain 98 = .ok (.iload 5, 2) := by decide +kernel
theorem dX10_instantsAgain_100 : decode cX10_instantsAgain 100 = .ok (.ireturn, 1) := by decide +kernel
theorem dX10_cause_0 : decode cX10_cause 0 = .ok (.aload_n 0, 1) := by decide +kernel
theorem dX10_cause_1 : decode cX10_cause 1 = .ok (.iload_n 1, 1) := by decide +kernel
theorem dX10_cause_2 : decode cX10_cause 2 = .ok (.invokevirtual 137, 3) := by decide +kernel
theorem dX10_cause_5 : decode cX10_cause 5 = .ok (.iload_n 2, 1) := by decide +kernel
theorem dX10_cause_6 : decode cX10_cause 6 = .ok (.invokestatic 234, 3) := by decide +kernel
theorem dX10_cause_9 : decode cX10_cause 9 = .ok (.invokestatic 72, 3) := by decide +kernel
theorem dX10_cause_12 : decode cX10_cause 12 = .ok (.aload_n 0, 1) := by decide +kernel
theorem dX10_cause_13 : decode cX10_cause 13 = .ok (.iload_n 1, 1) := by decide +kernel
theorem dX10_cause_14 : decode cX10_cause 14 = .ok (.invokevirtual 144, 3) := by decide +kernel
theorem dX10_cause_17 : decode cX10_cause 17 = .ok (.iload_n 2, 1) := by decide +kernel
theorem dX10_cause_18 : decode cX10_cause 18 = .ok (.invokevirtual 247, 3) := by decide +kernel
theorem dX10_cause_21 : decode cX10_cause 21 = .ok (.ireturn, 1) := by decide +kernel
theorem dX10_toInstant_0 : decode cX10_toInstant 0 = .ok (.aload_n 0, 1) := by decide +kernel
theorem dX10_toInstant_1 : decode cX10_toInstant 1 = .ok (.iload_n 1, 1) := by decide +kernel
theorem dX10_toInstant_2 : decode cX10_toInstant 2 = .ok (.invokevirtual 137, 3) := by decide +kernel
theorem dX10_toInstant_5 : decode cX10_toInstant 5 = .ok (.iload_n 2, 1) := by decide +kernel
theorem dX10_toInstant_6 : decode cX10_toInstant 6 = .ok (.invokestatic 234, 3) := by decide +kernel
theorem dX10_toInstant_9 : decode cX10_toInstant 9 = .ok (.ifCond .eq 14, 3) := by decide +kernel
theorem dX10_toInstant_12 : decode cX10_toInstant 12 = .ok (.iload_n 3, 1) := by decide +kernel
theorem dX10_toInstant_13 : decode cX10_toInstant 13 = .ok (.invokestatic 250, 3) := by decide +kernel
theorem dX10_toInstant_16 : decode cX10_toInstant 16 = .ok (.ifCond .eq 7, 3) := by decide +kernel
theorem dX10_toInstant_19 : decode cX10_toInstant 19 = .ok (.iconst 1, 1) := by decide +kernel
theorem dX10_toInstant_20 : decode cX10_toInstant 20 = .ok (.goto 4, 3) := by decide +kernel
theorem dX10_toInstant_23 : decode cX10_toInstant 23 = .ok (.iconst 0, 1) := by decide +kernel
theorem dX10_toInstant_24 : decode cX10_toInstant 24 = .ok (.invokestatic 72, 3) := by decide +kernel
theorem dX10_toInstant_27 : decode cX10_toInstant 27 = .ok (.aload_n 0, 1) := by decide +kernel
theorem dX10_toInstant_28 : decode cX10_toInstant 28 = .ok (.iload_n 1, 1) := by decide +kernel
theorem dX10_toInstant_29 : decode cX10_toInstant 29 = .ok (.invokevirtual 144, 3) := by decide +kernel
theorem dX10_toInstant_32 : decode cX10_toInstant 32 = .ok (.iload_n 2, 1) := by decide +kernel
theorem dX10_toInstant_33 : decode cX10_toInstant 33 = .ok (.iload_n 3, 1) := by decide +kernel
theorem dX10_toInstant_34 : decode cX10_toInstant 34 = .ok (.invokevirtual 253, 3) := by decide +kernel
theorem dX10_toInstant_37 : decode cX10_toInstant 37 = .ok (.invokestatic 256, 3) := by decide +kernel
theorem dX10_toInstant_40 : decode cX10_toInstant 40 = .ok (.ireturn, 1) := by decide +kernel
theorem dX10_convert_0 : decode cX10_convert 0 = .ok (.aload_n 0, 1) := by decide +kernel
theorem dX10_convert_1 : decode cX10_convert 1 = .ok (.iload_n 1, 1) := by decide +kernel
theorem dX10_convert_2 : decode cX10_convert 2 = .ok (.invokevirtual 137, 3) := by decide +kernel
theorem dX10_convert_5 : decode cX10_convert 5 = .ok (.aload_n 0, 1) := by decide +kernel
theorem dX10_convert_6 : decode cX10_convert 6 = .ok (.iload_n 3, 1) := by decide +kernel
theorem dX10_convert_7 : decode cX10_convert 7 = .ok (.invokevirtual 137, 3) := by decide +kernel
theorem dX10_convert_10 : decode cX10_convert 10 = .ok (.iload_n 2, 1) := by decide +kernel
theorem dX10_convert_11 : decode cX10_convert 11 = .ok (.invokestatic 234, 3) := by decide +kernel
theorem dX10_convert_14 : decode cX10_convert 14 = .ok (.ifCond .eq 15, 3) := by decide +kernel
theorem dX10_convert_17 : decode cX10_convert 17 = .ok (.iload 4, 2) := by decide +kernel
theorem dX10_convert_19 : decode cX10_convert 19 = .ok (.invokestatic 250, 3) := by decide +kernel
theorem dX10_convert_22 : decode cX10_convert 22 = .ok (.ifCond .eq 7, 3) := by decide +kernel
theorem dX10_convert_25 : decode cX10_convert 25 = .ok (.iconst 1, 1) := by decide +kernel
theorem dX10_convert_26 : decode cX10_convert 26 = .ok (.goto 4, 3) := by decide +kernel
theorem dX10_convert_29 : decode cX10_convert 29 = .ok (.iconst 0, 1) := by decide +kernel
theorem dX10_convert_30 : decode cX10_convert 30 = .ok (.invokestatic 72, 3) := by decide +kernel
theorem dX10_convert_33 : decode cX10_convert 33 = .ok (.aload_n 0, 1) := by decide +kernel
theorem dX10_convert_34 : decode cX10_convert 34 = .ok (.iload_n 1, 1) := by decide +kernel
theorem dX10_convert_35 : decode cX10_convert 35 = .ok (.invokevirtual 144, 3) := by decide +kernel
theorem dX10_convert_38 : decode cX10_convert 38 = .ok (.iload_n 2, 1) := by decide +kernel
theorem dX10_convert_39 : decode cX10_convert 39 = .ok (.iload 4, 2) := by decide +kernel
theorem dX10_convert_41 : decode cX10_convert 41 = .ok (.invokevirtual 253, 3) := by decide +kernel
theorem dX10_convert_44 : decode cX10_convert 44 = .ok (.invokestatic 256, 3) := by decide +kernel
theorem dX10_convert_47 : decode cX10_convert 47 = .ok (.istore 5, 2) := by decide +kernel
theorem dX10_convert_49 : decode cX10_convert 49 = .ok (.iload 5, 2) := by decide +kernel
theorem dX10_convert_51 : decode cX10_convert 51 = .ok (.aload_n 0, 1) := by decide +kernel
theorem dX10_convert_52 : decode cX10_convert 52 = .ok (.iload_n 3, 1) := by decide +kernel
theorem dX10_convert_53 : decode cX10_convert 53 = .ok (.invokevirtual 144, 3) := by decide +kernel
theorem dX10_convert_56 : decode cX10_convert 56 = .ok (.iload 5, 2) := by decide +kernel
theorem dX10_convert_58 : decode cX10_convert 58 = .ok (.invokevirtual 209, 3) := by decide +kernel
theorem dX10_convert_61 : decode cX10_convert 61 = .ok (.iadd, 1) := by decide +kernel
theorem dX10_convert_62 : decode cX10_convert 62 = .ok (.ireturn, 1) := by decide +kernel
theorem dX10_dayLength_0 : decode cX10_dayLength 0 = .ok (.aload_n 0, 1) := by decide +kernel
theorem dX10_dayLength_1 : decode cX10_dayLength 1 = .ok (.iload_n 1, 1) := by decide +kernel
theorem dX10_dayLength_2 : decode cX10_dayLength 2 = .ok (.invokevirtual 137, 3) := by decide +kernel
theorem dX10_dayLength_5 : decode cX10_dayLength 5 = .ok (.iload_n 2, 1) := by decide +kernel
theorem dX10_dayLength_6 : decode cX10_dayLength 6 = .ok (.invokestatic 85, 3) := by decide +kernel
theorem dX10_dayLength_9 : decode cX10_dayLength 9 = .ok (.invokestatic 88, 3) := by decide +kernel
theorem dX10_dayLength_12 : decode cX10_dayLength 12 = .ok (.aload_n 0, 1) := by decide +kernel
theorem dX10_dayLength_13 : decode cX10_dayLength 13 = .ok (.iload_n 1, 1) := by decide +kernel
theorem dX10_dayLength_14 : decode cX10_dayLength 14 = .ok (.invokevirtual 144, 3) := by decide +kernel
theorem dX10_dayLength_17 : decode cX10_dayLength 17 = .ok (.astore_n 3, 1) := by decide +kernel
theorem dX10_dayLength_18 : decode cX10_dayLength 18 = .ok (.aload_n 3, 1) := by decide +kernel
theorem dX10_dayLength_19 : decode cX10_dayLength 19 = .ok (.iload_n 2, 1) := by decide +kernel
theorem dX10_dayLength_20 : decode cX10_dayLength 20 = .ok (.iconst 1, 1) := by decide +kernel
theorem dX10_dayLength_21 : decode cX10_dayLength 21 = .ok (.iadd, 1) := by decide +kernel
theorem dX10_dayLength_22 : decode cX10_dayLength 22 = .ok (.invokevirtual 259, 3) := by decide +kernel
theorem dX10_dayLength_25 : decode cX10_dayLength 25 = .ok (.aload_n 3, 1) := by decide +kernel
theorem dX10_dayLength_26 : decode cX10_dayLength 26 = .ok (.iload_n 2, 1) := by decide +kernel
theorem dX10_dayLength_27 : decode cX10_dayLength 27 = .ok (.invokevirtual 259, 3) := by decide +kernel
theorem dX10_dayLength_30 : decode cX10_dayLength 30 = .ok (.isub, 1) := by decide +kernel
theorem dX10_dayLength_31 : decode cX10_dayLength 31 = .ok (.ireturn, 1) := by decide +kernel
theorem dX10_account_0 : decode cX10_account 0 = .ok (.aload_n 0, 1) := by decide +kernel
theorem dX10_account_1 : decode cX10_account 1 = .ok (.iload_n 1, 1) := by decide +kernel
theorem dX10_account_2 : decode cX10_account 2 = .ok (.invokevirtual 137, 3) := by decide +kernel
theorem dX10_account_5 : decode cX10_account 5 = .ok (.iload_n 2, 1) := by decide +kernel
theorem dX10_account_6 : decode cX10_account 6 = .ok (.invokestatic 65, 3) := by decide +kernel
theorem dX10_account_9 : decode cX10_account 9 = .ok (.ifCond .eq 16, 3) := by decide +kernel
theorem dX10_account_12 : decode cX10_account 12 = .ok (.iload_n 3, 1) := by decide +kernel
theorem dX10_account_13 : decode cX10_account 13 = .ok (.ifCond .lt 12, 3) := by decide +kernel
theorem dX10_account_16 : decode cX10_account 16 = .ok (.iload_n 3, 1) := by decide +kernel
theorem dX10_account_17 : decode cX10_account 17 = .ok (.iconst 3, 1) := by decide +kernel
theorem dX10_account_18 : decode cX10_account 18 = .ok (.if_icmp .gt 7, 3) := by decide +kernel
theorem dX10_account_21 : decode cX10_account 21 = .ok (.iconst 1, 1) := by decide +kernel
theorem dX10_account_22 : decode cX10_account 22 = .ok (.goto 4, 3) := by decide +kernel
theorem dX10_account_25 : decode cX10_account 25 = .ok (.iconst 0, 1) := by decide +kernel
theorem dX10_account_26 : decode cX10_account 26 = .ok (.invokestatic 72, 3) := by decide +kernel
theorem dX10_account_29 : decode cX10_account 29 = .ok (.aload_n 0, 1) := by decide +kernel
theorem dX10_account_30 : decode cX10_account 30 = .ok (.iload_n 1, 1) := by decide +kernel
theorem dX10_account_31 : decode cX10_account 31 = .ok (.invokevirtual 144, 3) := by decide +kernel
theorem dX10_account_34 : decode cX10_account 34 = .ok (.astore 4, 2) := by decide +kernel
theorem dX10_account_36 : decode cX10_account 36 = .ok (.iload_n 2, 1) := by decide +kernel
theorem dX10_account_37 : decode cX10_account 37 = .ok (.invokestatic 101, 3) := by decide +kernel
theorem dX10_account_40 : decode cX10_account 40 = .ok (.istore 5, 2) := by decide +kernel
theorem dX10_account_42 : decode cX10_account 42 = .ok (.iload_n 2, 1) := by decide +kernel
theorem dX10_account_43 : decode cX10_account 43 = .ok (.iconst 1, 1) := by decide +kernel
theorem dX10_account_44 : decode cX10_account 44 = .ok (.iadd, 1) := by decide +kernel
theorem dX10_account_45 : decode cX10_account 45 = .ok (.invokestatic 101, 3) := by decide +kernel
theorem dX10_account_48 : decode cX10_account 48 = .ok (.istore 6, 2) := by decide +kernel
theorem dX10_account_50 : decode cX10_account 50 = .ok (.iload_n 3, 1) := by decide +kernel
theorem dX10_account_51 : decode cX10_account 51 = .ok (.tableswitch 79 0 2 #[25, 41, 60], 25) := by decide +kernel
theorem dX10_account_76 : decode cX10_account 76 = .ok (.aload 4, 2) := by decide +kernel
theorem dX10_account_78 : decode cX10_account 78 = .ok (.iload 6, 2) := by decide +kernel
theorem dX10_account_80 : decode cX10_account 80 = .ok (.invokevirtual 259, 3) := by decide +kernel
theorem dX10_account_83 : decode cX10_account 83 = .ok (.aload 4, 2) := by decide +kernel
theorem dX10_account_85 : decode cX10_account 85 = .ok (.iload 5, 2) := by decide +kernel
theorem dX10_account_87 : decode cX10_account 87 = .ok (.invokevirtual 259, 3) := by decide +kernel
theorem dX10_account_90 : decode cX10_account 90 = .ok (.isub, 1) := by decide +kernel
theorem dX10_account_91 : decode cX10_account 91 = .ok (.ireturn, 1) := by decide +kernel
theorem dX10_account_92 : decode cX10_account 92 = .ok (.aload 4, 2) := by decide +kernel
theorem dX10_account_94 : decode cX10_account 94 = .ok (.sipush 1440, 3) := by decide +kernel
theorem dX10_account_97 : decode cX10_account 97 = .ok (.iload 5, 2) := by decide +kernel
theorem dX10_account_99 : decode cX10_account 99 = .ok (.imul, 1) := by decide +kernel
theorem dX10_account_100 : decode cX10_account 100 = .ok (.sipush 1440, 3) := by decide +kernel
theorem dX10_account_103 : decode cX10_account 103 = .ok (.iload 6, 2) := by decide +kernel
theorem dX10_account_105 : decode cX10_account 105 = .ok (.imul, 1) := by decide +kernel
theorem dX10_account_106 : decode cX10_account 106 = .ok (.iconst 1, 1) := by decide +kernel
theorem dX10_account_107 : decode cX10_account 107 = .ok (.invokevirtual 262, 3) := by decide +kernel
theorem dX10_account_110 : decode cX10_account 110 = .ok (.ireturn, 1) := by decide +kernel
theorem dX10_account_111 : decode cX10_account 111 = .ok (.aload 4, 2) := by decide +kernel
theorem dX10_account_113 : decode cX10_account 113 = .ok (.sipush 1440, 3) := by decide +kernel
theorem dX10_account_116 : decode cX10_account 116 = .ok (.iload 5, 2) := by decide +kernel
theorem dX10_account_118 : decode cX10_account 118 = .ok (.imul, 1) := by decide +kernel
theorem dX10_account_119 : decode cX10_account 119 = .ok (.sipush 1440, 3) := by decide +kernel
theorem dX10_account_122 : decode cX10_account 122 = .ok (.iload 6, 2) := by decide +kernel
theorem dX10_account_124 : decode cX10_account 124 = .ok (.imul, 1) := by decide +kernel
theorem dX10_account_125 : decode cX10_account 125 = .ok (.iconst 0, 1) := by decide +kernel
theorem dX10_account_126 : decode cX10_account 126 = .ok (.invokevirtual 262, 3) := by decide +kernel
theorem dX10_account_129 : decode cX10_account 129 = .ok (.ireturn, 1) := by decide +kernel
theorem dX10_account_130 : decode cX10_account 130 = .ok (.sipush 1440, 3) := by decide +kernel
theorem dX10_account_133 : decode cX10_account 133 = .ok (.iload 6, 2) := by decide +kernel
theorem dX10_account_135 : decode cX10_account 135 = .ok (.iload 5, 2) := by decide +kernel
theorem dX10_account_137 : decode cX10_account 137 = .ok (.isub, 1) := by decide +kernel
theorem dX10_account_138 : decode cX10_account 138 = .ok (.imul, 1) := by decide +kernel
theorem dX10_account_139 : decode cX10_account 139 = .ok (.ireturn, 1) := by decide +kernel
theorem dX10_addMeeting_0 : decode cX10_addMeeting 0 = .ok (.aload_n 0, 1) := by decide +kernel
theorem dX10_addMeeting_1 : decode cX10_addMeeting 1 = .ok (.iload_n 1, 1) := by decide +kernel
theorem dX10_addMeeting_2 : decode cX10_addMeeting 2 = .ok (.invokevirtual 137, 3) := by decide +kernel
theorem dX10_addMeeting_5 : decode cX10_addMeeting 5 = .ok (.iload_n 2, 1) := by decide +kernel
theorem dX10_addMeeting_6 : decode cX10_addMeeting 6 = .ok (.invokestatic 85, 3) := by decide +kernel
theorem dX10_addMeeting_9 : decode cX10_addMeeting 9 = .ok (.ifCond .eq 32, 3) := by decide +kernel
theorem dX10_addMeeting_12 : decode cX10_addMeeting 12 = .ok (.iload_n 3, 1) := by decide +kernel
theorem dX10_addMeeting_13 : decode cX10_addMeeting 13 = .ok (.ifCond .lt 28, 3) := by decide +kernel
theorem dX10_addMeeting_16 : decode cX10_addMeeting 16 = .ok (.iload_n 3, 1) := by decide +kernel
theorem dX10_addMeeting_17 : decode cX10_addMeeting 17 = .ok (.sipush 1440, 3) := by decide +kernel
theorem dX10_addMeeting_20 : decode cX10_addMeeting 20 = .ok (.if_icmp .ge 21, 3) := by decide +kernel
theorem dX10_addMeeting_23 : decode cX10_addMeeting 23 = .ok (.iload 4, 2) := by decide +kernel
theorem dX10_addMeeting_25 : decode cX10_addMeeting 25 = .ok (.iconst 1, 1) := by decide +kernel
theorem dX10_addMeeting_26 : decode cX10_addMeeting 26 = .ok (.if_icmp .lt 15, 3) := by decide +kernel
theorem dX10_addMeeting_29 : decode cX10_addMeeting 29 = .ok (.iload 4, 2) := by decide +kernel
theorem dX10_addMeeting_31 : decode cX10_addMeeting 31 = .ok (.sipush 1440, 3) := by decide +kernel
theorem dX10_addMeeting_34 : decode cX10_addMeeting 34 = .ok (.if_icmp .gt 7, 3) := by decide +kernel
theorem dX10_addMeeting_37 : decode cX10_addMeeting 37 = .ok (.iconst 1, 1) := by decide +kernel
theorem dX10_addMeeting_38 : decode cX10_addMeeting 38 = .ok (.goto 4, 3) := by decide +kernel
theorem dX10_addMeeting_41 : decode cX10_addMeeting 41 = .ok (.iconst 0, 1) := by decide +kernel
theorem dX10_addMeeting_42 : decode cX10_addMeeting 42 = .ok (.invokestatic 72, 3) := by decide +kernel
theorem dX10_addMeeting_45 : decode cX10_addMeeting 45 = .ok (.iload 5, 2) := by decide +kernel
theorem dX10_addMeeting_47 : decode cX10_addMeeting 47 = .ok (.invokestatic 250, 3) := by decide +kernel
theorem dX10_addMeeting_50 : decode cX10_addMeeting 50 = .ok (.ifCond .eq 20, 3) := by decide +kernel
theorem dX10_addMeeting_53 : decode cX10_addMeeting 53 = .ok (.iload 6, 2) := by decide +kernel
theorem dX10_addMeeting_55 : decode cX10_addMeeting 55 = .ok (.iconst 1, 1) := by decide +kernel
theorem dX10_addMeeting_56 : decode cX10_addMeeting 56 = .ok (.if_icmp .lt 14, 3) := by decide +kernel
theorem dX10_addMeeting_59 : decode cX10_addMeeting 59 = .ok (.iload 6, 2) := by decide +kernel
theorem dX10_addMeeting_61 : decode cX10_addMeeting 61 = .ok (.bipush 40, 2) := by decide +kernel
theorem dX10_addMeeting_63 : decode cX10_addMeeting 63 = .ok (.if_icmp .gt 7, 3) := by decide +kernel
theorem dX10_addMeeting_66 : decode cX10_addMeeting 66 = .ok (.iconst 1, 1) := by decide +kernel
theorem dX10_addMeeting_67 : decode cX10_addMeeting 67 = .ok (.goto 4, 3) := by decide +kernel
theorem dX10_addMeeting_70 : decode cX10_addMeeting 70 = .ok (.iconst 0, 1) := by decide +kernel
theorem dX10_addMeeting_71 : decode cX10_addMeeting 71 = .ok (.invokestatic 72, 3) := by decide +kernel
theorem dX10_addMeeting_74 : decode cX10_addMeeting 74 = .ok (.aload_n 0, 1) := by decide +kernel
theorem dX10_addMeeting_75 : decode cX10_addMeeting 75 = .ok (.getfield 12, 3) := by decide +kernel
theorem dX10_addMeeting_78 : decode cX10_addMeeting 78 = .ok (.getfield 266, 3) := by decide +kernel
theorem dX10_addMeeting_81 : decode cX10_addMeeting 81 = .ok (.bipush 10, 2) := by decide +kernel
theorem dX10_addMeeting_83 : decode cX10_addMeeting 83 = .ok (.if_icmp .ge 7, 3) := by decide +kernel
theorem dX10_addMeeting_86 : decode cX10_addMeeting 86 = .ok (.iconst 0, 1) := by decide +kernel
theorem dX10_addMeeting_87 : decode cX10_addMeeting 87 = .ok (.goto 4, 3) := by decide +kernel
theorem dX10_addMeeting_90 : decode cX10_addMeeting 90 = .ok (.iconst 3, 1) := by decide +kernel
theorem dX10_addMeeting_91 : decode cX10_addMeeting 91 = .ok (.invokestatic 107, 3) := by decide +kernel
theorem dX10_addMeeting_94 : decode cX10_addMeeting 94 = .ok (.aload_n 0, 1) := by decide +kernel
theorem dX10_addMeeting_95 : decode cX10_addMeeting 95 = .ok (.invokevirtual 111, 3) := by decide +kernel
theorem dX10_addMeeting_98 : decode cX10_addMeeting 98 = .ok (.aload_n 0, 1) := by decide +kernel
theorem dX10_addMeeting_99 : decode cX10_addMeeting 99 = .ok (.getfield 12, 3) := by decide +kernel
theorem dX10_addMeeting_102 : decode cX10_addMeeting 102 = .ok (.getfield 266, 3) := by decide +kernel
theorem dX10_addMeeting_105 : decode cX10_addMeeting 105 = .ok (.istore 7, 2) := by decide +kernel
theorem dX10_addMeeting_107 : decode cX10_addMeeting 107 = .ok (.aload_n 0, 1) := by decide +kernel
theorem dX10_addMeeting_108 : decode cX10_addMeeting 108 = .ok (.getfield 12, 3) := by decide +kernel
theorem dX10_addMeeting_111 : decode cX10_addMeeting 111 = .ok (.getfield 269, 3) := by decide +kernel
theorem dX10_addMeeting_114 : decode cX10_addMeeting 114 = .ok (.iload 7, 2) := by decide +kernel
theorem dX10_addMeeting_116 : decode cX10_addMeeting 116 = .ok (.aaload, 1) := by decide +kernel
theorem dX10_addMeeting_117 : decode cX10_addMeeting 117 = .ok (.iload_n 1, 1) := by decide +kernel
theorem dX10_addMeeting_118 : decode cX10_addMeeting 118 = .ok (.iload_n 2, 1) := by decide +kernel
theorem dX10_addMeeting_119 : decode cX10_addMeeting 119 = .ok (.iload_n 3, 1) := by decide +kernel
theorem dX10_addMeeting_120 : decode cX10_addMeeting 120 = .ok (.iload 4, 2) := by decide +kernel
theorem dX10_addMeeting_122 : decode cX10_addMeeting 122 = .ok (.iload 5, 2) := by decide +kernel
theorem dX10_addMeeting_124 : decode cX10_addMeeting 124 = .ok (.iload 6, 2) := by decide +kernel
theorem dX10_addMeeting_126 : decode cX10_addMeeting 126 = .ok (.invokevirtual 273, 3) := by decide +kernel
theorem dX10_addMeeting_129 : decode cX10_addMeeting 129 = .ok (.aload_n 0, 1) := by decide +kernel
theorem dX10_addMeeting_130 : decode cX10_addMeeting 130 = .ok (.getfield 12, 3) := by decide +kernel
theorem dX10_addMeeting_133 : decode cX10_addMeeting 133 = .ok (.iload 7, 2) := by decide +kernel
theorem dX10_addMeeting_135 : decode cX10_addMeeting 135 = .ok (.iconst 1, 1) := by decide +kernel
theorem dX10_addMeeting_136 : decode cX10_addMeeting 136 = .ok (.iadd, 1) := by decide +kernel
theorem dX10_addMeeting_137 : decode cX10_addMeeting 137 = .ok (.putfield 266, 3) := by decide +kernel
theorem dX10_addMeeting_140 : decode cX10_addMeeting 140 = .ok (.aload_n 0, 1) := by decide +kernel
theorem dX10_addMeeting_141 : decode cX10_addMeeting 141 = .ok (.getfield 32, 3) := by decide +kernel
theorem dX10_addMeeting_144 : decode cX10_addMeeting 144 = .ok (.iload 7, 2) := by decide +kernel
theorem dX10_addMeeting_146 : decode cX10_addMeeting 146 = .ok (.aaload, 1) := by decide +kernel
theorem dX10_addMeeting_147 : decode cX10_addMeeting 147 = .ok (.invokevirtual 278, 3) := by decide +kernel
theorem dX10_addMeeting_150 : decode cX10_addMeeting 150 = .ok (.iload 7, 2) := by decide +kernel
theorem dX10_addMeeting_152 : decode cX10_addMeeting 152 = .ok (.ireturn, 1) := by decide +kernel
theorem dX10_recur_0 : decode cX10_recur 0 = .ok (.aload_n 0, 1) := by decide +kernel
theorem dX10_recur_1 : decode cX10_recur 1 = .ok (.iload_n 1, 1) := by decide +kernel
theorem dX10_recur_2 : decode cX10_recur 2 = .ok (.invokevirtual 281, 3) := by decide +kernel
theorem dX10_recur_5 : decode cX10_recur 5 = .ok (.iload_n 2, 1) := by decide +kernel
theorem dX10_recur_6 : decode cX10_recur 6 = .ok (.ifCond .lt 25, 3) := by decide +kernel
theorem dX10_recur_9 : decode cX10_recur 9 = .ok (.iload_n 2, 1) := by decide +kernel
theorem dX10_recur_10 : decode cX10_recur 10 = .ok (.iconst 3, 1) := by decide +kernel
theorem dX10_recur_11 : decode cX10_recur 11 = .ok (.if_icmp .gt 20, 3) := by decide +kernel
theorem dX10_recur_14 : decode cX10_recur 14 = .ok (.iload_n 3, 1) := by decide +kernel
theorem dX10_recur_15 : decode cX10_recur 15 = .ok (.iconst 1, 1) := by decide +kernel
theorem dX10_recur_16 : decode cX10_recur 16 = .ok (.if_icmp .lt 15, 3) := by decide +kernel
theorem dX10_recur_19 : decode cX10_recur 19 = .ok (.iload_n 3, 1) := by decide +kernel
theorem dX10_recur_20 : decode cX10_recur 20 = .ok (.iload_n 2, 1) := by decide +kernel
theorem dX10_recur_21 : decode cX10_recur 21 = .ok (.invokestatic 284, 3) := by decide +kernel
theorem dX10_recur_24 : decode cX10_recur 24 = .ok (.if_icmp .gt 7, 3) := by decide +kernel
theorem dX10_recur_27 : decode cX10_recur 27 = .ok (.iconst 1, 1) := by decide +kernel
theorem dX10_recur_28 : decode cX10_recur 28 = .ok (.goto 4, 3) := by decide +kernel
theorem dX10_recur_31 : decode cX10_recur 31 = .ok (.iconst 0, 1) := by decide +kernel
theorem dX10_recur_32 : decode cX10_recur 32 = .ok (.invokestatic 72, 3) := by decide +kernel
theorem dX10_recur_35 : decode cX10_recur 35 = .ok (.iload_n 2, 1) := by decide +kernel
theorem dX10_recur_36 : decode cX10_recur 36 = .ok (.iconst 1, 1) := by decide +kernel
theorem dX10_recur_37 : decode cX10_recur 37 = .ok (.if_icmp .ne 24, 3) := by decide +kernel
theorem dX10_recur_40 : decode cX10_recur 40 = .ok (.iload 4, 2) := by decide +kernel
theorem dX10_recur_42 : decode cX10_recur 42 = .ok (.iconst 1, 1) := by decide +kernel
theorem dX10_recur_43 : decode cX10_recur 43 = .ok (.if_icmp .lt 14, 3) := by decide +kernel
theorem dX10_recur_46 : decode cX10_recur 46 = .ok (.iload 4, 2) := by decide +kernel
theorem dX10_recur_48 : decode cX10_recur 48 = .ok (.bipush 127, 2) := by decide +kernel
theorem dX10_recur_50 : decode cX10_recur 50 = .ok (.if_icmp .gt 7, 3) := by decide +kernel
theorem dX10_recur_53 : decode cX10_recur 53 = .ok (.iconst 1, 1) := by decide +kernel
theorem dX10_recur_54 : decode cX10_recur 54 = .ok (.goto 17, 3) := by decide +kernel
theorem dX10_recur_57 : decode cX10_recur 57 = .ok (.iconst 0, 1) := by decide +kernel
theorem dX10_recur_58 : decode cX10_recur 58 = .ok (.goto 13, 3) := by decide +kernel
theorem dX10_recur_61 : decode cX10_recur 61 = .ok (.iload 4, 2) := by decide +kernel
theorem dX10_recur_63 : decode cX10_recur 63 = .ok (.ifCond .ne 7, 3) := by decide +kernel
theorem dX10_recur_66 : decode cX10_recur 66 = .ok (.iconst 1, 1) := by decide +kernel
theorem dX10_recur_67 : decode cX10_recur 67 = .ok (.goto 4, 3) := by decide +kernel
theorem dX10_recur_70 : decode cX10_recur 70 = .ok (.iconst 0, 1) := by decide +kernel
theorem dX10_recur_71 : decode cX10_recur 71 = .ok (.invokestatic 72, 3) := by decide +kernel
theorem dX10_recur_74 : decode cX10_recur 74 = .ok (.aload_n 0, 1) := by decide +kernel
theorem dX10_recur_75 : decode cX10_recur 75 = .ok (.invokevirtual 111, 3) := by decide +kernel
theorem dX10_recur_78 : decode cX10_recur 78 = .ok (.aload_n 0, 1) := by decide +kernel
theorem dX10_recur_79 : decode cX10_recur 79 = .ok (.getfield 12, 3) := by decide +kernel
theorem dX10_recur_82 : decode cX10_recur 82 = .ok (.getfield 269, 3) := by decide +kernel
theorem dX10_recur_85 : decode cX10_recur 85 = .ok (.iload_n 1, 1) := by decide +kernel
theorem dX10_recur_86 : decode cX10_recur 86 = .ok (.aaload, 1) := by decide +kernel
theorem dX10_recur_87 : decode cX10_recur 87 = .ok (.iload_n 2, 1) := by decide +kernel
theorem dX10_recur_88 : decode cX10_recur 88 = .ok (.iload_n 3, 1) := by decide +kernel
theorem dX10_recur_89 : decode cX10_recur 89 = .ok (.iload 4, 2) := by decide +kernel
theorem dX10_recur_91 : decode cX10_recur 91 = .ok (.invokevirtual 287, 3) := by decide +kernel
theorem dX10_recur_94 : decode cX10_recur 94 = .ok (.aload_n 0, 1) := by decide +kernel
theorem dX10_recur_95 : decode cX10_recur 95 = .ok (.getfield 32, 3) := by decide +kernel
theorem dX10_recur_98 : decode cX10_recur 98 = .ok (.iload_n 1, 1) := by decide +kernel
theorem dX10_recur_99 : decode cX10_recur 99 = .ok (.aaload, 1) := by decide +kernel
theorem dX10_recur_100 : decode cX10_recur 100 = .ok (.invokevirtual 278, 3) := by decide +kernel
theorem dX10_recur_103 : decode cX10_recur 103 = .ok (.aload_n 0, 1) := by decide +kernel
theorem dX10_recur_104 : decode cX10_recur 104 = .ok (.iload_n 1, 1) := by decide +kernel
theorem dX10_recur_105 : decode cX10_recur 105 = .ok (.invokevirtual 291, 3) := by decide +kernel
theorem dX10_recur_108 : decode cX10_recur 108 = .ok (.getfield 295, 3) := by decide +kernel
theorem dX10_recur_111 : decode cX10_recur 111 = .ok (.ireturn, 1) := by decide +kernel
theorem dX10_cancel_0 : decode cX10_cancel 0 = .ok (.aload_n 0, 1) := by decide +kernel
theorem dX10_cancel_1 : decode cX10_cancel 1 = .ok (.iload_n 1, 1) := by decide +kernel
theorem dX10_cancel_2 : decode cX10_cancel 2 = .ok (.iload_n 2, 1) := by decide +kernel
theorem dX10_cancel_3 : decode cX10_cancel 3 = .ok (.invokevirtual 298, 3) := by decide +kernel
theorem dX10_cancel_6 : decode cX10_cancel 6 = .ok (.invokestatic 107, 3) := by decide +kernel
theorem dX10_cancel_9 : decode cX10_cancel 9 = .ok (.aload_n 0, 1) := by decide +kernel
theorem dX10_cancel_10 : decode cX10_cancel 10 = .ok (.invokevirtual 111, 3) := by decide +kernel
theorem dX10_cancel_13 : decode cX10_cancel 13 = .ok (.aload_n 0, 1) := by decide +kernel
theorem dX10_cancel_14 : decode cX10_cancel 14 = .ok (.iload_n 1, 1) := by decide +kernel
theorem dX10_cancel_15 : decode cX10_cancel 15 = .ok (.iload_n 2, 1) := by decide +kernel
theorem dX10_cancel_16 : decode cX10_cancel 16 = .ok (.invokevirtual 301, 3) := by decide +kernel
theorem dX10_cancel_19 : decode cX10_cancel 19 = .ok (.ireturn, 1) := by decide +kernel
theorem dX10_shift_0 : decode cX10_shift 0 = .ok (.aload_n 0, 1) := by decide +kernel
theorem dX10_shift_1 : decode cX10_shift 1 = .ok (.iload_n 1, 1) := by decide +kernel
theorem dX10_shift_2 : decode cX10_shift 2 = .ok (.iload_n 2, 1) := by decide +kernel
theorem dX10_shift_3 : decode cX10_shift 3 = .ok (.invokevirtual 298, 3) := by decide +kernel
theorem dX10_shift_6 : decode cX10_shift 6 = .ok (.invokestatic 107, 3) := by decide +kernel
theorem dX10_shift_9 : decode cX10_shift 9 = .ok (.iload_n 3, 1) := by decide +kernel
theorem dX10_shift_10 : decode cX10_shift 10 = .ok (.sipush (-1440), 3) := by decide +kernel
theorem dX10_shift_13 : decode cX10_shift 13 = .ok (.if_icmp .lt 14, 3) := by decide +kernel
theorem dX10_shift_16 : decode cX10_shift 16 = .ok (.iload_n 3, 1) := by decide +kernel
theorem dX10_shift_17 : decode cX10_shift 17 = .ok (.sipush 1440, 3) := by decide +kernel
theorem dX10_shift_20 : decode cX10_shift 20 = .ok (.if_icmp .gt 7, 3) := by decide +kernel
theorem dX10_shift_23 : decode cX10_shift 23 = .ok (.iconst 1, 1) := by decide +kernel
theorem dX10_shift_24 : decode cX10_shift 24 = .ok (.goto 4, 3) := by decide +kernel
theorem dX10_shift_27 : decode cX10_shift 27 = .ok (.iconst 0, 1) := by decide +kernel
theorem dX10_shift_28 : decode cX10_shift 28 = .ok (.invokestatic 72, 3) := by decide +kernel
theorem dX10_shift_31 : decode cX10_shift 31 = .ok (.aload_n 0, 1) := by decide +kernel
theorem dX10_shift_32 : decode cX10_shift 32 = .ok (.invokevirtual 111, 3) := by decide +kernel
theorem dX10_shift_35 : decode cX10_shift 35 = .ok (.aload_n 0, 1) := by decide +kernel
theorem dX10_shift_36 : decode cX10_shift 36 = .ok (.getfield 12, 3) := by decide +kernel
theorem dX10_shift_39 : decode cX10_shift 39 = .ok (.getfield 269, 3) := by decide +kernel
theorem dX10_shift_42 : decode cX10_shift 42 = .ok (.iload_n 1, 1) := by decide +kernel
theorem dX10_shift_43 : decode cX10_shift 43 = .ok (.aaload, 1) := by decide +kernel
theorem dX10_shift_44 : decode cX10_shift 44 = .ok (.getfield 304, 3) := by decide +kernel
theorem dX10_shift_47 : decode cX10_shift 47 = .ok (.iload_n 2, 1) := by decide +kernel
theorem dX10_shift_48 : decode cX10_shift 48 = .ok (.iaload, 1) := by decide +kernel
theorem dX10_shift_49 : decode cX10_shift 49 = .ok (.istore 4, 2) := by decide +kernel
theorem dX10_shift_51 : decode cX10_shift 51 = .ok (.aload_n 0, 1) := by decide +kernel
theorem dX10_shift_52 : decode cX10_shift 52 = .ok (.getfield 12, 3) := by decide +kernel
theorem dX10_shift_55 : decode cX10_shift 55 = .ok (.getfield 269, 3) := by decide +kernel
theorem dX10_shift_58 : decode cX10_shift 58 = .ok (.iload_n 1, 1) := by decide +kernel
theorem dX10_shift_59 : decode cX10_shift 59 = .ok (.aaload, 1) := by decide +kernel
theorem dX10_shift_60 : decode cX10_shift 60 = .ok (.getfield 304, 3) := by decide +kernel
theorem dX10_shift_63 : decode cX10_shift 63 = .ok (.iload_n 2, 1) := by decide +kernel
theorem dX10_shift_64 : decode cX10_shift 64 = .ok (.iload_n 3, 1) := by decide +kernel
theorem dX10_shift_65 : decode cX10_shift 65 = .ok (.iastore, 1) := by decide +kernel
theorem dX10_shift_66 : decode cX10_shift 66 = .ok (.aload_n 0, 1) := by decide +kernel
theorem dX10_shift_67 : decode cX10_shift 67 = .ok (.getfield 32, 3) := by decide +kernel
theorem dX10_shift_70 : decode cX10_shift 70 = .ok (.iload_n 1, 1) := by decide +kernel
theorem dX10_shift_71 : decode cX10_shift 71 = .ok (.aaload, 1) := by decide +kernel
theorem dX10_shift_72 : decode cX10_shift 72 = .ok (.iconst 0, 1) := by decide +kernel
theorem dX10_shift_73 : decode cX10_shift 73 = .ok (.putfield 307, 3) := by decide +kernel
theorem dX10_shift_76 : decode cX10_shift 76 = .ok (.iload 4, 2) := by decide +kernel
theorem dX10_shift_78 : decode cX10_shift 78 = .ok (.ireturn, 1) := by decide +kernel
theorem dX10_meeting_0 : decode cX10_meeting 0 = .ok (.aload_n 0, 1) := by decide +kernel
theorem dX10_meeting_1 : decode cX10_meeting 1 = .ok (.iload_n 1, 1) := by decide +kernel
theorem dX10_meeting_2 : decode cX10_meeting 2 = .ok (.invokevirtual 281, 3) := by decide +kernel
theorem dX10_meeting_5 : decode cX10_meeting 5 = .ok (.iload_n 2, 1) := by decide +kernel
theorem dX10_meeting_6 : decode cX10_meeting 6 = .ok (.ifCond .lt 13, 3) := by decide +kernel
theorem dX10_meeting_9 : decode cX10_meeting 9 = .ok (.iload_n 2, 1) := by decide +kernel
theorem dX10_meeting_10 : decode cX10_meeting 10 = .ok (.bipush 9, 2) := by decide +kernel
theorem dX10_meeting_12 : decode cX10_meeting 12 = .ok (.if_icmp .gt 7, 3) := by decide +kernel
theorem dX10_meeting_15 : decode cX10_meeting 15 = .ok (.iconst 1, 1) := by decide +kernel
theorem dX10_meeting_16 : decode cX10_meeting 16 = .ok (.goto 4, 3) := by decide +kernel
theorem dX10_meeting_19 : decode cX10_meeting 19 = .ok (.iconst 0, 1) := by decide +kernel
theorem dX10_meeting_20 : decode cX10_meeting 20 = .ok (.invokestatic 72, 3) := by decide +kernel
theorem dX10_meeting_23 : decode cX10_meeting 23 = .ok (.aload_n 0, 1) := by decide +kernel
theorem dX10_meeting_24 : decode cX10_meeting 24 = .ok (.getfield 12, 3) := by decide +kernel
theorem dX10_meeting_27 : decode cX10_meeting 27 = .ok (.getfield 269, 3) := by decide +kernel
theorem dX10_meeting_30 : decode cX10_meeting 30 = .ok (.iload_n 1, 1) := by decide +kernel
theorem dX10_meeting_31 : decode cX10_meeting 31 = .ok (.aaload, 1) := by decide +kernel
theorem dX10_meeting_32 : decode cX10_meeting 32 = .ok (.astore_n 3, 1) := by decide +kernel
theorem dX10_meeting_33 : decode cX10_meeting 33 = .ok (.iload_n 2, 1) := by decide +kernel
theorem dX10_meeting_34 : decode cX10_meeting 34 = .ok (.tableswitch 99 0 8 #[50, 55, 60, 65, 70, 75, 80, 85, 90], 50) := by decide +kernel
theorem dX10_meeting_84 : decode cX10_meeting 84 = .ok (.aload_n 3, 1) := by decide +kernel
theorem dX10_meeting_85 : decode cX10_meeting 85 = .ok (.getfield 311, 3) := by decide +kernel
theorem dX10_meeting_88 : decode cX10_meeting 88 = .ok (.ireturn, 1) := by decide +kernel
theorem dX10_meeting_89 : decode cX10_meeting 89 = .ok (.aload_n 3, 1) := by decide +kernel
theorem dX10_meeting_90 : decode cX10_meeting 90 = .ok (.getfield 314, 3) := by decide +kernel
theorem dX10_meeting_93 : decode cX10_meeting 93 = .ok (.ireturn, 1) := by decide +kernel
theorem dX10_meeting_94 : decode cX10_meeting 94 = .ok (.aload_n 3, 1) := by decide +kernel
theorem dX10_meeting_95 : decode cX10_meeting 95 = .ok (.getfield 317, 3) := by decide +kernel
theorem dX10_meeting_98 : decode cX10_meeting 98 = .ok (.ireturn, 1) := by decide +kernel
theorem dX10_meeting_99 : decode cX10_meeting 99 = .ok (.aload_n 3, 1) := by decide +kernel
theorem dX10_meeting_100 : decode cX10_meeting 100 = .ok (.getfield 320, 3) := by decide +kernel
theorem dX10_meeting_103 : decode cX10_meeting 103 = .ok (.ireturn, 1) := by decide +kernel
theorem dX10_meeting_104 : decode cX10_meeting 104 = .ok (.aload_n 3, 1) := by decide +kernel
theorem dX10_meeting_105 : decode cX10_meeting 105 = .ok (.getfield 323, 3) := by decide +kernel
theorem dX10_meeting_108 : decode cX10_meeting 108 = .ok (.ireturn, 1) := by decide +kernel
theorem dX10_meeting_109 : decode cX10_meeting 109 = .ok (.aload_n 3, 1) := by decide +kernel
theorem dX10_meeting_110 : decode cX10_meeting 110 = .ok (.getfield 326, 3) := by decide +kernel
theorem dX10_meeting_113 : decode cX10_meeting 113 = .ok (.ireturn, 1) := by decide +kernel
theorem dX10_meeting_114 : decode cX10_meeting 114 = .ok (.aload_n 3, 1) := by decide +kernel
theorem dX10_meeting_115 : decode cX10_meeting 115 = .ok (.getfield 329, 3) := by decide +kernel
theorem dX10_meeting_118 : decode cX10_meeting 118 = .ok (.ireturn, 1) := by decide +kernel
theorem dX10_meeting_119 : decode cX10_meeting 119 = .ok (.aload_n 3, 1) := by decide +kernel
theorem dX10_meeting_120 : decode cX10_meeting 120 = .ok (.getfield 332, 3) := by decide +kernel
theorem dX10_meeting_123 : decode cX10_meeting 123 = .ok (.ireturn, 1) := by decide +kernel
theorem dX10_meeting_124 : decode cX10_meeting 124 = .ok (.aload_n 0, 1) := by decide +kernel
theorem dX10_meeting_125 : decode cX10_meeting 125 = .ok (.iload_n 1, 1) := by decide +kernel
theorem dX10_meeting_126 : decode cX10_meeting 126 = .ok (.invokevirtual 291, 3) := by decide +kernel
theorem dX10_meeting_129 : decode cX10_meeting 129 = .ok (.getfield 295, 3) := by decide +kernel
theorem dX10_meeting_132 : decode cX10_meeting 132 = .ok (.ireturn, 1) := by decide +kernel
theorem dX10_meeting_133 : decode cX10_meeting 133 = .ok (.aload_n 0, 1) := by decide +kernel
theorem dX10_meeting_134 : decode cX10_meeting 134 = .ok (.iload_n 1, 1) := by decide +kernel
theorem dX10_meeting_135 : decode cX10_meeting 135 = .ok (.invokevirtual 335, 3) := by decide +kernel
theorem dX10_meeting_138 : decode cX10_meeting 138 = .ok (.aload_n 3, 1) := by decide +kernel
theorem dX10_meeting_139 : decode cX10_meeting 139 = .ok (.invokevirtual 337, 3) := by decide +kernel
theorem dX10_meeting_142 : decode cX10_meeting 142 = .ok (.ireturn, 1) := by decide +kernel
theorem dX10_occurrence_0 : decode cX10_occurrence 0 = .ok (.aload_n 0, 1) := by decide +kernel
theorem dX10_occurrence_1 : decode cX10_occurrence 1 = .ok (.iload_n 1, 1) := by decide +kernel
theorem dX10_occurrence_2 : decode cX10_occurrence 2 = .ok (.iload_n 2, 1) := by decide +kernel
theorem dX10_occurrence_3 : decode cX10_occurrence 3 = .ok (.invokevirtual 298, 3) := by decide +kernel
theorem dX10_occurrence_6 : decode cX10_occurrence 6 = .ok (.invokestatic 107, 3) := by decide +kernel
theorem dX10_occurrence_9 : decode cX10_occurrence 9 = .ok (.iload_n 3, 1) := by decide +kernel
theorem dX10_occurrence_10 : decode cX10_occurrence 10 = .ok (.ifCond .lt 12, 3) := by decide +kernel
theorem dX10_occurrence_13 : decode cX10_occurrence 13 = .ok (.iload_n 3, 1) := by decide +kernel
theorem dX10_occurrence_14 : decode cX10_occurrence 14 = .ok (.iconst 5, 1) := by decide +kernel
theorem dX10_occurrence_15 : decode cX10_occurrence 15 = .ok (.if_icmp .gt 7, 3) := by decide +kernel
theorem dX10_occurrence_18 : decode cX10_occurrence 18 = .ok (.iconst 1, 1) := by decide +kernel
theorem dX10_occurrence_19 : decode cX10_occurrence 19 = .ok (.goto 4, 3) := by decide +kernel
theorem dX10_occurrence_22 : decode cX10_occurrence 22 = .ok (.iconst 0, 1) := by decide +kernel
theorem dX10_occurrence_23 : decode cX10_occurrence 23 = .ok (.invokestatic 72, 3) := by decide +kernel
theorem dX10_occurrence_26 : decode cX10_occurrence 26 = .ok (.aload_n 0, 1) := by decide +kernel
theorem dX10_occurrence_27 : decode cX10_occurrence 27 = .ok (.getfield 12, 3) := by decide +kernel
theorem dX10_occurrence_30 : decode cX10_occurrence 30 = .ok (.getfield 269, 3) := by decide +kernel
theorem dX10_occurrence_33 : decode cX10_occurrence 33 = .ok (.iload_n 1, 1) := by decide +kernel
theorem dX10_occurrence_34 : decode cX10_occurrence 34 = .ok (.aaload, 1) := by decide +kernel
theorem dX10_occurrence_35 : decode cX10_occurrence 35 = .ok (.astore 4, 2) := by decide +kernel
theorem dX10_occurrence_37 : decode cX10_occurrence 37 = .ok (.aload_n 0, 1) := by decide +kernel
theorem dX10_occurrence_38 : decode cX10_occurrence 38 = .ok (.iload_n 1, 1) := by decide +kernel
theorem dX10_occurrence_39 : decode cX10_occurrence 39 = .ok (.invokevirtual 335, 3) := by decide +kernel
theorem dX10_occurrence_42 : decode cX10_occurrence 42 = .ok (.astore 5, 2) := by decide +kernel
theorem dX10_occurrence_44 : decode cX10_occurrence 44 = .ok (.aload 5, 2) := by decide +kernel
theorem dX10_occurrence_46 : decode cX10_occurrence 46 = .ok (.aload 4, 2) := by decide +kernel
theorem dX10_occurrence_48 : decode cX10_occurrence 48 = .ok (.iload_n 2, 1) := by decide +kernel
theorem dX10_occurrence_49 : decode cX10_occurrence 49 = .ok (.invokevirtual 341, 3) := by decide +kernel
theorem dX10_occurrence_52 : decode cX10_occurrence 52 = .ok (.istore 6, 2) := by decide +kernel
theorem dX10_occurrence_54 : decode cX10_occurrence 54 = .ok (.iload_n 3, 1) := by decide +kernel
theorem dX10_occurrence_55 : decode cX10_occurrence 55 = .ok (.tableswitch 85 0 4 #[33, 41, 44, 52, 61], 33) := by decide +kernel
theorem dX10_occurrence_88 : decode cX10_occurrence 88 = .ok (.aload 5, 2) := by decide +kernel
theorem dX10_occurrence_90 : decode cX10_occurrence 90 = .ok (.getfield 345, 3) := by decide +kernel
theorem dX10_occurrence_93 : decode cX10_occurrence 93 = .ok (.iload_n 2, 1) := by decide +kernel
theorem dX10_occurrence_94 : decode cX10_occurrence 94 = .ok (.iaload, 1) := by decide +kernel
theorem dX10_occurrence_95 : decode cX10_occurrence 95 = .ok (.ireturn, 1) := by decide +kernel
theorem dX10_occurrence_96 : decode cX10_occurrence 96 = .ok (.iload 6, 2) := by decide +kernel
theorem dX10_occurrence_98 : decode cX10_occurrence 98 = .ok (.ireturn, 1) := by decide +kernel
theorem dX10_occurrence_99 : decode cX10_occurrence 99 = .ok (.aload 4, 2) := by decide +kernel
theorem dX10_occurrence_101 : decode cX10_occurrence 101 = .ok (.getfield 304, 3) := by decide +kernel
theorem dX10_occurrence_104 : decode cX10_occurrence 104 = .ok (.iload_n 2, 1) := by decide +kernel
theorem dX10_occurrence_105 : decode cX10_occurrence 105 = .ok (.iaload, 1) := by decide +kernel
theorem dX10_occurrence_106 : decode cX10_occurrence 106 = .ok (.ireturn, 1) := by decide +kernel
theorem dX10_occurrence_107 : decode cX10_occurrence 107 = .ok (.aload 4, 2) := by decide +kernel
theorem dX10_occurrence_109 : decode cX10_occurrence 109 = .ok (.aload 5, 2) := by decide +kernel
theorem dX10_occurrence_111 : decode cX10_occurrence 111 = .ok (.iload_n 2, 1) := by decide +kernel
theorem dX10_occurrence_112 : decode cX10_occurrence 112 = .ok (.invokestatic 348, 3) := by decide +kernel
theorem dX10_occurrence_115 : decode cX10_occurrence 115 = .ok (.ireturn, 1) := by decide +kernel
theorem dX10_occurrence_116 : decode cX10_occurrence 116 = .ok (.iload 6, 2) := by decide +kernel
theorem dX10_occurrence_118 : decode cX10_occurrence 118 = .ok (.invokestatic 234, 3) := by decide +kernel
theorem dX10_occurrence_121 : decode cX10_occurrence 121 = .ok (.ifCond .eq 17, 3) := by decide +kernel
theorem dX10_occurrence_124 : decode cX10_occurrence 124 = .ok (.aload_n 0, 1) := by decide +kernel
theorem dX10_occurrence_125 : decode cX10_occurrence 125 = .ok (.aload 4, 2) := by decide +kernel
theorem dX10_occurrence_127 : decode cX10_occurrence 127 = .ok (.getfield 311, 3) := by decide +kernel
theorem dX10_occurrence_130 : decode cX10_occurrence 130 = .ok (.iload 6, 2) := by decide +kernel
theorem dX10_occurrence_132 : decode cX10_occurrence 132 = .ok (.invokevirtual 352, 3) := by decide +kernel
theorem dX10_occurrence_135 : decode cX10_occurrence 135 = .ok (.goto 4, 3) := by decide +kernel
theorem dX10_occurrence_138 : decode cX10_occurrence 138 = .ok (.iconst (-1), 1) := by decide +kernel
theorem dX10_occurrence_139 : decode cX10_occurrence 139 = .ok (.ireturn, 1) := by decide +kernel
theorem dX10_occurrence_140 : decode cX10_occurrence 140 = .ok (.aload 5, 2) := by decide +kernel
theorem dX10_occurrence_142 : decode cX10_occurrence 142 = .ok (.aload 4, 2) := by decide +kernel
theorem dX10_occurrence_144 : decode cX10_occurrence 144 = .ok (.iload_n 2, 1) := by decide +kernel
theorem dX10_occurrence_145 : decode cX10_occurrence 145 = .ok (.invokevirtual 355, 3) := by decide +kernel
theorem dX10_occurrence_148 : decode cX10_occurrence 148 = .ok (.invokestatic 184, 3) := by decide +kernel
theorem dX10_occurrence_151 : decode cX10_occurrence 151 = .ok (.aload 5, 2) := by decide +kernel
theorem dX10_occurrence_153 : decode cX10_occurrence 153 = .ok (.getfield 359, 3) := by decide +kernel
theorem dX10_occurrence_156 : decode cX10_occurrence 156 = .ok (.iload_n 2, 1) := by decide +kernel
theorem dX10_occurrence_157 : decode cX10_occurrence 157 = .ok (.iaload, 1) := by decide +kernel
theorem dX10_occurrence_158 : decode cX10_occurrence 158 = .ok (.ireturn, 1) := by decide +kernel
theorem dX10_next_0 : decode cX10_next 0 = .ok (.aload_n 0, 1) := by decide +kernel
theorem dX10_next_1 : decode cX10_next 1 = .ok (.iload_n 1, 1) := by decide +kernel
theorem dX10_next_2 : decode cX10_next 2 = .ok (.invokevirtual 281, 3) := by decide +kernel
theorem dX10_next_5 : decode cX10_next 5 = .ok (.iload_n 2, 1) := by decide +kernel
theorem dX10_next_6 : decode cX10_next 6 = .ok (.invokestatic 206, 3) := by decide +kernel
theorem dX10_next_9 : decode cX10_next 9 = .ok (.invokestatic 72, 3) := by decide +kernel
theorem dX10_next_12 : decode cX10_next 12 = .ok (.aload_n 0, 1) := by decide +kernel
theorem dX10_next_13 : decode cX10_next 13 = .ok (.getfield 12, 3) := by decide +kernel
theorem dX10_next_16 : decode cX10_next 16 = .ok (.getfield 269, 3) := by decide +kernel
theorem dX10_next_19 : decode cX10_next 19 = .ok (.iload_n 1, 1) := by decide +kernel
theorem dX10_next_20 : decode cX10_next 20 = .ok (.aaload, 1) := by decide +kernel
theorem dX10_next_21 : decode cX10_next 21 = .ok (.astore_n 3, 1) := by decide +kernel
theorem dX10_next_22 : decode cX10_next 22 = .ok (.aload_n 0, 1) := by decide +kernel
theorem dX10_next_23 : decode cX10_next 23 = .ok (.iload_n 1, 1) := by decide +kernel
theorem dX10_next_24 : decode cX10_next 24 = .ok (.invokevirtual 335, 3) := by decide +kernel
theorem dX10_next_27 : decode cX10_next 27 = .ok (.astore 4, 2) := by decide +kernel
theorem dX10_next_29 : decode cX10_next 29 = .ok (.iconst (-1), 1) := by decide +kernel
theorem dX10_next_30 : decode cX10_next 30 = .ok (.istore 5, 2) := by decide +kernel
theorem dX10_next_32 : decode cX10_next 32 = .ok (.iconst 0, 1) := by decide +kernel
theorem dX10_next_33 : decode cX10_next 33 = .ok (.istore 6, 2) := by decide +kernel
theorem dX10_next_35 : decode cX10_next 35 = .ok (.iload 6, 2) := by decide +kernel
theorem dX10_next_37 : decode cX10_next 37 = .ok (.aload 4, 2) := by decide +kernel
theorem dX10_next_39 : decode cX10_next 39 = .ok (.getfield 295, 3) := by decide +kernel
theorem dX10_next_42 : decode cX10_next 42 = .ok (.if_icmp .ge 60, 3) := by decide +kernel
theorem dX10_next_45 : decode cX10_next 45 = .ok (.aload 4, 2) := by decide +kernel
theorem dX10_next_47 : decode cX10_next 47 = .ok (.aload_n 3, 1) := by decide +kernel
theorem dX10_next_48 : decode cX10_next 48 = .ok (.iload 6, 2) := by decide +kernel
theorem dX10_next_50 : decode cX10_next 50 = .ok (.invokevirtual 355, 3) := by decide +kernel
theorem dX10_next_53 : decode cX10_next 53 = .ok (.ifCond .eq 43, 3) := by decide +kernel
theorem dX10_next_56 : decode cX10_next 56 = .ok (.aload 4, 2) := by decide +kernel
theorem dX10_next_58 : decode cX10_next 58 = .ok (.getfield 359, 3) := by decide +kernel
theorem dX10_next_61 : decode cX10_next 61 = .ok (.iload 6, 2) := by decide +kernel
theorem dX10_next_63 : decode cX10_next 63 = .ok (.iaload, 1) := by decide +kernel
theorem dX10_next_64 : decode cX10_next 64 = .ok (.iload_n 2, 1) := by decide +kernel
theorem dX10_next_65 : decode cX10_next 65 = .ok (.if_icmp .lt 31, 3) := by decide +kernel
theorem dX10_next_68 : decode cX10_next 68 = .ok (.iload 5, 2) := by decide +kernel
theorem dX10_next_70 : decode cX10_next 70 = .ok (.ifCond .lt 22, 3) := by decide +kernel
theorem dX10_next_73 : decode cX10_next 73 = .ok (.aload 4, 2) := by decide +kernel
theorem dX10_next_75 : decode cX10_next 75 = .ok (.getfield 359, 3) := by decide +kernel
theorem dX10_next_78 : decode cX10_next 78 = .ok (.iload 6, 2) := by decide +kernel
theorem dX10_next_80 : decode cX10_next 80 = .ok (.iaload, 1) := by decide +kernel
theorem dX10_next_81 : decode cX10_next 81 = .ok (.aload 4, 2) := by decide +kernel
theorem dX10_next_83 : decode cX10_next 83 = .ok (.getfield 359, 3) := by decide +kernel
theorem dX10_next_86 : decode cX10_next 86 = .ok (.iload 5, 2) := by decide +kernel
theorem dX10_next_88 : decode cX10_next 88 = .ok (.iaload, 1) := by decide +kernel
theorem dX10_next_89 : decode cX10_next 89 = .ok (.if_icmp .ge 7, 3) := by decide +kernel
theorem dX10_next_92 : decode cX10_next 92 = .ok (.iload 6, 2) := by decide +kernel
theorem dX10_next_94 : decode cX10_next 94 = .ok (.istore 5, 2) := by decide +kernel
theorem dX10_next_96 : decode cX10_next 96 = .ok (.iinc 6 1, 3) := by decide +kernel
theorem dX10_next_99 : decode cX10_next 99 = .ok (.goto (-64), 3) := by decide +kernel
theorem dX10_next_102 : decode cX10_next 102 = .ok (.iload 5, 2) := by decide +kernel
theorem dX10_next_104 : decode cX10_next 104 = .ok (.ifCond .lt 7, 3) := by decide +kernel
theorem dX10_next_107 : decode cX10_next 107 = .ok (.iconst 1, 1) := by decide +kernel
theorem dX10_next_108 : decode cX10_next 108 = .ok (.goto 4, 3) := by decide +kernel
theorem dX10_next_111 : decode cX10_next 111 = .ok (.iconst 0, 1) := by decide +kernel
theorem dX10_next_112 : decode cX10_next 112 = .ok (.invokestatic 184, 3) := by decide +kernel
theorem dX10_next_115 : decode cX10_next 115 = .ok (.iload 5, 2) := by decide +kernel
theorem dX10_next_117 : decode cX10_next 117 = .ok (.ireturn, 1) := by decide +kernel
theorem dX10_clash_0 : decode cX10_clash 0 = .ok (.aload_n 0, 1) := by decide +kernel
theorem dX10_clash_1 : decode cX10_clash 1 = .ok (.iload_n 1, 1) := by decide +kernel
theorem dX10_clash_2 : decode cX10_clash 2 = .ok (.invokevirtual 281, 3) := by decide +kernel
theorem dX10_clash_5 : decode cX10_clash 5 = .ok (.aload_n 0, 1) := by decide +kernel
theorem dX10_clash_6 : decode cX10_clash 6 = .ok (.iload_n 2, 1) := by decide +kernel
theorem dX10_clash_7 : decode cX10_clash 7 = .ok (.invokevirtual 281, 3) := by decide +kernel
theorem dX10_clash_10 : decode cX10_clash 10 = .ok (.aload_n 0, 1) := by decide +kernel
theorem dX10_clash_11 : decode cX10_clash 11 = .ok (.iload_n 1, 1) := by decide +kernel
theorem dX10_clash_12 : decode cX10_clash 12 = .ok (.invokevirtual 335, 3) := by decide +kernel
theorem dX10_clash_15 : decode cX10_clash 15 = .ok (.astore_n 3, 1) := by decide +kernel
theorem dX10_clash_16 : decode cX10_clash 16 = .ok (.aload_n 0, 1) := by decide +kernel
theorem dX10_clash_17 : decode cX10_clash 17 = .ok (.iload_n 2, 1) := by decide +kernel
theorem dX10_clash_18 : decode cX10_clash 18 = .ok (.invokevirtual 335, 3) := by decide +kernel
theorem dX10_clash_21 : decode cX10_clash 21 = .ok (.pop, 1) := by decide +kernel
theorem dX10_clash_22 : decode cX10_clash 22 = .ok (.iconst 0, 1) := by decide +kernel
theorem dX10_clash_23 : decode cX10_clash 23 = .ok (.istore 4, 2) := by decide +kernel
theorem dX10_clash_25 : decode cX10_clash 25 = .ok (.iload 4, 2) := by decide +kernel
theorem dX10_clash_27 : decode cX10_clash 27 = .ok (.aload_n 3, 1) := by decide +kernel
theorem dX10_clash_28 : decode cX10_clash 28 = .ok (.getfield 295, 3) := by decide +kernel
theorem dX10_clash_31 : decode cX10_clash 31 = .ok (.if_icmp .ge 55, 3) := by decide +kernel
theorem dX10_clash_34 : decode cX10_clash 34 = .ok (.aload_n 3, 1) := by decide +kernel
theorem dX10_clash_35 : decode cX10_clash 35 = .ok (.aload_n 0, 1) := by decide +kernel
theorem dX10_clash_36 : decode cX10_clash 36 = .ok (.getfield 12, 3) := by decide +kernel
theorem dX10_clash_39 : decode cX10_clash 39 = .ok (.getfield 269, 3) := by decide +kernel
theorem dX10_clash_42 : decode cX10_clash 42 = .ok (.iload_n 1, 1) := by decide +kernel
theorem dX10_clash_43 : decode cX10_clash 43 = .ok (.aaload, 1) := by decide +kernel
theorem dX10_clash_44 : decode cX10_clash 44 = .ok (.iload 4, 2) := by decide +kernel
theorem dX10_clash_46 : decode cX10_clash 46 = .ok (.invokevirtual 355, 3) := by decide +kernel
theorem dX10_clash_49 : decode cX10_clash 49 = .ok (.ifCond .eq 14, 3) := by decide +kernel
theorem dX10_clash_52 : decode cX10_clash 52 = .ok (.aload_n 0, 1) := by decide +kernel
theorem dX10_clash_53 : decode cX10_clash 53 = .ok (.iload_n 1, 1) := by decide +kernel
theorem dX10_clash_54 : decode cX10_clash 54 = .ok (.iload 4, 2) := by decide +kernel
theorem dX10_clash_56 : decode cX10_clash 56 = .ok (.iload_n 2, 1) := by decide +kernel
theorem dX10_clash_57 : decode cX10_clash 57 = .ok (.invokevirtual 362, 3) := by decide +kernel
theorem dX10_clash_60 : decode cX10_clash 60 = .ok (.goto 4, 3) := by decide +kernel
theorem dX10_clash_63 : decode cX10_clash 63 = .ok (.iconst (-1), 1) := by decide +kernel
theorem dX10_clash_64 : decode cX10_clash 64 = .ok (.istore 5, 2) := by decide +kernel
theorem dX10_clash_66 : decode cX10_clash 66 = .ok (.iload 5, 2) := by decide +kernel
theorem dX10_clash_68 : decode cX10_clash 68 = .ok (.ifCond .lt 12, 3) := by decide +kernel
theorem dX10_clash_71 : decode cX10_clash 71 = .ok (.bipush 100, 2) := by decide +kernel
theorem dX10_clash_73 : decode cX10_clash 73 = .ok (.iload 4, 2) := by decide +kernel
theorem dX10_clash_75 : decode cX10_clash 75 = .ok (.imul, 1) := by decide +kernel
theorem dX10_clash_76 : decode cX10_clash 76 = .ok (.iload 5, 2) := by decide +kernel
theorem dX10_clash_78 : decode cX10_clash 78 = .ok (.iadd, 1) := by decide +kernel
theorem dX10_clash_79 : decode cX10_clash 79 = .ok (.ireturn, 1) := by decide +kernel
theorem dX10_clash_80 : decode cX10_clash 80 = .ok (.iinc 4 1, 3) := by decide +kernel
theorem dX10_clash_83 : decode cX10_clash 83 = .ok (.goto (-58), 3) := by decide +kernel
theorem dX10_clash_86 : decode cX10_clash 86 = .ok (.iconst (-1), 1) := by decide +kernel
theorem dX10_clash_87 : decode cX10_clash 87 = .ok (.ireturn, 1) := by decide +kernel
theorem dX10_agenda_0 : decode cX10_agenda 0 = .ok (.iload_n 1, 1) := by decide +kernel
theorem dX10_agenda_1 : decode cX10_agenda 1 = .ok (.invokestatic 206, 3) := by decide +kernel
theorem dX10_agenda_4 : decode cX10_agenda 4 = .ok (.invokestatic 72, 3) := by decide +kernel
theorem dX10_agenda_7 : decode cX10_agenda 7 = .ok (.aload_n 0, 1) := by decide +kernel
theorem dX10_agenda_8 : decode cX10_agenda 8 = .ok (.iload_n 1, 1) := by decide +kernel
theorem dX10_agenda_9 : decode cX10_agenda 9 = .ok (.invokevirtual 365, 3) := by decide +kernel
theorem dX10_agenda_12 : decode cX10_agenda 12 = .ok (.istore_n 3, 1) := by decide +kernel
theorem dX10_agenda_13 : decode cX10_agenda 13 = .ok (.iload_n 2, 1) := by decide +kernel
theorem dX10_agenda_14 : decode cX10_agenda 14 = .ok (.ifCond .lt 12, 3) := by decide +kernel
theorem dX10_agenda_17 : decode cX10_agenda 17 = .ok (.iload_n 2, 1) := by decide +kernel
theorem dX10_agenda_18 : decode cX10_agenda 18 = .ok (.iload_n 3, 1) := by decide +kernel
theorem dX10_agenda_19 : decode cX10_agenda 19 = .ok (.if_icmp .ge 7, 3) := by decide +kernel
theorem dX10_agenda_22 : decode cX10_agenda 22 = .ok (.iconst 1, 1) := by decide +kernel
theorem dX10_agenda_23 : decode cX10_agenda 23 = .ok (.goto 4, 3) := by decide +kernel
theorem dX10_agenda_26 : decode cX10_agenda 26 = .ok (.iconst 0, 1) := by decide +kernel
theorem dX10_agenda_27 : decode cX10_agenda 27 = .ok (.invokestatic 184, 3) := by decide +kernel
theorem dX10_agenda_30 : decode cX10_agenda 30 = .ok (.aload_n 0, 1) := by decide +kernel
theorem dX10_agenda_31 : decode cX10_agenda 31 = .ok (.getfield 62, 3) := by decide +kernel
theorem dX10_agenda_34 : decode cX10_agenda 34 = .ok (.iload_n 3, 1) := by decide +kernel
theorem dX10_agenda_35 : decode cX10_agenda 35 = .ok (.invokestatic 219, 3) := by decide +kernel
theorem dX10_agenda_38 : decode cX10_agenda 38 = .ok (.aload_n 0, 1) := by decide +kernel
theorem dX10_agenda_39 : decode cX10_agenda 39 = .ok (.getfield 62, 3) := by decide +kernel
theorem dX10_agenda_42 : decode cX10_agenda 42 = .ok (.iload_n 2, 1) := by decide +kernel
theorem dX10_agenda_43 : decode cX10_agenda 43 = .ok (.laload, 1) := by decide +kernel
theorem dX10_agenda_44 : decode cX10_agenda 44 = .ok (.ldc2_w 368, 3) := by decide +kernel
theorem dX10_agenda_47 : decode cX10_agenda 47 = .ok (.lrem, 1) := by decide +kernel
theorem dX10_agenda_48 : decode cX10_agenda 48 = .ok (.l2i, 1) := by decide +kernel
theorem dX10_agenda_49 : decode cX10_agenda 49 = .ok (.istore 4, 2) := by decide +kernel
theorem dX10_agenda_51 : decode cX10_agenda 51 = .ok (.bipush 100, 2) := by decide +kernel
theorem dX10_agenda_53 : decode cX10_agenda 53 = .ok (.iload 4, 2) := by decide +kernel
theorem dX10_agenda_55 : decode cX10_agenda 55 = .ok (.bipush 40, 2) := by decide +kernel
theorem dX10_agenda_57 : decode cX10_agenda 57 = .ok (.idiv, 1) := by decide +kernel
theorem dX10_agenda_58 : decode cX10_agenda 58 = .ok (.imul, 1) := by decide +kernel
theorem dX10_agenda_59 : decode cX10_agenda 59 = .ok (.iload 4, 2) := by decide +kernel
theorem dX10_agenda_61 : decode cX10_agenda 61 = .ok (.bipush 40, 2) := by decide +kernel
theorem dX10_agenda_63 : decode cX10_agenda 63 = .ok (.irem, 1) := by decide +kernel
theorem dX10_agenda_64 : decode cX10_agenda 64 = .ok (.iadd, 1) := by decide +kernel
theorem dX10_agenda_65 : decode cX10_agenda 65 = .ok (.ireturn, 1) := by decide +kernel
theorem dX10_drift_0 : decode cX10_drift 0 = .ok (.aload_n 0, 1) := by decide +kernel
theorem dX10_drift_1 : decode cX10_drift 1 = .ok (.iload_n 1, 1) := by decide +kernel
theorem dX10_drift_2 : decode cX10_drift 2 = .ok (.invokevirtual 281, 3) := by decide +kernel
theorem dX10_drift_5 : decode cX10_drift 5 = .ok (.aload_n 0, 1) := by decide +kernel
theorem dX10_drift_6 : decode cX10_drift 6 = .ok (.iload_n 2, 1) := by decide +kernel
theorem dX10_drift_7 : decode cX10_drift 7 = .ok (.invokevirtual 137, 3) := by decide +kernel
theorem dX10_drift_10 : decode cX10_drift 10 = .ok (.aload_n 0, 1) := by decide +kernel
theorem dX10_drift_11 : decode cX10_drift 11 = .ok (.getfield 12, 3) := by decide +kernel
theorem dX10_drift_14 : decode cX10_drift 14 = .ok (.getfield 269, 3) := by decide +kernel
theorem dX10_drift_17 : decode cX10_drift 17 = .ok (.iload_n 1, 1) := by decide +kernel
theorem dX10_drift_18 : decode cX10_drift 18 = .ok (.aaload, 1) := by decide +kernel
theorem dX10_drift_19 : decode cX10_drift 19 = .ok (.astore_n 3, 1) := by decide +kernel
theorem dX10_drift_20 : decode cX10_drift 20 = .ok (.aload_n 0, 1) := by decide +kernel
theorem dX10_drift_21 : decode cX10_drift 21 = .ok (.iload_n 1, 1) := by decide +kernel
theorem dX10_drift_22 : decode cX10_drift 22 = .ok (.invokevirtual 335, 3) := by decide +kernel
theorem dX10_drift_25 : decode cX10_drift 25 = .ok (.astore 4, 2) := by decide +kernel
theorem dX10_drift_27 : decode cX10_drift 27 = .ok (.aload_n 0, 1) := by decide +kernel
theorem dX10_drift_28 : decode cX10_drift 28 = .ok (.iload_n 2, 1) := by decide +kernel
theorem dX10_drift_29 : decode cX10_drift 29 = .ok (.invokevirtual 144, 3) := by decide +kernel
theorem dX10_drift_32 : decode cX10_drift 32 = .ok (.astore 5, 2) := by decide +kernel
theorem dX10_drift_34 : decode cX10_drift 34 = .ok (.iconst 0, 1) := by decide +kernel
theorem dX10_drift_35 : decode cX10_drift 35 = .ok (.istore 6, 2) := by decide +kernel
theorem dX10_drift_37 : decode cX10_drift 37 = .ok (.iconst 0, 1) := by decide +kernel
theorem dX10_drift_38 : decode cX10_drift 38 = .ok (.istore 7, 2) := by decide +kernel
theorem dX10_drift_40 : decode cX10_drift 40 = .ok (.iload 7, 2) := by decide +kernel
theorem dX10_drift_42 : decode cX10_drift 42 = .ok (.aload 4, 2) := by decide +kernel
theorem dX10_drift_44 : decode cX10_drift 44 = .ok (.getfield 295, 3) := by decide +kernel
theorem dX10_drift_47 : decode cX10_drift 47 = .ok (.if_icmp .ge 64, 3) := by decide +kernel
theorem dX10_drift_50 : decode cX10_drift 50 = .ok (.aload 4, 2) := by decide +kernel
theorem dX10_drift_52 : decode cX10_drift 52 = .ok (.aload_n 3, 1) := by decide +kernel
theorem dX10_drift_53 : decode cX10_drift 53 = .ok (.iload 7, 2) := by decide +kernel
theorem dX10_drift_55 : decode cX10_drift 55 = .ok (.invokevirtual 355, 3) := by decide +kernel
theorem dX10_drift_58 : decode cX10_drift 58 = .ok (.ifCond .eq 47, 3) := by decide +kernel
theorem dX10_drift_61 : decode cX10_drift 61 = .ok (.aload 4, 2) := by decide +kernel
theorem dX10_drift_63 : decode cX10_drift 63 = .ok (.getfield 359, 3) := by decide +kernel
theorem dX10_drift_66 : decode cX10_drift 66 = .ok (.iload 7, 2) := by decide +kernel
theorem dX10_drift_68 : decode cX10_drift 68 = .ok (.iaload, 1) := by decide +kernel
theorem dX10_drift_69 : decode cX10_drift 69 = .ok (.aload 5, 2) := by decide +kernel
theorem dX10_drift_71 : decode cX10_drift 71 = .ok (.aload 4, 2) := by decide +kernel
theorem dX10_drift_73 : decode cX10_drift 73 = .ok (.getfield 359, 3) := by decide +kernel
theorem dX10_drift_76 : decode cX10_drift 76 = .ok (.iload 7, 2) := by decide +kernel
theorem dX10_drift_78 : decode cX10_drift 78 = .ok (.iaload, 1) := by decide +kernel
theorem dX10_drift_79 : decode cX10_drift 79 = .ok (.invokevirtual 209, 3) := by decide +kernel
theorem dX10_drift_82 : decode cX10_drift 82 = .ok (.iadd, 1) := by decide +kernel
theorem dX10_drift_83 : decode cX10_drift 83 = .ok (.istore 8, 2) := by decide +kernel
theorem dX10_drift_85 : decode cX10_drift 85 = .ok (.aload_n 0, 1) := by decide +kernel
theorem dX10_drift_86 : decode cX10_drift 86 = .ok (.getfield 62, 3) := by decide +kernel
theorem dX10_drift_89 : decode cX10_drift 89 = .ok (.iload 6, 2) := by decide +kernel
theorem dX10_drift_91 : decode cX10_drift 91 = .ok (.iload 8, 2) := by decide +kernel
theorem dX10_drift_93 : decode cX10_drift 93 = .ok (.sipush 1440, 3) := by decide +kernel
theorem dX10_drift_96 : decode cX10_drift 96 = .ok (.invokestatic 370, 3) := by decide +kernel
theorem dX10_drift_99 : decode cX10_drift 99 = .ok (.i2l, 1) := by decide +kernel
theorem dX10_drift_100 : decode cX10_drift 100 = .ok (.invokestatic 243, 3) := by decide +kernel
theorem dX10_drift_103 : decode cX10_drift 103 = .ok (.istore 6, 2) := by decide +kernel
theorem dX10_drift_105 : decode cX10_drift 105 = .ok (.iinc 7 1, 3) := by decide +kernel
theorem dX10_drift_108 : decode cX10_drift 108 = .ok (.goto (-68), 3) := by decide +kernel
theorem dX10_drift_111 : decode cX10_drift 111 = .ok (.iload 6, 2) := by decide +kernel
theorem dX10_drift_113 : decode cX10_drift 113 = .ok (.ireturn, 1) := by decide +kernel
theorem dX10_free_0 : decode cX10_free 0 = .ok (.iload_n 1, 1) := by decide +kernel
theorem dX10_free_1 : decode cX10_free 1 = .ok (.invokestatic 206, 3) := by decide +kernel
theorem dX10_free_4 : decode cX10_free 4 = .ok (.ifCond .eq 26, 3) := by decide +kernel
theorem dX10_free_7 : decode cX10_free 7 = .ok (.iload_n 2, 1) := by decide +kernel
theorem dX10_free_8 : decode cX10_free 8 = .ok (.invokestatic 206, 3) := by decide +kernel
theorem dX10_free_11 : decode cX10_free 11 = .ok (.ifCond .eq 19, 3) := by decide +kernel
theorem dX10_free_14 : decode cX10_free 14 = .ok (.iload_n 3, 1) := by decide +kernel
theorem dX10_free_15 : decode cX10_free 15 = .ok (.iconst 1, 1) := by decide +kernel
theorem dX10_free_16 : decode cX10_free 16 = .ok (.if_icmp .lt 14, 3) := by decide +kernel
theorem dX10_free_19 : decode cX10_free 19 = .ok (.iload_n 3, 1) := by decide +kernel
theorem dX10_free_20 : decode cX10_free 20 = .ok (.sipush 1440, 3) := by decide +kernel
theorem dX10_free_23 : decode cX10_free 23 = .ok (.if_icmp .gt 7, 3) := by decide +kernel
theorem dX10_free_26 : decode cX10_free 26 = .ok (.iconst 1, 1) := by decide +kernel
theorem dX10_free_27 : decode cX10_free 27 = .ok (.goto 4, 3) := by decide +kernel
theorem dX10_free_30 : decode cX10_free 30 = .ok (.iconst 0, 1) := by decide +kernel
theorem dX10_free_31 : decode cX10_free 31 = .ok (.invokestatic 72, 3) := by decide +kernel
theorem dX10_free_34 : decode cX10_free 34 = .ok (.aload_n 0, 1) := by decide +kernel
theorem dX10_free_35 : decode cX10_free 35 = .ok (.iload_n 1, 1) := by decide +kernel
theorem dX10_free_36 : decode cX10_free 36 = .ok (.sipush 1440, 3) := by decide +kernel
theorem dX10_free_39 : decode cX10_free 39 = .ok (.isub, 1) := by decide +kernel
theorem dX10_free_40 : decode cX10_free 40 = .ok (.invokevirtual 365, 3) := by decide +kernel
theorem dX10_free_43 : decode cX10_free 43 = .ok (.istore 4, 2) := by decide +kernel
theorem dX10_free_45 : decode cX10_free 45 = .ok (.aload_n 0, 1) := by decide +kernel
theorem dX10_free_46 : decode cX10_free 46 = .ok (.getfield 62, 3) := by decide +kernel
theorem dX10_free_49 : decode cX10_free 49 = .ok (.iload 4, 2) := by decide +kernel
theorem dX10_free_51 : decode cX10_free 51 = .ok (.invokestatic 219, 3) := by decide +kernel
theorem dX10_free_54 : decode cX10_free 54 = .ok (.iload_n 1, 1) := by decide +kernel
theorem dX10_free_55 : decode cX10_free 55 = .ok (.istore 5, 2) := by decide +kernel
theorem dX10_free_57 : decode cX10_free 57 = .ok (.iconst 0, 1) := by decide +kernel
theorem dX10_free_58 : decode cX10_free 58 = .ok (.istore 6, 2) := by decide +kernel
theorem dX10_free_60 : decode cX10_free 60 = .ok (.iload 6, 2) := by decide +kernel
theorem dX10_free_62 : decode cX10_free 62 = .ok (.iload 4, 2) := by decide +kernel
theorem dX10_free_64 : decode cX10_free 64 = .ok (.if_icmp .ge 76, 3) := by decide +kernel
theorem dX10_free_67 : decode cX10_free 67 = .ok (.aload_n 0, 1) := by decide +kernel
theorem dX10_free_68 : decode cX10_free 68 = .ok (.getfield 62, 3) := by decide +kernel
theorem dX10_free_71 : decode cX10_free 71 = .ok (.iload 6, 2) := by decide +kernel
theorem dX10_free_73 : decode cX10_free 73 = .ok (.laload, 1) := by decide +kernel
theorem dX10_free_74 : decode cX10_free 74 = .ok (.ldc2_w 368, 3) := by decide +kernel
theorem dX10_free_77 : decode cX10_free 77 = .ok (.ldiv, 1) := by decide +kernel
theorem dX10_free_78 : decode cX10_free 78 = .ok (.l2i, 1) := by decide +kernel
theorem dX10_free_79 : decode cX10_free 79 = .ok (.sipush (-2000), 3) := by decide +kernel
theorem dX10_free_82 : decode cX10_free 82 = .ok (.iadd, 1) := by decide +kernel
theorem dX10_free_83 : decode cX10_free 83 = .ok (.istore 7, 2) := by decide +kernel
theorem dX10_free_85 : decode cX10_free 85 = .ok (.aload_n 0, 1) := by decide +kernel
theorem dX10_free_86 : decode cX10_free 86 = .ok (.getfield 62, 3) := by decide +kernel
theorem dX10_free_89 : decode cX10_free 89 = .ok (.iload 6, 2) := by decide +kernel
theorem dX10_free_91 : decode cX10_free 91 = .ok (.laload, 1) := by decide +kernel
theorem dX10_free_92 : decode cX10_free 92 = .ok (.ldc2_w 368, 3) := by decide +kernel
theorem dX10_free_95 : decode cX10_free 95 = .ok (.lrem, 1) := by decide +kernel
theorem dX10_free_96 : decode cX10_free 96 = .ok (.l2i, 1) := by decide +kernel
theorem dX10_free_97 : decode cX10_free 97 = .ok (.bipush 40, 2) := by decide +kernel
theorem dX10_free_99 : decode cX10_free 99 = .ok (.idiv, 1) := by decide +kernel
theorem dX10_free_100 : decode cX10_free 100 = .ok (.istore 8, 2) := by decide +kernel
theorem dX10_free_102 : decode cX10_free 102 = .ok (.iload 7, 2) := by decide +kernel
theorem dX10_free_104 : decode cX10_free 104 = .ok (.iload 5, 2) := by decide +kernel
theorem dX10_free_106 : decode cX10_free 106 = .ok (.iload_n 3, 1) := by decide +kernel
theorem dX10_free_107 : decode cX10_free 107 = .ok (.iadd, 1) := by decide +kernel
theorem dX10_free_108 : decode cX10_free 108 = .ok (.if_icmp .ge 26, 3) := by decide +kernel
theorem dX10_free_111 : decode cX10_free 111 = .ok (.iload 5, 2) := by decide +kernel
theorem dX10_free_113 : decode cX10_free 113 = .ok (.iload 7, 2) := by decide +kernel
theorem dX10_free_115 : decode cX10_free 115 = .ok (.aload_n 0, 1) := by decide +kernel
theorem dX10_free_116 : decode cX10_free 116 = .ok (.getfield 12, 3) := by decide +kernel
theorem dX10_free_119 : decode cX10_free 119 = .ok (.getfield 269, 3) := by decide +kernel
theorem dX10_free_122 : decode cX10_free 122 = .ok (.iload 8, 2) := by decide +kernel
theorem dX10_free_124 : decode cX10_free 124 = .ok (.aaload, 1) := by decide +kernel
theorem dX10_free_125 : decode cX10_free 125 = .ok (.getfield 320, 3) := by decide +kernel
theorem dX10_free_128 : decode cX10_free 128 = .ok (.iadd, 1) := by decide +kernel
theorem dX10_free_129 : decode cX10_free 129 = .ok (.invokestatic 375, 3) := by decide +kernel
theorem dX10_free_132 : decode cX10_free 132 = .ok (.istore 5, 2) := by decide +kernel
theorem dX10_free_134 : decode cX10_free 134 = .ok (.iinc 6 1, 3) := by decide +kernel
theorem dX10_free_137 : decode cX10_free 137 = .ok (.goto (-77), 3) := by decide +kernel
theorem dX10_free_140 : decode cX10_free 140 = .ok (.iload 5, 2) := by decide +kernel
theorem dX10_free_142 : decode cX10_free 142 = .ok (.iload_n 3, 1) := by decide +kernel
theorem dX10_free_143 : decode cX10_free 143 = .ok (.iadd, 1) := by decide +kernel
theorem dX10_free_144 : decode cX10_free 144 = .ok (.iload_n 2, 1) := by decide +kernel
theorem dX10_free_145 : decode cX10_free 145 = .ok (.if_icmp .gt 7, 3) := by decide +kernel
theorem dX10_free_148 : decode cX10_free 148 = .ok (.iconst 1, 1) := by decide +kernel
theorem dX10_free_149 : decode cX10_free 149 = .ok (.goto 4, 3) := by decide +kernel
theorem dX10_free_152 : decode cX10_free 152 = .ok (.iconst 0, 1) := by decide +kernel
theorem dX10_free_153 : decode cX10_free 153 = .ok (.invokestatic 184, 3) := by decide +kernel
theorem dX10_free_156 : decode cX10_free 156 = .ok (.iload 5, 2) := by decide +kernel
theorem dX10_free_158 : decode cX10_free 158 = .ok (.ireturn, 1) := by decide +kernel
theorem dX10_append_0 : decode cX10_append 0 = .ok (.iconst 0, 1) := by decide +kernel
theorem dX10_append_1 : decode cX10_append 1 = .ok (.istore_n 2, 1) := by decide +kernel
theorem dX10_append_2 : decode cX10_append 2 = .ok (.bipush 24, 2) := by decide +kernel
theorem dX10_append_4 : decode cX10_append 4 = .ok (.istore_n 3, 1) := by decide +kernel
theorem dX10_append_5 : decode cX10_append 5 = .ok (.iload_n 3, 1) := by decide +kernel
theorem dX10_append_6 : decode cX10_append 6 = .ok (.ifCond .lt 58, 3) := by decide +kernel
theorem dX10_append_9 : decode cX10_append 9 = .ok (.iload_n 1, 1) := by decide +kernel
theorem dX10_append_10 : decode cX10_append 10 = .ok (.iload_n 3, 1) := by decide +kernel
theorem dX10_append_11 : decode cX10_append 11 = .ok (.ishr, 1) := by decide +kernel
theorem dX10_append_12 : decode cX10_append 12 = .ok (.sipush 255, 3) := by decide +kernel
theorem dX10_append_15 : decode cX10_append 15 = .ok (.iand, 1) := by decide +kernel
theorem dX10_append_16 : decode cX10_append 16 = .ok (.istore 4, 2) := by decide +kernel
theorem dX10_append_18 : decode cX10_append 18 = .ok (.iload 4, 2) := by decide +kernel
theorem dX10_append_20 : decode cX10_append 20 = .ok (.ifCond .eq 17, 3) := by decide +kernel
theorem dX10_append_23 : decode cX10_append 23 = .ok (.iload 4, 2) := by decide +kernel
theorem dX10_append_25 : decode cX10_append 25 = .ok (.bipush 33, 2) := by decide +kernel
theorem dX10_append_27 : decode cX10_append 27 = .ok (.if_icmp .lt 14, 3) := by decide +kernel
theorem dX10_append_30 : decode cX10_append 30 = .ok (.iload 4, 2) := by decide +kernel
theorem dX10_append_32 : decode cX10_append 32 = .ok (.bipush 126, 2) := by decide +kernel
theorem dX10_append_34 : decode cX10_append 34 = .ok (.if_icmp .gt 7, 3) := by decide +kernel
theorem dX10_append_37 : decode cX10_append 37 = .ok (.iconst 1, 1) := by decide +kernel
theorem dX10_append_38 : decode cX10_append 38 = .ok (.goto 4, 3) := by decide +kernel
theorem dX10_append_41 : decode cX10_append 41 = .ok (.iconst 0, 1) := by decide +kernel
theorem dX10_append_42 : decode cX10_append 42 = .ok (.invokestatic 72, 3) := by decide +kernel
theorem dX10_append_45 : decode cX10_append 45 = .ok (.iload_n 2, 1) := by decide +kernel
theorem dX10_append_46 : decode cX10_append 46 = .ok (.iload 4, 2) := by decide +kernel
theorem dX10_append_48 : decode cX10_append 48 = .ok (.ifCond .ne 7, 3) := by decide +kernel
theorem dX10_append_51 : decode cX10_append 51 = .ok (.iconst 0, 1) := by decide +kernel
theorem dX10_append_52 : decode cX10_append 52 = .ok (.goto 4, 3) := by decide +kernel
theorem dX10_append_55 : decode cX10_append 55 = .ok (.iconst 1, 1) := by decide +kernel
theorem dX10_append_56 : decode cX10_append 56 = .ok (.iadd, 1) := by decide +kernel
theorem dX10_append_57 : decode cX10_append 57 = .ok (.istore_n 2, 1) := by decide +kernel
theorem dX10_append_58 : decode cX10_append 58 = .ok (.iinc 3 (-8), 3) := by decide +kernel
theorem dX10_append_61 : decode cX10_append 61 = .ok (.goto (-56), 3) := by decide +kernel
theorem dX10_append_64 : decode cX10_append 64 = .ok (.aload_n 0, 1) := by decide +kernel
theorem dX10_append_65 : decode cX10_append 65 = .ok (.getfield 47, 3) := by decide +kernel
theorem dX10_append_68 : decode cX10_append 68 = .ok (.getfield 378, 3) := by decide +kernel
theorem dX10_append_71 : decode cX10_append 71 = .ok (.iload_n 2, 1) := by decide +kernel
theorem dX10_append_72 : decode cX10_append 72 = .ok (.iadd, 1) := by decide +kernel
theorem dX10_append_73 : decode cX10_append 73 = .ok (.bipush 60, 2) := by decide +kernel
theorem dX10_append_75 : decode cX10_append 75 = .ok (.if_icmp .gt 7, 3) := by decide +kernel
theorem dX10_append_78 : decode cX10_append 78 = .ok (.iconst 0, 1) := by decide +kernel
theorem dX10_append_79 : decode cX10_append 79 = .ok (.goto 4, 3) := by decide +kernel
theorem dX10_append_82 : decode cX10_append 82 = .ok (.iconst 3, 1) := by decide +kernel
theorem dX10_append_83 : decode cX10_append 83 = .ok (.invokestatic 107, 3) := by decide +kernel
theorem dX10_append_86 : decode cX10_append 86 = .ok (.bipush 24, 2) := by decide +kernel
theorem dX10_append_88 : decode cX10_append 88 = .ok (.istore_n 3, 1) := by decide +kernel
theorem dX10_append_89 : decode cX10_append 89 = .ok (.iload_n 3, 1) := by decide +kernel
theorem dX10_append_90 : decode cX10_append 90 = .ok (.ifCond .lt 24, 3) := by decide +kernel
theorem dX10_append_93 : decode cX10_append 93 = .ok (.aload_n 0, 1) := by decide +kernel
theorem dX10_append_94 : decode cX10_append 94 = .ok (.getfield 47, 3) := by decide +kernel
theorem dX10_append_97 : decode cX10_append 97 = .ok (.iload_n 1, 1) := by decide +kernel
theorem dX10_append_98 : decode cX10_append 98 = .ok (.iload_n 3, 1) := by decide +kernel
theorem dX10_append_99 : decode cX10_append 99 = .ok (.ishr, 1) := by decide +kernel
theorem dX10_append_100 : decode cX10_append 100 = .ok (.sipush 255, 3) := by decide +kernel
theorem dX10_append_103 : decode cX10_append 103 = .ok (.iand, 1) := by decide +kernel
theorem dX10_append_104 : decode cX10_append 104 = .ok (.i2c, 1) := by decide +kernel
theorem dX10_append_105 : decode cX10_append 105 = .ok (.invokevirtual 381, 3) := by decide +kernel
theorem dX10_append_108 : decode cX10_append 108 = .ok (.iinc 3 (-8), 3) := by decide +kernel
theorem dX10_append_111 : decode cX10_append 111 = .ok (.goto (-22), 3) := by decide +kernel
theorem dX10_append_114 : decode cX10_append 114 = .ok (.aload_n 0, 1) := by decide +kernel
theorem dX10_append_115 : decode cX10_append 115 = .ok (.getfield 47, 3) := by decide +kernel
theorem dX10_append_118 : decode cX10_append 118 = .ok (.getfield 378, 3) := by decide +kernel
theorem dX10_append_121 : decode cX10_append 121 = .ok (.ireturn, 1) := by decide +kernel
theorem dX10_run_0 : decode cX10_run 0 = .ok (.aload_n 0, 1) := by decide +kernel
theorem dX10_run_1 : decode cX10_run 1 = .ok (.getfield 47, 3) := by decide +kernel
theorem dX10_run_4 : decode cX10_run 4 = .ok (.invokevirtual 385, 3) := by decide +kernel
theorem dX10_run_7 : decode cX10_run 7 = .ok (.istore_n 1, 1) := by decide +kernel
theorem dX10_run_8 : decode cX10_run 8 = .ok (.aload_n 0, 1) := by decide +kernel
theorem dX10_run_9 : decode cX10_run 9 = .ok (.getfield 47, 3) := by decide +kernel
theorem dX10_run_12 : decode cX10_run 12 = .ok (.iconst 0, 1) := by decide +kernel
theorem dX10_run_13 : decode cX10_run 13 = .ok (.putfield 378, 3) := by decide +kernel
theorem dX10_run_16 : decode cX10_run 16 = .ok (.iload_n 1, 1) := by decide +kernel
theorem dX10_run_17 : decode cX10_run 17 = .ok (.invokestatic 72, 3) := by decide +kernel
theorem dX10_run_20 : decode cX10_run 20 = .ok (.aload_n 0, 1) := by decide +kernel
theorem dX10_run_21 : decode cX10_run 21 = .ok (.getfield 19, 3) := by decide +kernel
theorem dX10_run_24 : decode cX10_run 24 = .ok (.aload_n 0, 1) := by decide +kernel
theorem dX10_run_25 : decode cX10_run 25 = .ok (.getfield 12, 3) := by decide +kernel
theorem dX10_run_28 : decode cX10_run 28 = .ok (.invokevirtual 389, 3) := by decide +kernel
theorem dX10_run_31 : decode cX10_run 31 = .ok (.iconst 0, 1) := by decide +kernel
theorem dX10_run_32 : decode cX10_run 32 = .ok (.istore_n 2, 1) := by decide +kernel
theorem dX10_run_33 : decode cX10_run 33 = .ok (.iload_n 2, 1) := by decide +kernel
theorem dX10_run_34 : decode cX10_run 34 = .ok (.aload_n 0, 1) := by decide +kernel
theorem dX10_run_35 : decode cX10_run 35 = .ok (.getfield 47, 3) := by decide +kernel
theorem dX10_run_38 : decode cX10_run 38 = .ok (.getfield 393, 3) := by decide +kernel
theorem dX10_run_41 : decode cX10_run 41 = .ok (.if_icmp .ge 17, 3) := by decide +kernel
theorem dX10_run_44 : decode cX10_run 44 = .ok (.aload_n 0, 1) := by decide +kernel
theorem dX10_run_45 : decode cX10_run 45 = .ok (.iload_n 2, 1) := by decide +kernel
theorem dX10_run_46 : decode cX10_run 46 = .ok (.invokevirtual 396, 3) := by decide +kernel
theorem dX10_run_49 : decode cX10_run 49 = .ok (.ifCond .eq 9, 3) := by decide +kernel
theorem dX10_run_52 : decode cX10_run 52 = .ok (.iinc 2 1, 3) := by decide +kernel
theorem dX10_run_55 : decode cX10_run 55 = .ok (.goto (-22), 3) := by decide +kernel
theorem dX10_run_58 : decode cX10_run 58 = .ok (.iload_n 2, 1) := by decide +kernel
theorem dX10_run_59 : decode cX10_run 59 = .ok (.aload_n 0, 1) := by decide +kernel
theorem dX10_run_60 : decode cX10_run 60 = .ok (.getfield 47, 3) := by decide +kernel
theorem dX10_run_63 : decode cX10_run 63 = .ok (.getfield 393, 3) := by decide +kernel
theorem dX10_run_66 : decode cX10_run 66 = .ok (.if_icmp .ge 44, 3) := by decide +kernel
theorem dX10_run_69 : decode cX10_run 69 = .ok (.aload_n 0, 1) := by decide +kernel
theorem dX10_run_70 : decode cX10_run 70 = .ok (.getfield 47, 3) := by decide +kernel
theorem dX10_run_73 : decode cX10_run 73 = .ok (.aload_n 0, 1) := by decide +kernel
theorem dX10_run_74 : decode cX10_run 74 = .ok (.getfield 47, 3) := by decide +kernel
theorem dX10_run_77 : decode cX10_run 77 = .ok (.iload_n 2, 1) := by decide +kernel
theorem dX10_run_78 : decode cX10_run 78 = .ok (.invokevirtual 399, 3) := by decide +kernel
theorem dX10_run_81 : decode cX10_run 81 = .ok (.putfield 402, 3) := by decide +kernel
theorem dX10_run_84 : decode cX10_run 84 = .ok (.aload_n 0, 1) := by decide +kernel
theorem dX10_run_85 : decode cX10_run 85 = .ok (.getfield 19, 3) := by decide +kernel
theorem dX10_run_88 : decode cX10_run 88 = .ok (.aload_n 0, 1) := by decide +kernel
theorem dX10_run_89 : decode cX10_run 89 = .ok (.getfield 12, 3) := by decide +kernel
theorem dX10_run_92 : decode cX10_run 92 = .ok (.invokevirtual 405, 3) := by decide +kernel
theorem dX10_run_95 : decode cX10_run 95 = .ok (.aload_n 0, 1) := by decide +kernel
theorem dX10_run_96 : decode cX10_run 96 = .ok (.invokevirtual 408, 3) := by decide +kernel
theorem dX10_run_99 : decode cX10_run 99 = .ok (.new 411, 3) := by decide +kernel
theorem dX10_run_102 : decode cX10_run 102 = .ok (.dup, 1) := by decide +kernel
theorem dX10_run_103 : decode cX10_run 103 = .ok (.ldc_w 413, 3) := by decide +kernel
theorem dX10_run_106 : decode cX10_run 106 = .ok (.invokespecial 415, 3) := by decide +kernel
theorem dX10_run_109 : decode cX10_run 109 = .ok (.athrow, 1) := by decide +kernel
theorem dX10_run_110 : decode cX10_run 110 = .ok (.aload_n 0, 1) := by decide +kernel
theorem dX10_run_111 : decode cX10_run 111 = .ok (.getfield 19, 3) := by decide +kernel
theorem dX10_run_114 : decode cX10_run 114 = .ok (.invokevirtual 418, 3) := by decide +kernel
theorem dX10_run_117 : decode cX10_run 117 = .ok (.iload_n 2, 1) := by decide +kernel
theorem dX10_run_118 : decode cX10_run 118 = .ok (.ireturn, 1) := by decide +kernel
theorem dX10_errorPosition_0 : decode cX10_errorPosition 0 = .ok (.aload_n 0, 1) := by decide +kernel
theorem dX10_errorPosition_1 : decode cX10_errorPosition 1 = .ok (.getfield 47, 3) := by decide +kernel
theorem dX10_errorPosition_4 : decode cX10_errorPosition 4 = .ok (.getfield 402, 3) := by decide +kernel
theorem dX10_errorPosition_7 : decode cX10_errorPosition 7 = .ok (.ireturn, 1) := by decide +kernel
theorem dX10_write_0 : decode cX10_write 0 = .ok (.aload_n 0, 1) := by decide +kernel
theorem dX10_write_1 : decode cX10_write 1 = .ok (.iload_n 1, 1) := by decide +kernel
theorem dX10_write_2 : decode cX10_write 2 = .ok (.iload_n 2, 1) := by decide +kernel
theorem dX10_write_3 : decode cX10_write 3 = .ok (.invokevirtual 131, 3) := by decide +kernel
theorem dX10_write_6 : decode cX10_write 6 = .ok (.invokestatic 107, 3) := by decide +kernel
theorem dX10_write_9 : decode cX10_write 9 = .ok (.aload_n 0, 1) := by decide +kernel
theorem dX10_write_10 : decode cX10_write 10 = .ok (.getfield 54, 3) := by decide +kernel
theorem dX10_write_13 : decode cX10_write 13 = .ok (.aload_n 0, 1) := by decide +kernel
theorem dX10_write_14 : decode cX10_write 14 = .ok (.getfield 12, 3) := by decide +kernel
theorem dX10_write_17 : decode cX10_write 17 = .ok (.getfield 140, 3) := by decide +kernel
theorem dX10_write_20 : decode cX10_write 20 = .ok (.iload_n 1, 1) := by decide +kernel
theorem dX10_write_21 : decode cX10_write 21 = .ok (.aaload, 1) := by decide +kernel
theorem dX10_write_22 : decode cX10_write 22 = .ok (.iload_n 2, 1) := by decide +kernel
theorem dX10_write_23 : decode cX10_write 23 = .ok (.invokevirtual 421, 3) := by decide +kernel
theorem dX10_write_26 : decode cX10_write 26 = .ok (.aload_n 0, 1) := by decide +kernel
theorem dX10_write_27 : decode cX10_write 27 = .ok (.getfield 54, 3) := by decide +kernel
theorem dX10_write_30 : decode cX10_write 30 = .ok (.getfield 425, 3) := by decide +kernel
theorem dX10_write_33 : decode cX10_write 33 = .ok (.ireturn, 1) := by decide +kernel
theorem dX10_character_0 : decode cX10_character 0 = .ok (.iload_n 1, 1) := by decide +kernel
theorem dX10_character_1 : decode cX10_character 1 = .ok (.ifCond .lt 18, 3) := by decide +kernel
theorem dX10_character_4 : decode cX10_character 4 = .ok (.iload_n 1, 1) := by decide +kernel
theorem dX10_character_5 : decode cX10_character 5 = .ok (.aload_n 0, 1) := by decide +kernel
theorem dX10_character_6 : decode cX10_character 6 = .ok (.getfield 54, 3) := by decide +kernel
theorem dX10_character_9 : decode cX10_character 9 = .ok (.getfield 425, 3) := by decide +kernel
theorem dX10_character_12 : decode cX10_character 12 = .ok (.if_icmp .ge 7, 3) := by decide +kernel
theorem dX10_character_15 : decode cX10_character 15 = .ok (.iconst 1, 1) := by decide +kernel
theorem dX10_character_16 : decode cX10_character 16 = .ok (.goto 4, 3) := by decide +kernel
theorem dX10_character_19 : decode cX10_character 19 = .ok (.iconst 0, 1) := by decide +kernel
theorem dX10_character_20 : decode cX10_character 20 = .ok (.invokestatic 88, 3) := by decide +kernel
theorem dX10_character_23 : decode cX10_character 23 = .ok (.aload_n 0, 1) := by decide +kernel
theorem dX10_character_24 : decode cX10_character 24 = .ok (.getfield 54, 3) := by decide +kernel
theorem dX10_character_27 : decode cX10_character 27 = .ok (.getfield 426, 3) := by decide +kernel
theorem dX10_character_30 : decode cX10_character 30 = .ok (.iload_n 1, 1) := by decide +kernel
theorem dX10_character_31 : decode cX10_character 31 = .ok (.caload, 1) := by decide +kernel
theorem dX10_character_32 : decode cX10_character 32 = .ok (.ireturn, 1) := by decide +kernel
theorem dX10_undo_0 : decode cX10_undo 0 = .ok (.aload_n 0, 1) := by decide +kernel
theorem dX10_undo_1 : decode cX10_undo 1 = .ok (.getfield 19, 3) := by decide +kernel
theorem dX10_undo_4 : decode cX10_undo 4 = .ok (.getfield 430, 3) := by decide +kernel
theorem dX10_undo_7 : decode cX10_undo 7 = .ok (.ifCond .le 7, 3) := by decide +kernel
theorem dX10_undo_10 : decode cX10_undo 10 = .ok (.iconst 0, 1) := by decide +kernel
theorem dX10_undo_11 : decode cX10_undo 11 = .ok (.goto 4, 3) := by decide +kernel
theorem dX10_undo_14 : decode cX10_undo 14 = .ok (.iconst 3, 1) := by decide +kernel
theorem dX10_undo_15 : decode cX10_undo 15 = .ok (.invokestatic 107, 3) := by decide +kernel
theorem dX10_undo_18 : decode cX10_undo 18 = .ok (.aload_n 0, 1) := by decide +kernel
theorem dX10_undo_19 : decode cX10_undo 19 = .ok (.getfield 19, 3) := by decide +kernel
theorem dX10_undo_22 : decode cX10_undo 22 = .ok (.aload_n 0, 1) := by decide +kernel
theorem dX10_undo_23 : decode cX10_undo 23 = .ok (.getfield 12, 3) := by decide +kernel
theorem dX10_undo_26 : decode cX10_undo 26 = .ok (.invokevirtual 431, 3) := by decide +kernel
theorem dX10_undo_29 : decode cX10_undo 29 = .ok (.aload_n 0, 1) := by decide +kernel
theorem dX10_undo_30 : decode cX10_undo 30 = .ok (.invokevirtual 408, 3) := by decide +kernel
theorem dX10_undo_33 : decode cX10_undo 33 = .ok (.aload_n 0, 1) := by decide +kernel
theorem dX10_undo_34 : decode cX10_undo 34 = .ok (.getfield 19, 3) := by decide +kernel
theorem dX10_undo_37 : decode cX10_undo 37 = .ok (.getfield 430, 3) := by decide +kernel
theorem dX10_undo_40 : decode cX10_undo 40 = .ok (.ireturn, 1) := by decide +kernel
theorem dX10_save_0 : decode cX10_save 0 = .ok (.aload_n 0, 1) := by decide +kernel
theorem dX10_save_1 : decode cX10_save 1 = .ok (.getfield 19, 3) := by decide +kernel
theorem dX10_save_4 : decode cX10_save 4 = .ok (.getfield 434, 3) := by decide +kernel
theorem dX10_save_7 : decode cX10_save 7 = .ok (.aload_n 0, 1) := by decide +kernel
theorem dX10_save_8 : decode cX10_save 8 = .ok (.getfield 12, 3) := by decide +kernel
theorem dX10_save_11 : decode cX10_save 11 = .ok (.invokevirtual 437, 3) := by decide +kernel
theorem dX10_save_14 : decode cX10_save 14 = .ok (.aload_n 0, 1) := by decide +kernel
theorem dX10_save_15 : decode cX10_save 15 = .ok (.getfield 19, 3) := by decide +kernel
theorem dX10_save_18 : decode cX10_save 18 = .ok (.iconst 1, 1) := by decide +kernel
theorem dX10_save_19 : decode cX10_save 19 = .ok (.putfield 440, 3) := by decide +kernel
theorem dX10_save_22 : decode cX10_save 22 = .ok (.aload_n 0, 1) := by decide +kernel
theorem dX10_save_23 : decode cX10_save 23 = .ok (.getfield 12, 3) := by decide +kernel
theorem dX10_save_26 : decode cX10_save 26 = .ok (.getfield 443, 3) := by decide +kernel
theorem dX10_save_29 : decode cX10_save 29 = .ok (.ireturn, 1) := by decide +kernel
theorem dX10_restore_0 : decode cX10_restore 0 = .ok (.aload_n 0, 1) := by decide +kernel
theorem dX10_restore_1 : decode cX10_restore 1 = .ok (.getfield 19, 3) := by decide +kernel
theorem dX10_restore_4 : decode cX10_restore 4 = .ok (.getfield 440, 3) := by decide +kernel
theorem dX10_restore_7 : decode cX10_restore 7 = .ok (.ifCond .eq 7, 3) := by decide +kernel
theorem dX10_restore_10 : decode cX10_restore 10 = .ok (.iconst 0, 1) := by decide +kernel
theorem dX10_restore_11 : decode cX10_restore 11 = .ok (.goto 4, 3) := by decide +kernel
theorem dX10_restore_14 : decode cX10_restore 14 = .ok (.iconst 3, 1) := by decide +kernel
theorem dX10_restore_15 : decode cX10_restore 15 = .ok (.invokestatic 107, 3) := by decide +kernel
theorem dX10_restore_18 : decode cX10_restore 18 = .ok (.aload_n 0, 1) := by decide +kernel
theorem dX10_restore_19 : decode cX10_restore 19 = .ok (.getfield 12, 3) := by decide +kernel
theorem dX10_restore_22 : decode cX10_restore 22 = .ok (.aload_n 0, 1) := by decide +kernel
theorem dX10_restore_23 : decode cX10_restore 23 = .ok (.getfield 19, 3) := by decide +kernel
theorem dX10_restore_26 : decode cX10_restore 26 = .ok (.getfield 434, 3) := by decide +kernel
theorem dX10_restore_29 : decode cX10_restore 29 = .ok (.invokevirtual 437, 3) := by decide +kernel
theorem dX10_restore_32 : decode cX10_restore 32 = .ok (.aload_n 0, 1) := by decide +kernel
theorem dX10_restore_33 : decode cX10_restore 33 = .ok (.getfield 19, 3) := by decide +kernel
theorem dX10_restore_36 : decode cX10_restore 36 = .ok (.iconst 0, 1) := by decide +kernel
theorem dX10_restore_37 : decode cX10_restore 37 = .ok (.putfield 430, 3) := by decide +kernel
theorem dX10_restore_40 : decode cX10_restore 40 = .ok (.aload_n 0, 1) := by decide +kernel
theorem dX10_restore_41 : decode cX10_restore 41 = .ok (.invokevirtual 408, 3) := by decide +kernel
theorem dX10_restore_44 : decode cX10_restore 44 = .ok (.aload_n 0, 1) := by decide +kernel
theorem dX10_restore_45 : decode cX10_restore 45 = .ok (.getfield 12, 3) := by decide +kernel
theorem dX10_restore_48 : decode cX10_restore 48 = .ok (.getfield 443, 3) := by decide +kernel
theorem dX10_restore_51 : decode cX10_restore 51 = .ok (.ireturn, 1) := by decide +kernel
theorem dX10_count_0 : decode cX10_count 0 = .ok (.iload_n 1, 1) := by decide +kernel
theorem dX10_count_1 : decode cX10_count 1 = .ok (.ifCond .lt 12, 3) := by decide +kernel
theorem dX10_count_4 : decode cX10_count 4 = .ok (.iload_n 1, 1) := by decide +kernel
theorem dX10_count_5 : decode cX10_count 5 = .ok (.iconst 5, 1) := by decide +kernel
theorem dX10_count_6 : decode cX10_count 6 = .ok (.if_icmp .gt 7, 3) := by decide +kernel
theorem dX10_count_9 : decode cX10_count 9 = .ok (.iconst 1, 1) := by decide +kernel
theorem dX10_count_10 : decode cX10_count 10 = .ok (.goto 4, 3) := by decide +kernel
theorem dX10_count_13 : decode cX10_count 13 = .ok (.iconst 0, 1) := by decide +kernel
theorem dX10_count_14 : decode cX10_count 14 = .ok (.invokestatic 72, 3) := by decide +kernel
theorem dX10_count_17 : decode cX10_count 17 = .ok (.iload_n 1, 1) := by decide +kernel
theorem dX10_count_18 : decode cX10_count 18 = .ok (.tableswitch 68 0 4 #[34, 42, 50, 55, 60], 34) := by decide +kernel
theorem dX10_count_52 : decode cX10_count 52 = .ok (.aload_n 0, 1) := by decide +kernel
theorem dX10_count_53 : decode cX10_count 53 = .ok (.getfield 12, 3) := by decide +kernel
theorem dX10_count_56 : decode cX10_count 56 = .ok (.getfield 443, 3) := by decide +kernel
theorem dX10_count_59 : decode cX10_count 59 = .ok (.ireturn, 1) := by decide +kernel
theorem dX10_count_60 : decode cX10_count 60 = .ok (.aload_n 0, 1) := by decide +kernel
theorem dX10_count_61 : decode cX10_count 61 = .ok (.getfield 12, 3) := by decide +kernel
theorem dX10_count_64 : decode cX10_count 64 = .ok (.getfield 266, 3) := by decide +kernel
theorem dX10_count_67 : decode cX10_count 67 = .ok (.ireturn, 1) := by decide +kernel
theorem dX10_count_68 : decode cX10_count 68 = .ok (.aload_n 0, 1) := by decide +kernel
theorem dX10_count_69 : decode cX10_count 69 = .ok (.invokevirtual 446, 3) := by decide +kernel
theorem dX10_count_72 : decode cX10_count 72 = .ok (.ireturn, 1) := by decide +kernel
theorem dX10_count_73 : decode cX10_count 73 = .ok (.aload_n 0, 1) := by decide +kernel
theorem dX10_count_74 : decode cX10_count 74 = .ok (.invokevirtual 450, 3) := by decide +kernel
theorem dX10_count_77 : decode cX10_count 77 = .ok (.ireturn, 1) := by decide +kernel
theorem dX10_count_78 : decode cX10_count 78 = .ok (.aload_n 0, 1) := by decide +kernel
theorem dX10_count_79 : decode cX10_count 79 = .ok (.getfield 19, 3) := by decide +kernel
theorem dX10_count_82 : decode cX10_count 82 = .ok (.getfield 430, 3) := by decide +kernel
theorem dX10_count_85 : decode cX10_count 85 = .ok (.ireturn, 1) := by decide +kernel
theorem dX10_count_86 : decode cX10_count 86 = .ok (.aload_n 0, 1) := by decide +kernel
theorem dX10_count_87 : decode cX10_count 87 = .ok (.getfield 47, 3) := by decide +kernel
theorem dX10_count_90 : decode cX10_count 90 = .ok (.getfield 378, 3) := by decide +kernel
theorem dX10_count_93 : decode cX10_count 93 = .ok (.ireturn, 1) := by decide +kernel
theorem dX10_refuse_0 : decode cX10_refuse 0 = .ok (.iload_n 0, 1) := by decide +kernel
theorem dX10_refuse_1 : decode cX10_refuse 1 = .ok (.iconst 1, 1) := by decide +kernel
theorem dX10_refuse_2 : decode cX10_refuse 2 = .ok (.if_icmp .eq 7, 3) := by decide +kernel
theorem dX10_refuse_5 : decode cX10_refuse 5 = .ok (.iconst 1, 1) := by decide +kernel
theorem dX10_refuse_6 : decode cX10_refuse 6 = .ok (.goto 4, 3) := by decide +kernel
theorem dX10_refuse_9 : decode cX10_refuse 9 = .ok (.iconst 0, 1) := by decide +kernel
theorem dX10_refuse_10 : decode cX10_refuse 10 = .ok (.invokestatic 88, 3) := by decide +kernel
theorem dX10_refuse_13 : decode cX10_refuse 13 = .ok (.iload_n 0, 1) := by decide +kernel
theorem dX10_refuse_14 : decode cX10_refuse 14 = .ok (.iconst 2, 1) := by decide +kernel
theorem dX10_refuse_15 : decode cX10_refuse 15 = .ok (.if_icmp .eq 7, 3) := by decide +kernel
theorem dX10_refuse_18 : decode cX10_refuse 18 = .ok (.iconst 1, 1) := by decide +kernel
theorem dX10_refuse_19 : decode cX10_refuse 19 = .ok (.goto 4, 3) := by decide +kernel
theorem dX10_refuse_22 : decode cX10_refuse 22 = .ok (.iconst 0, 1) := by decide +kernel
theorem dX10_refuse_23 : decode cX10_refuse 23 = .ok (.invokestatic 72, 3) := by decide +kernel
theorem dX10_refuse_26 : decode cX10_refuse 26 = .ok (.iload_n 0, 1) := by decide +kernel
theorem dX10_refuse_27 : decode cX10_refuse 27 = .ok (.iconst 3, 1) := by decide +kernel
theorem dX10_refuse_28 : decode cX10_refuse 28 = .ok (.if_icmp .ne 14, 3) := by decide +kernel
theorem dX10_refuse_31 : decode cX10_refuse 31 = .ok (.new 411, 3) := by decide +kernel
theorem dX10_refuse_34 : decode cX10_refuse 34 = .ok (.dup, 1) := by decide +kernel
theorem dX10_refuse_35 : decode cX10_refuse 35 = .ok (.ldc_w 452, 3) := by decide +kernel
theorem dX10_refuse_38 : decode cX10_refuse 38 = .ok (.invokespecial 415, 3) := by decide +kernel
theorem dX10_refuse_41 : decode cX10_refuse 41 = .ok (.athrow, 1) := by decide +kernel
theorem dX10_refuse_42 : decode cX10_refuse 42 = .ok (.return_, 1) := by decide +kernel
theorem dX10_needIndex_0 : decode cX10_needIndex 0 = .ok (.iload_n 0, 1) := by decide +kernel
theorem dX10_needIndex_1 : decode cX10_needIndex 1 = .ok (.ifCond .ne 14, 3) := by decide +kernel
theorem dX10_needIndex_4 : decode cX10_needIndex 4 = .ok (.new 454, 3) := by decide +kernel
theorem dX10_needIndex_7 : decode cX10_needIndex 7 = .ok (.dup, 1) := by decide +kernel
theorem dX10_needIndex_8 : decode cX10_needIndex 8 = .ok (.ldc_w 456, 3) := by decide +kernel
theorem dX10_needIndex_11 : decode cX10_needIndex 11 = .ok (.invokespecial 458, 3) := by decide +kernel
theorem dX10_needIndex_14 : decode cX10_needIndex 14 = .ok (.athrow, 1) := by decide +kernel
theorem dX10_needIndex_15 : decode cX10_needIndex 15 = .ok (.return_, 1) := by decide +kernel
theorem dX10_needArgument_0 : decode cX10_needArgument 0 = .ok (.iload_n 0, 1) := by decide +kernel
theorem dX10_needArgument_1 : decode cX10_needArgument 1 = .ok (.ifCond .ne 14, 3) := by decide +kernel
theorem dX10_needArgument_4 : decode cX10_needArgument 4 = .ok (.new 459, 3) := by decide +kernel
theorem dX10_needArgument_7 : decode cX10_needArgument 7 = .ok (.dup, 1) := by decide +kernel
theorem dX10_needArgument_8 : decode cX10_needArgument 8 = .ok (.ldc_w 461, 3) := by decide +kernel
theorem dX10_needArgument_11 : decode cX10_needArgument 11 = .ok (.invokespecial 463, 3) := by decide +kernel
theorem dX10_needArgument_14 : decode cX10_needArgument 14 = .ok (.athrow, 1) := by decide +kernel
theorem dX10_needArgument_15 : decode cX10_needArgument 15 = .ok (.return_, 1) := by decide +kernel
theorem dX10_needElement_0 : decode cX10_needElement 0 = .ok (.iload_n 0, 1) := by decide +kernel
theorem dX10_needElement_1 : decode cX10_needElement 1 = .ok (.ifCond .ne 14, 3) := by decide +kernel
theorem dX10_needElement_4 : decode cX10_needElement 4 = .ok (.new 464, 3) := by decide +kernel
theorem dX10_needElement_7 : decode cX10_needElement 7 = .ok (.dup, 1) := by decide +kernel
theorem dX10_needElement_8 : decode cX10_needElement 8 = .ok (.ldc_w 466, 3) := by decide +kernel
theorem dX10_needElement_11 : decode cX10_needElement 11 = .ok (.invokespecial 468, 3) := by decide +kernel
theorem dX10_needElement_14 : decode cX10_needElement 14 = .ok (.athrow, 1) := by decide +kernel
theorem dX10_needElement_15 : decode cX10_needElement 15 = .ok (.return_, 1) := by decide +kernel
theorem dX10_needInstant_0 : decode cX10_needInstant 0 = .ok (.iload_n 0, 1) := by decide +kernel
theorem dX10_needInstant_1 : decode cX10_needInstant 1 = .ok (.ldc_w 469, 3) := by decide +kernel
theorem dX10_needInstant_4 : decode cX10_needInstant 4 = .ok (.if_icmp .ne 14, 3) := by decide +kernel
theorem dX10_needInstant_7 : decode cX10_needInstant 7 = .ok (.new 470, 3) := by decide +kernel
theorem dX10_needInstant_10 : decode cX10_needInstant 10 = .ok (.dup, 1) := by decide +kernel
theorem dX10_needInstant_11 : decode cX10_needInstant 11 = .ok (.ldc_w 472, 3) := by decide +kernel
theorem dX10_needInstant_14 : decode cX10_needInstant 14 = .ok (.invokespecial 474, 3) := by decide +kernel
theorem dX10_needInstant_17 : decode cX10_needInstant 17 = .ok (.athrow, 1) := by decide +kernel
theorem dX10_needInstant_18 : decode cX10_needInstant 18 = .ok (.iload_n 0, 1) := by decide +kernel
theorem dX10_needInstant_19 : decode cX10_needInstant 19 = .ok (.ireturn, 1) := by decide +kernel
theorem dX10_needZone_0 : decode cX10_needZone 0 = .ok (.aload_n 0, 1) := by decide +kernel
theorem dX10_needZone_1 : decode cX10_needZone 1 = .ok (.iload_n 1, 1) := by decide +kernel
theorem dX10_needZone_2 : decode cX10_needZone 2 = .ok (.invokevirtual 475, 3) := by decide +kernel
theorem dX10_needZone_5 : decode cX10_needZone 5 = .ok (.invokestatic 88, 3) := by decide +kernel
theorem dX10_needZone_8 : decode cX10_needZone 8 = .ok (.return_, 1) := by decide +kernel
theorem dX10_needMeeting_0 : decode cX10_needMeeting 0 = .ok (.iload_n 1, 1) := by decide +kernel
theorem dX10_needMeeting_1 : decode cX10_needMeeting 1 = .ok (.ifCond .lt 18, 3) := by decide +kernel
theorem dX10_needMeeting_4 : decode cX10_needMeeting 4 = .ok (.iload_n 1, 1) := by decide +kernel
theorem dX10_needMeeting_5 : decode cX10_needMeeting 5 = .ok (.aload_n 0, 1) := by decide +kernel
theorem dX10_needMeeting_6 : decode cX10_needMeeting 6 = .ok (.getfield 12, 3) := by decide +kernel
theorem dX10_needMeeting_9 : decode cX10_needMeeting 9 = .ok (.getfield 266, 3) := by decide +kernel
theorem dX10_needMeeting_12 : decode cX10_needMeeting 12 = .ok (.if_icmp .ge 7, 3) := by decide +kernel
theorem dX10_needMeeting_15 : decode cX10_needMeeting 15 = .ok (.iconst 1, 1) := by decide +kernel
theorem dX10_needMeeting_16 : decode cX10_needMeeting 16 = .ok (.goto 4, 3) := by decide +kernel
theorem dX10_needMeeting_19 : decode cX10_needMeeting 19 = .ok (.iconst 0, 1) := by decide +kernel
theorem dX10_needMeeting_20 : decode cX10_needMeeting 20 = .ok (.invokestatic 88, 3) := by decide +kernel
theorem dX10_needMeeting_23 : decode cX10_needMeeting 23 = .ok (.return_, 1) := by decide +kernel
theorem dX10_hasZone_0 : decode cX10_hasZone 0 = .ok (.iload_n 1, 1) := by decide +kernel
theorem dX10_hasZone_1 : decode cX10_hasZone 1 = .ok (.ifCond .lt 18, 3) := by decide +kernel
theorem dX10_hasZone_4 : decode cX10_hasZone 4 = .ok (.iload_n 1, 1) := by decide +kernel
theorem dX10_hasZone_5 : decode cX10_hasZone 5 = .ok (.aload_n 0, 1) := by decide +kernel
theorem dX10_hasZone_6 : decode cX10_hasZone 6 = .ok (.getfield 12, 3) := by decide +kernel
theorem dX10_hasZone_9 : decode cX10_hasZone 9 = .ok (.getfield 443, 3) := by decide +kernel
theorem dX10_hasZone_12 : decode cX10_hasZone 12 = .ok (.if_icmp .ge 7, 3) := by decide +kernel
theorem dX10_hasZone_15 : decode cX10_hasZone 15 = .ok (.iconst 1, 1) := by decide +kernel
theorem dX10_hasZone_16 : decode cX10_hasZone 16 = .ok (.goto 4, 3) := by decide +kernel
theorem dX10_hasZone_19 : decode cX10_hasZone 19 = .ok (.iconst 0, 1) := by decide +kernel
theorem dX10_hasZone_20 : decode cX10_hasZone 20 = .ok (.ireturn, 1) := by decide +kernel
theorem dX10_isYear_0 : decode cX10_isYear 0 = .ok (.iload_n 0, 1) := by decide +kernel
theorem dX10_isYear_1 : decode cX10_isYear 1 = .ok (.ifCond .lt 13, 3) := by decide +kernel
theorem dX10_isYear_4 : decode cX10_isYear 4 = .ok (.iload_n 0, 1) := by decide +kernel
theorem dX10_isYear_5 : decode cX10_isYear 5 = .ok (.bipush 32, 2) := by decide +kernel
theorem dX10_isYear_7 : decode cX10_isYear 7 = .ok (.if_icmp .ge 7, 3) := by decide +kernel
theorem dX10_isYear_10 : decode cX10_isYear 10 = .ok (.iconst 1, 1) := by decide +kernel
theorem dX10_isYear_11 : decode cX10_isYear 11 = .ok (.goto 4, 3) := by decide +kernel
theorem dX10_isYear_14 : decode cX10_isYear 14 = .ok (.iconst 0, 1) := by decide +kernel
theorem dX10_isYear_15 : decode cX10_isYear 15 = .ok (.ireturn, 1) := by decide +kernel
theorem dX10_isMonth_0 : decode cX10_isMonth 0 = .ok (.iload_n 0, 1) := by decide +kernel
theorem dX10_isMonth_1 : decode cX10_isMonth 1 = .ok (.iconst 1, 1) := by decide +kernel
theorem dX10_isMonth_2 : decode cX10_isMonth 2 = .ok (.if_icmp .lt 13, 3) := by decide +kernel
theorem dX10_isMonth_5 : decode cX10_isMonth 5 = .ok (.iload_n 0, 1) := by decide +kernel
theorem dX10_isMonth_6 : decode cX10_isMonth 6 = .ok (.bipush 12, 2) := by decide +kernel
theorem dX10_isMonth_8 : decode cX10_isMonth 8 = .ok (.if_icmp .gt 7, 3) := by decide +kernel
theorem dX10_isMonth_11 : decode cX10_isMonth 11 = .ok (.iconst 1, 1) := by decide +kernel
theorem dX10_isMonth_12 : decode cX10_isMonth 12 = .ok (.goto 4, 3) := by decide +kernel
theorem dX10_isMonth_15 : decode cX10_isMonth 15 = .ok (.iconst 0, 1) := by decide +kernel
theorem dX10_isMonth_16 : decode cX10_isMonth 16 = .ok (.ireturn, 1) := by decide +kernel
theorem dX10_isDay_0 : decode cX10_isDay 0 = .ok (.iload_n 0, 1) := by decide +kernel
theorem dX10_isDay_1 : decode cX10_isDay 1 = .ok (.ifCond .lt 14, 3) := by decide +kernel
theorem dX10_isDay_4 : decode cX10_isDay 4 = .ok (.iload_n 0, 1) := by decide +kernel
theorem dX10_isDay_5 : decode cX10_isDay 5 = .ok (.sipush 11687, 3) := by decide +kernel
theorem dX10_isDay_8 : decode cX10_isDay 8 = .ok (.if_icmp .gt 7, 3) := by decide +kernel
theorem dX10_isDay_11 : decode cX10_isDay 11 = .ok (.iconst 1, 1) := by decide +kernel
theorem dX10_isDay_12 : decode cX10_isDay 12 = .ok (.goto 4, 3) := by decide +kernel
theorem dX10_isDay_15 : decode cX10_isDay 15 = .ok (.iconst 0, 1) := by decide +kernel
theorem dX10_isDay_16 : decode cX10_isDay 16 = .ok (.ireturn, 1) := by decide +kernel
theorem dX10_isLocal_0 : decode cX10_isLocal 0 = .ok (.iload_n 0, 1) := by decide +kernel
theorem dX10_isLocal_1 : decode cX10_isLocal 1 = .ok (.ifCond .lt 14, 3) := by decide +kernel
theorem dX10_isLocal_4 : decode cX10_isLocal 4 = .ok (.iload_n 0, 1) := by decide +kernel
theorem dX10_isLocal_5 : decode cX10_isLocal 5 = .ok (.ldc_w 478, 3) := by decide +kernel
theorem dX10_isLocal_8 : decode cX10_isLocal 8 = .ok (.if_icmp .ge 7, 3) := by decide +kernel
theorem dX10_isLocal_11 : decode cX10_isLocal 11 = .ok (.iconst 1, 1) := by decide +kernel
theorem dX10_isLocal_12 : decode cX10_isLocal 12 = .ok (.goto 4, 3) := by decide +kernel
theorem dX10_isLocal_15 : decode cX10_isLocal 15 = .ok (.iconst 0, 1) := by decide +kernel
theorem dX10_isLocal_16 : decode cX10_isLocal 16 = .ok (.ireturn, 1) := by decide +kernel
theorem dX10_isInstant_0 : decode cX10_isInstant 0 = .ok (.iload_n 0, 1) := by decide +kernel
theorem dX10_isInstant_1 : decode cX10_isInstant 1 = .ok (.sipush (-2000), 3) := by decide +kernel
theorem dX10_isInstant_4 : decode cX10_isInstant 4 = .ok (.if_icmp .lt 14, 3) := by decide +kernel
theorem dX10_isInstant_7 : decode cX10_isInstant 7 = .ok (.iload_n 0, 1) := by decide +kernel
theorem dX10_isInstant_8 : decode cX10_isInstant 8 = .ok (.ldc_w 479, 3) := by decide +kernel
theorem dX10_isInstant_11 : decode cX10_isInstant 11 = .ok (.if_icmp .gt 7, 3) := by decide +kernel
theorem dX10_isInstant_14 : decode cX10_isInstant 14 = .ok (.iconst 1, 1) := by decide +kernel
theorem dX10_isInstant_15 : decode cX10_isInstant 15 = .ok (.goto 4, 3) := by decide +kernel
theorem dX10_isInstant_18 : decode cX10_isInstant 18 = .ok (.iconst 0, 1) := by decide +kernel
theorem dX10_isInstant_19 : decode cX10_isInstant 19 = .ok (.ireturn, 1) := by decide +kernel
theorem dX10_isBase_0 : decode cX10_isBase 0 = .ok (.iload_n 0, 1) := by decide +kernel
theorem dX10_isBase_1 : decode cX10_isBase 1 = .ok (.sipush (-720), 3) := by decide +kernel
theorem dX10_isBase_4 : decode cX10_isBase 4 = .ok (.if_icmp .lt 14, 3) := by decide +kernel
theorem dX10_isBase_7 : decode cX10_isBase 7 = .ok (.iload_n 0, 1) := by decide +kernel
theorem dX10_isBase_8 : decode cX10_isBase 8 = .ok (.sipush 840, 3) := by decide +kernel
theorem dX10_isBase_11 : decode cX10_isBase 11 = .ok (.if_icmp .gt 7, 3) := by decide +kernel
theorem dX10_isBase_14 : decode cX10_isBase 14 = .ok (.iconst 1, 1) := by decide +kernel
theorem dX10_isBase_15 : decode cX10_isBase 15 = .ok (.goto 4, 3) := by decide +kernel
theorem dX10_isBase_18 : decode cX10_isBase 18 = .ok (.iconst 0, 1) := by decide +kernel
theorem dX10_isBase_19 : decode cX10_isBase 19 = .ok (.ireturn, 1) := by decide +kernel
theorem dX10_isMode_0 : decode cX10_isMode 0 = .ok (.iload_n 0, 1) := by decide +kernel
theorem dX10_isMode_1 : decode cX10_isMode 1 = .ok (.ifCond .lt 12, 3) := by decide +kernel
theorem dX10_isMode_4 : decode cX10_isMode 4 = .ok (.iload_n 0, 1) := by decide +kernel
theorem dX10_isMode_5 : decode cX10_isMode 5 = .ok (.iconst 3, 1) := by decide +kernel
theorem dX10_isMode_6 : decode cX10_isMode 6 = .ok (.if_icmp .gt 7, 3) := by decide +kernel
theorem dX10_isMode_9 : decode cX10_isMode 9 = .ok (.iconst 1, 1) := by decide +kernel
theorem dX10_isMode_10 : decode cX10_isMode 10 = .ok (.goto 4, 3) := by decide +kernel
theorem dX10_isMode_13 : decode cX10_isMode 13 = .ok (.iconst 0, 1) := by decide +kernel
theorem dX10_isMode_14 : decode cX10_isMode 14 = .ok (.ireturn, 1) := by decide +kernel
theorem dX10_isDate_0 : decode cX10_isDate 0 = .ok (.iload_n 0, 1) := by decide +kernel
theorem dX10_isDate_1 : decode cX10_isDate 1 = .ok (.bipush 100, 2) := by decide +kernel
theorem dX10_isDate_3 : decode cX10_isDate 3 = .ok (.if_icmp .ge 20, 3) := by decide +kernel
theorem dX10_isDate_6 : decode cX10_isDate 6 = .ok (.iload_n 0, 1) := by decide +kernel
theorem dX10_isDate_7 : decode cX10_isDate 7 = .ok (.iconst 1, 1) := by decide +kernel
theorem dX10_isDate_8 : decode cX10_isDate 8 = .ok (.if_icmp .lt 13, 3) := by decide +kernel
theorem dX10_isDate_11 : decode cX10_isDate 11 = .ok (.iload_n 0, 1) := by decide +kernel
theorem dX10_isDate_12 : decode cX10_isDate 12 = .ok (.bipush 31, 2) := by decide +kernel
theorem dX10_isDate_14 : decode cX10_isDate 14 = .ok (.if_icmp .gt 7, 3) := by decide +kernel
theorem dX10_isDate_17 : decode cX10_isDate 17 = .ok (.iconst 1, 1) := by decide +kernel
theorem dX10_isDate_18 : decode cX10_isDate 18 = .ok (.goto 4, 3) := by decide +kernel
theorem dX10_isDate_21 : decode cX10_isDate 21 = .ok (.iconst 0, 1) := by decide +kernel
theorem dX10_isDate_22 : decode cX10_isDate 22 = .ok (.ireturn, 1) := by decide +kernel
theorem dX10_isDate_23 : decode cX10_isDate 23 = .ok (.iload_n 0, 1) := by decide +kernel
theorem dX10_isDate_24 : decode cX10_isDate 24 = .ok (.sipush 1000, 3) := by decide +kernel
theorem dX10_isDate_27 : decode cX10_isDate 27 = .ok (.if_icmp .ge 26, 3) := by decide +kernel
theorem dX10_isDate_30 : decode cX10_isDate 30 = .ok (.iload_n 0, 1) := by decide +kernel
theorem dX10_isDate_31 : decode cX10_isDate 31 = .ok (.bipush 100, 2) := by decide +kernel
theorem dX10_isDate_33 : decode cX10_isDate 33 = .ok (.idiv, 1) := by decide +kernel
theorem dX10_isDate_34 : decode cX10_isDate 34 = .ok (.iconst 5, 1) := by decide +kernel
theorem dX10_isDate_35 : decode cX10_isDate 35 = .ok (.if_icmp .gt 16, 3) := by decide +kernel
theorem dX10_isDate_38 : decode cX10_isDate 38 = .ok (.iload_n 0, 1) := by decide +kernel
theorem dX10_isDate_39 : decode cX10_isDate 39 = .ok (.bipush 100, 2) := by decide +kernel
theorem dX10_isDate_41 : decode cX10_isDate 41 = .ok (.irem, 1) := by decide +kernel
theorem dX10_isDate_42 : decode cX10_isDate 42 = .ok (.bipush 6, 2) := by decide +kernel
theorem dX10_isDate_44 : decode cX10_isDate 44 = .ok (.if_icmp .gt 7, 3) := by decide +kernel
theorem dX10_isDate_47 : decode cX10_isDate 47 = .ok (.iconst 1, 1) := by decide +kernel
theorem dX10_isDate_48 : decode cX10_isDate 48 = .ok (.goto 4, 3) := by decide +kernel
theorem dX10_isDate_51 : decode cX10_isDate 51 = .ok (.iconst 0, 1) := by decide +kernel
theorem dX10_isDate_52 : decode cX10_isDate 52 = .ok (.ireturn, 1) := by decide +kernel
theorem dX10_isDate_53 : decode cX10_isDate 53 = .ok (.iload_n 0, 1) := by decide +kernel
theorem dX10_isDate_54 : decode cX10_isDate 54 = .ok (.sipush 1010, 3) := by decide +kernel
theorem dX10_isDate_57 : decode cX10_isDate 57 = .ok (.if_icmp .lt 23, 3) := by decide +kernel
theorem dX10_isDate_60 : decode cX10_isDate 60 = .ok (.iload_n 0, 1) := by decide +kernel
theorem dX10_isDate_61 : decode cX10_isDate 61 = .ok (.sipush 1316, 3) := by decide +kernel
theorem dX10_isDate_64 : decode cX10_isDate 64 = .ok (.if_icmp .gt 16, 3) := by decide +kernel
theorem dX10_isDate_67 : decode cX10_isDate 67 = .ok (.iload_n 0, 1) := by decide +kernel
theorem dX10_isDate_68 : decode cX10_isDate 68 = .ok (.bipush 10, 2) := by decide +kernel
theorem dX10_isDate_70 : decode cX10_isDate 70 = .ok (.irem, 1) := by decide +kernel
theorem dX10_isDate_71 : decode cX10_isDate 71 = .ok (.bipush 6, 2) := by decide +kernel
theorem dX10_isDate_73 : decode cX10_isDate 73 = .ok (.if_icmp .gt 7, 3) := by decide +kernel
theorem dX10_isDate_76 : decode cX10_isDate 76 = .ok (.iconst 1, 1) := by decide +kernel
theorem dX10_isDate_77 : decode cX10_isDate 77 = .ok (.goto 4, 3) := by decide +kernel
theorem dX10_isDate_80 : decode cX10_isDate 80 = .ok (.iconst 0, 1) := by decide +kernel
theorem dX10_isDate_81 : decode cX10_isDate 81 = .ok (.ireturn, 1) := by decide +kernel
theorem dX10_greatestStep_0 : decode cX10_greatestStep 0 = .ok (.iload_n 0, 1) := by decide +kernel
theorem dX10_greatestStep_1 : decode cX10_greatestStep 1 = .ok (.lookupswitch 33 #[(0, 27), (1, 30)], 27) := by decide +kernel
theorem dX10_greatestStep_28 : decode cX10_greatestStep 28 = .ok (.bipush 60, 2) := by decide +kernel
theorem dX10_greatestStep_30 : decode cX10_greatestStep 30 = .ok (.ireturn, 1) := by decide +kernel
theorem dX10_greatestStep_31 : decode cX10_greatestStep 31 = .ok (.bipush 8, 2) := by decide +kernel
theorem dX10_greatestStep_33 : decode cX10_greatestStep 33 = .ok (.ireturn, 1) := by decide +kernel
theorem dX10_greatestStep_34 : decode cX10_greatestStep 34 = .ok (.bipush 24, 2) := by decide +kernel
theorem dX10_greatestStep_36 : decode cX10_greatestStep 36 = .ok (.ireturn, 1) := by decide +kernel
theorem dX10_zoneFault_0 : decode cX10_zoneFault 0 = .ok (.iload_n 1, 1) := by decide +kernel
theorem dX10_zoneFault_1 : decode cX10_zoneFault 1 = .ok (.invokestatic 480, 3) := by decide +kernel
theorem dX10_zoneFault_4 : decode cX10_zoneFault 4 = .ok (.ifCond .ne 5, 3) := by decide +kernel
theorem dX10_zoneFault_7 : decode cX10_zoneFault 7 = .ok (.iconst 2, 1) := by decide +kernel
theorem dX10_zoneFault_8 : decode cX10_zoneFault 8 = .ok (.ireturn, 1) := by decide +kernel
theorem dX10_zoneFault_9 : decode cX10_zoneFault 9 = .ok (.aload_n 0, 1) := by decide +kernel
theorem dX10_zoneFault_10 : decode cX10_zoneFault 10 = .ok (.getfield 12, 3) := by decide +kernel
theorem dX10_zoneFault_13 : decode cX10_zoneFault 13 = .ok (.getfield 443, 3) := by decide +kernel
theorem dX10_zoneFault_16 : decode cX10_zoneFault 16 = .ok (.bipush 6, 2) := by decide +kernel
theorem dX10_zoneFault_18 : decode cX10_zoneFault 18 = .ok (.if_icmp .ge 7, 3) := by decide +kernel
theorem dX10_zoneFault_21 : decode cX10_zoneFault 21 = .ok (.iconst 0, 1) := by decide +kernel
theorem dX10_zoneFault_22 : decode cX10_zoneFault 22 = .ok (.goto 4, 3) := by decide +kernel
theorem dX10_zoneFault_25 : decode cX10_zoneFault 25 = .ok (.iconst 3, 1) := by decide +kernel
theorem dX10_zoneFault_26 : decode cX10_zoneFault 26 = .ok (.ireturn, 1) := by decide +kernel
theorem dX10_putZone_0 : decode cX10_putZone 0 = .ok (.aload_n 0, 1) := by decide +kernel
theorem dX10_putZone_1 : decode cX10_putZone 1 = .ok (.getfield 12, 3) := by decide +kernel
theorem dX10_putZone_4 : decode cX10_putZone 4 = .ok (.getfield 443, 3) := by decide +kernel
theorem dX10_putZone_7 : decode cX10_putZone 7 = .ok (.istore_n 2, 1) := by decide +kernel
theorem dX10_putZone_8 : decode cX10_putZone 8 = .ok (.aload_n 0, 1) := by decide +kernel
theorem dX10_putZone_9 : decode cX10_putZone 9 = .ok (.getfield 12, 3) := by decide +kernel
theorem dX10_putZone_12 : decode cX10_putZone 12 = .ok (.getfield 140, 3) := by decide +kernel
theorem dX10_putZone_15 : decode cX10_putZone 15 = .ok (.iload_n 2, 1) := by decide +kernel
theorem dX10_putZone_16 : decode cX10_putZone 16 = .ok (.aaload, 1) := by decide +kernel
theorem dX10_putZone_17 : decode cX10_putZone 17 = .ok (.iload_n 1, 1) := by decide +kernel
theorem dX10_putZone_18 : decode cX10_putZone 18 = .ok (.invokevirtual 483, 3) := by decide +kernel
theorem dX10_putZone_21 : decode cX10_putZone 21 = .ok (.aload_n 0, 1) := by decide +kernel
theorem dX10_putZone_22 : decode cX10_putZone 22 = .ok (.getfield 12, 3) := by decide +kernel
theorem dX10_putZone_25 : decode cX10_putZone 25 = .ok (.iload_n 2, 1) := by decide +kernel
theorem dX10_putZone_26 : decode cX10_putZone 26 = .ok (.iconst 1, 1) := by decide +kernel
theorem dX10_putZone_27 : decode cX10_putZone 27 = .ok (.iadd, 1) := by decide +kernel
theorem dX10_putZone_28 : decode cX10_putZone 28 = .ok (.putfield 443, 3) := by decide +kernel
theorem dX10_putZone_31 : decode cX10_putZone 31 = .ok (.aload_n 0, 1) := by decide +kernel
theorem dX10_putZone_32 : decode cX10_putZone 32 = .ok (.iload_n 2, 1) := by decide +kernel
theorem dX10_putZone_33 : decode cX10_putZone 33 = .ok (.invokevirtual 484, 3) := by decide +kernel
theorem dX10_putZone_36 : decode cX10_putZone 36 = .ok (.iload_n 2, 1) := by decide +kernel
theorem dX10_putZone_37 : decode cX10_putZone 37 = .ok (.ireturn, 1) := by decide +kernel
theorem dX10_changeFault_0 : decode cX10_changeFault 0 = .ok (.aload_n 0, 1) := by decide +kernel
theorem dX10_changeFault_1 : decode cX10_changeFault 1 = .ok (.iload_n 1, 1) := by decide +kernel
theorem dX10_changeFault_2 : decode cX10_changeFault 2 = .ok (.invokevirtual 475, 3) := by decide +kernel
theorem dX10_changeFault_5 : decode cX10_changeFault 5 = .ok (.ifCond .ne 5, 3) := by decide +kernel
theorem dX10_changeFault_8 : decode cX10_changeFault 8 = .ok (.iconst 1, 1) := by decide +kernel
theorem dX10_changeFault_9 : decode cX10_changeFault 9 = .ok (.ireturn, 1) := by decide +kernel
theorem dX10_changeFault_10 : decode cX10_changeFault 10 = .ok (.iload_n 2, 1) := by decide +kernel
theorem dX10_changeFault_11 : decode cX10_changeFault 11 = .ok (.invokestatic 85, 3) := by decide +kernel
theorem dX10_changeFault_14 : decode cX10_changeFault 14 = .ok (.ifCond .eq 10, 3) := by decide +kernel
theorem dX10_changeFault_17 : decode cX10_changeFault 17 = .ok (.iload_n 3, 1) := by decide +kernel
theorem dX10_changeFault_18 : decode cX10_changeFault 18 = .ok (.invokestatic 480, 3) := by decide +kernel
theorem dX10_changeFault_21 : decode cX10_changeFault 21 = .ok (.ifCond .ne 5, 3) := by decide +kernel
theorem dX10_changeFault_24 : decode cX10_changeFault 24 = .ok (.iconst 2, 1) := by decide +kernel
theorem dX10_changeFault_25 : decode cX10_changeFault 25 = .ok (.ireturn, 1) := by decide +kernel
theorem dX10_changeFault_26 : decode cX10_changeFault 26 = .ok (.aload_n 0, 1) := by decide +kernel
theorem dX10_changeFault_27 : decode cX10_changeFault 27 = .ok (.getfield 12, 3) := by decide +kernel
theorem dX10_changeFault_30 : decode cX10_changeFault 30 = .ok (.getfield 140, 3) := by decide +kernel
theorem dX10_changeFault_33 : decode cX10_changeFault 33 = .ok (.iload_n 1, 1) := by decide +kernel
theorem dX10_changeFault_34 : decode cX10_changeFault 34 = .ok (.aaload, 1) := by decide +kernel
theorem dX10_changeFault_35 : decode cX10_changeFault 35 = .ok (.getfield 157, 3) := by decide +kernel
theorem dX10_changeFault_38 : decode cX10_changeFault 38 = .ok (.iconst 4, 1) := by decide +kernel
theorem dX10_changeFault_39 : decode cX10_changeFault 39 = .ok (.if_icmp .ge 7, 3) := by decide +kernel
theorem dX10_changeFault_42 : decode cX10_changeFault 42 = .ok (.iconst 0, 1) := by decide +kernel
theorem dX10_changeFault_43 : decode cX10_changeFault 43 = .ok (.goto 4, 3) := by decide +kernel
theorem dX10_changeFault_46 : decode cX10_changeFault 46 = .ok (.iconst 3, 1) := by decide +kernel
theorem dX10_changeFault_47 : decode cX10_changeFault 47 = .ok (.ireturn, 1) := by decide +kernel
theorem dX10_putChange_0 : decode cX10_putChange 0 = .ok (.aload_n 0, 1) := by decide +kernel
theorem dX10_putChange_1 : decode cX10_putChange 1 = .ok (.getfield 12, 3) := by decide +kernel
theorem dX10_putChange_4 : decode cX10_putChange 4 = .ok (.getfield 140, 3) := by decide +kernel
theorem dX10_putChange_7 : decode cX10_putChange 7 = .ok (.iload_n 1, 1) := by decide +kernel
theorem dX10_putChange_8 : decode cX10_putChange 8 = .ok (.aaload, 1) := by decide +kernel
theorem dX10_putChange_9 : decode cX10_putChange 9 = .ok (.iload_n 2, 1) := by decide +kernel
theorem dX10_putChange_10 : decode cX10_putChange 10 = .ok (.iload_n 3, 1) := by decide +kernel
theorem dX10_putChange_11 : decode cX10_putChange 11 = .ok (.invokevirtual 486, 3) := by decide +kernel
theorem dX10_putChange_14 : decode cX10_putChange 14 = .ok (.istore 4, 2) := by decide +kernel
theorem dX10_putChange_16 : decode cX10_putChange 16 = .ok (.aload_n 0, 1) := by decide +kernel
theorem dX10_putChange_17 : decode cX10_putChange 17 = .ok (.iload_n 1, 1) := by decide +kernel
theorem dX10_putChange_18 : decode cX10_putChange 18 = .ok (.invokevirtual 484, 3) := by decide +kernel
theorem dX10_putChange_21 : decode cX10_putChange 21 = .ok (.iload 4, 2) := by decide +kernel
theorem dX10_putChange_23 : decode cX10_putChange 23 = .ok (.ireturn, 1) := by decide +kernel
theorem dX10_ruleFault_0 : decode cX10_ruleFault 0 = .ok (.aload_n 0, 1) := by decide +kernel
theorem dX10_ruleFault_1 : decode cX10_ruleFault 1 = .ok (.iload_n 1, 1) := by decide +kernel
theorem dX10_ruleFault_2 : decode cX10_ruleFault 2 = .ok (.invokevirtual 475, 3) := by decide +kernel
theorem dX10_ruleFault_5 : decode cX10_ruleFault 5 = .ok (.ifCond .ne 5, 3) := by decide +kernel
theorem dX10_ruleFault_8 : decode cX10_ruleFault 8 = .ok (.iconst 1, 1) := by decide +kernel
theorem dX10_ruleFault_9 : decode cX10_ruleFault 9 = .ok (.ireturn, 1) := by decide +kernel
theorem dX10_ruleFault_10 : decode cX10_ruleFault 10 = .ok (.iload_n 2, 1) := by decide +kernel
theorem dX10_ruleFault_11 : decode cX10_ruleFault 11 = .ok (.ifCond .lt 36, 3) := by decide +kernel
theorem dX10_ruleFault_14 : decode cX10_ruleFault 14 = .ok (.iload_n 2, 1) := by decide +kernel
theorem dX10_ruleFault_15 : decode cX10_ruleFault 15 = .ok (.bipush 100, 2) := by decide +kernel
theorem dX10_ruleFault_17 : decode cX10_ruleFault 17 = .ok (.idiv, 1) := by decide +kernel
theorem dX10_ruleFault_18 : decode cX10_ruleFault 18 = .ok (.bipush 32, 2) := by decide +kernel
theorem dX10_ruleFault_20 : decode cX10_ruleFault 20 = .ok (.if_icmp .ge 27, 3) := by decide +kernel
theorem dX10_ruleFault_23 : decode cX10_ruleFault 23 = .ok (.iload_n 2, 1) := by decide +kernel
theorem dX10_ruleFault_24 : decode cX10_ruleFault 24 = .ok (.bipush 100, 2) := by decide +kernel
theorem dX10_ruleFault_26 : decode cX10_ruleFault 26 = .ok (.irem, 1) := by decide +kernel
theorem dX10_ruleFault_27 : decode cX10_ruleFault 27 = .ok (.bipush 32, 2) := by decide +kernel
theorem dX10_ruleFault_29 : decode cX10_ruleFault 29 = .ok (.if_icmp .ge 18, 3) := by decide +kernel
theorem dX10_ruleFault_32 : decode cX10_ruleFault 32 = .ok (.iload_n 2, 1) := by decide +kernel
theorem dX10_ruleFault_33 : decode cX10_ruleFault 33 = .ok (.bipush 100, 2) := by decide +kernel
theorem dX10_ruleFault_35 : decode cX10_ruleFault 35 = .ok (.idiv, 1) := by decide +kernel
theorem dX10_ruleFault_36 : decode cX10_ruleFault 36 = .ok (.iload_n 2, 1) := by decide +kernel
theorem dX10_ruleFault_37 : decode cX10_ruleFault 37 = .ok (.bipush 100, 2) := by decide +kernel
theorem dX10_ruleFault_39 : decode cX10_ruleFault 39 = .ok (.irem, 1) := by decide +kernel
theorem dX10_ruleFault_40 : decode cX10_ruleFault 40 = .ok (.if_icmp .gt 7, 3) := by decide +kernel
theorem dX10_ruleFault_43 : decode cX10_ruleFault 43 = .ok (.iconst 1, 1) := by decide +kernel
theorem dX10_ruleFault_44 : decode cX10_ruleFault 44 = .ok (.goto 4, 3) := by decide +kernel
theorem dX10_ruleFault_47 : decode cX10_ruleFault 47 = .ok (.iconst 0, 1) := by decide +kernel
theorem dX10_ruleFault_48 : decode cX10_ruleFault 48 = .ok (.istore 7, 2) := by decide +kernel
theorem dX10_ruleFault_50 : decode cX10_ruleFault 50 = .ok (.iload 5, 2) := by decide +kernel
theorem dX10_ruleFault_52 : decode cX10_ruleFault 52 = .ok (.ifCond .lt 27, 3) := by decide +kernel
theorem dX10_ruleFault_55 : decode cX10_ruleFault 55 = .ok (.iload 5, 2) := by decide +kernel
theorem dX10_ruleFault_57 : decode cX10_ruleFault 57 = .ok (.bipush 10, 2) := by decide +kernel
theorem dX10_ruleFault_59 : decode cX10_ruleFault 59 = .ok (.idiv, 1) := by decide +kernel
theorem dX10_ruleFault_60 : decode cX10_ruleFault 60 = .ok (.sipush 1440, 3) := by decide +kernel
theorem dX10_ruleFault_63 : decode cX10_ruleFault 63 = .ok (.if_icmp .ge 16, 3) := by decide +kernel
theorem dX10_ruleFault_66 : decode cX10_ruleFault 66 = .ok (.iload 5, 2) := by decide +kernel
theorem dX10_ruleFault_68 : decode cX10_ruleFault 68 = .ok (.bipush 10, 2) := by decide +kernel
theorem dX10_ruleFault_70 : decode cX10_ruleFault 70 = .ok (.irem, 1) := by decide +kernel
theorem dX10_ruleFault_71 : decode cX10_ruleFault 71 = .ok (.iconst 2, 1) := by decide +kernel
theorem dX10_ruleFault_72 : decode cX10_ruleFault 72 = .ok (.if_icmp .gt 7, 3) := by decide +kernel
theorem dX10_ruleFault_75 : decode cX10_ruleFault 75 = .ok (.iconst 1, 1) := by decide +kernel
theorem dX10_ruleFault_76 : decode cX10_ruleFault 76 = .ok (.goto 4, 3) := by decide +kernel
theorem dX10_ruleFault_79 : decode cX10_ruleFault 79 = .ok (.iconst 0, 1) := by decide +kernel
theorem dX10_ruleFault_80 : decode cX10_ruleFault 80 = .ok (.istore 8, 2) := by decide +kernel
theorem dX10_ruleFault_82 : decode cX10_ruleFault 82 = .ok (.iload 6, 2) := by decide +kernel
theorem dX10_ruleFault_84 : decode cX10_ruleFault 84 = .ok (.ifCond .lt 14, 3) := by decide +kernel
theorem dX10_ruleFault_87 : decode cX10_ruleFault 87 = .ok (.iload 6, 2) := by decide +kernel
theorem dX10_ruleFault_89 : decode cX10_ruleFault 89 = .ok (.bipush 120, 2) := by decide +kernel
theorem dX10_ruleFault_91 : decode cX10_ruleFault 91 = .ok (.if_icmp .gt 7, 3) := by decide +kernel
theorem dX10_ruleFault_94 : decode cX10_ruleFault 94 = .ok (.iconst 1, 1) := by decide +kernel
theorem dX10_ruleFault_95 : decode cX10_ruleFault 95 = .ok (.goto 4, 3) := by decide +kernel
theorem dX10_ruleFault_98 : decode cX10_ruleFault 98 = .ok (.iconst 0, 1) := by decide +kernel
theorem dX10_ruleFault_99 : decode cX10_ruleFault 99 = .ok (.istore 9, 2) := by decide +kernel
theorem dX10_ruleFault_101 : decode cX10_ruleFault 101 = .ok (.iload 7, 2) := by decide +kernel
theorem dX10_ruleFault_103 : decode cX10_ruleFault 103 = .ok (.ifCond .eq 28, 3) := by decide +kernel
theorem dX10_ruleFault_106 : decode cX10_ruleFault 106 = .ok (.iload_n 3, 1) := by decide +kernel
theorem dX10_ruleFault_107 : decode cX10_ruleFault 107 = .ok (.invokestatic 69, 3) := by decide +kernel
theorem dX10_ruleFault_110 : decode cX10_ruleFault 110 = .ok (.ifCond .eq 21, 3) := by decide +kernel
theorem dX10_ruleFault_113 : decode cX10_ruleFault 113 = .ok (.iload 4, 2) := by decide +kernel
theorem dX10_ruleFault_115 : decode cX10_ruleFault 115 = .ok (.invokestatic 488, 3) := by decide +kernel
theorem dX10_ruleFault_118 : decode cX10_ruleFault 118 = .ok (.ifCond .eq 13, 3) := by decide +kernel
theorem dX10_ruleFault_121 : decode cX10_ruleFault 121 = .ok (.iload 8, 2) := by decide +kernel
theorem dX10_ruleFault_123 : decode cX10_ruleFault 123 = .ok (.ifCond .eq 8, 3) := by decide +kernel
theorem dX10_ruleFault_126 : decode cX10_ruleFault 126 = .ok (.iload 9, 2) := by decide +kernel
theorem dX10_ruleFault_128 : decode cX10_ruleFault 128 = .ok (.ifCond .ne 5, 3) := by decide +kernel
theorem dX10_ruleFault_131 : decode cX10_ruleFault 131 = .ok (.iconst 2, 1) := by decide +kernel
theorem dX10_ruleFault_132 : decode cX10_ruleFault 132 = .ok (.ireturn, 1) := by decide +kernel
theorem dX10_ruleFault_133 : decode cX10_ruleFault 133 = .ok (.aload_n 0, 1) := by decide +kernel
theorem dX10_ruleFault_134 : decode cX10_ruleFault 134 = .ok (.getfield 12, 3) := by decide +kernel
theorem dX10_ruleFault_137 : decode cX10_ruleFault 137 = .ok (.getfield 140, 3) := by decide +kernel
theorem dX10_ruleFault_140 : decode cX10_ruleFault 140 = .ok (.iload_n 1, 1) := by decide +kernel
theorem dX10_ruleFault_141 : decode cX10_ruleFault 141 = .ok (.aaload, 1) := by decide +kernel
theorem dX10_ruleFault_142 : decode cX10_ruleFault 142 = .ok (.getfield 154, 3) := by decide +kernel
theorem dX10_ruleFault_145 : decode cX10_ruleFault 145 = .ok (.bipush 8, 2) := by decide +kernel
theorem dX10_ruleFault_147 : decode cX10_ruleFault 147 = .ok (.if_icmp .ge 7, 3) := by decide +kernel
theorem dX10_ruleFault_150 : decode cX10_ruleFault 150 = .ok (.iconst 0, 1) := by decide +kernel
theorem dX10_ruleFault_151 : decode cX10_ruleFault 151 = .ok (.goto 4, 3) := by decide +kernel
theorem dX10_ruleFault_154 : decode cX10_ruleFault 154 = .ok (.iconst 3, 1) := by decide +kernel
theorem dX10_ruleFault_155 : decode cX10_ruleFault 155 = .ok (.ireturn, 1) := by decide +kernel
theorem dX10_putRule_0 : decode cX10_putRule 0 = .ok (.aload_n 0, 1) := by decide +kernel
theorem dX10_putRule_1 : decode cX10_putRule 1 = .ok (.getfield 12, 3) := by decide +kernel
theorem dX10_putRule_4 : decode cX10_putRule 4 = .ok (.getfield 140, 3) := by decide +kernel
theorem dX10_putRule_7 : decode cX10_putRule 7 = .ok (.iload_n 1, 1) := by decide +kernel
theorem dX10_putRule_8 : decode cX10_putRule 8 = .ok (.aaload, 1) := by decide +kernel
theorem dX10_putRule_9 : decode cX10_putRule 9 = .ok (.iload_n 2, 1) := by decide +kernel
theorem dX10_putRule_10 : decode cX10_putRule 10 = .ok (.iload_n 3, 1) := by decide +kernel
theorem dX10_putRule_11 : decode cX10_putRule 11 = .ok (.iload 4, 2) := by decide +kernel
theorem dX10_putRule_13 : decode cX10_putRule 13 = .ok (.iload 5, 2) := by decide +kernel
theorem dX10_putRule_15 : decode cX10_putRule 15 = .ok (.iload 6, 2) := by decide +kernel
theorem dX10_putRule_17 : decode cX10_putRule 17 = .ok (.invokevirtual 491, 3) := by decide +kernel
theorem dX10_putRule_20 : decode cX10_putRule 20 = .ok (.istore 7, 2) := by decide +kernel
theorem dX10_putRule_22 : decode cX10_putRule 22 = .ok (.aload_n 0, 1) := by decide +kernel
theorem dX10_putRule_23 : decode cX10_putRule 23 = .ok (.iload_n 1, 1) := by decide +kernel
theorem dX10_putRule_24 : decode cX10_putRule 24 = .ok (.invokevirtual 484, 3) := by decide +kernel
theorem dX10_putRule_27 : decode cX10_putRule 27 = .ok (.iload 7, 2) := by decide +kernel
theorem dX10_putRule_29 : decode cX10_putRule 29 = .ok (.ireturn, 1) := by decide +kernel
theorem dX10_ruleIndexFault_0 : decode cX10_ruleIndexFault 0 = .ok (.aload_n 0, 1) := by decide +kernel
theorem dX10_ruleIndexFault_1 : decode cX10_ruleIndexFault 1 = .ok (.iload_n 1, 1) := by decide +kernel
theorem dX10_ruleIndexFault_2 : decode cX10_ruleIndexFault 2 = .ok (.invokevirtual 475, 3) := by decide +kernel
theorem dX10_ruleIndexFault_5 : decode cX10_ruleIndexFault 5 = .ok (.ifCond .eq 27, 3) := by decide +kernel
theorem dX10_ruleIndexFault_8 : decode cX10_ruleIndexFault 8 = .ok (.iload_n 2, 1) := by decide +kernel
theorem dX10_ruleIndexFault_9 : decode cX10_ruleIndexFault 9 = .ok (.ifCond .lt 23, 3) := by decide +kernel
theorem dX10_ruleIndexFault_12 : decode cX10_ruleIndexFault 12 = .ok (.iload_n 2, 1) := by decide +kernel
theorem dX10_ruleIndexFault_13 : decode cX10_ruleIndexFault 13 = .ok (.aload_n 0, 1) := by decide +kernel
theorem dX10_ruleIndexFault_14 : decode cX10_ruleIndexFault 14 = .ok (.getfield 12, 3) := by decide +kernel
theorem dX10_ruleIndexFault_17 : decode cX10_ruleIndexFault 17 = .ok (.getfield 140, 3) := by decide +kernel
theorem dX10_ruleIndexFault_20 : decode cX10_ruleIndexFault 20 = .ok (.iload_n 1, 1) := by decide +kernel
theorem dX10_ruleIndexFault_21 : decode cX10_ruleIndexFault 21 = .ok (.aaload, 1) := by decide +kernel
theorem dX10_ruleIndexFault_22 : decode cX10_ruleIndexFault 22 = .ok (.getfield 154, 3) := by decide +kernel
theorem dX10_ruleIndexFault_25 : decode cX10_ruleIndexFault 25 = .ok (.if_icmp .ge 7, 3) := by decide +kernel
theorem dX10_ruleIndexFault_28 : decode cX10_ruleIndexFault 28 = .ok (.iconst 0, 1) := by decide +kernel
theorem dX10_ruleIndexFault_29 : decode cX10_ruleIndexFault 29 = .ok (.goto 4, 3) := by decide +kernel
theorem dX10_ruleIndexFault_32 : decode cX10_ruleIndexFault 32 = .ok (.iconst 1, 1) := by decide +kernel
theorem dX10_ruleIndexFault_33 : decode cX10_ruleIndexFault 33 = .ok (.ireturn, 1) := by decide +kernel
theorem dX10_takeRule_0 : decode cX10_takeRule 0 = .ok (.aload_n 0, 1) := by decide +kernel
theorem dX10_takeRule_1 : decode cX10_takeRule 1 = .ok (.getfield 12, 3) := by decide +kernel
theorem dX10_takeRule_4 : decode cX10_takeRule 4 = .ok (.getfield 140, 3) := by decide +kernel
theorem dX10_takeRule_7 : decode cX10_takeRule 7 = .ok (.iload_n 1, 1) := by decide +kernel
theorem dX10_takeRule_8 : decode cX10_takeRule 8 = .ok (.aaload, 1) := by decide +kernel
theorem dX10_takeRule_9 : decode cX10_takeRule 9 = .ok (.iload_n 2, 1) := by decide +kernel
theorem dX10_takeRule_10 : decode cX10_takeRule 10 = .ok (.invokevirtual 494, 3) := by decide +kernel
theorem dX10_takeRule_13 : decode cX10_takeRule 13 = .ok (.aload_n 0, 1) := by decide +kernel
theorem dX10_takeRule_14 : decode cX10_takeRule 14 = .ok (.iload_n 1, 1) := by decide +kernel
theorem dX10_takeRule_15 : decode cX10_takeRule 15 = .ok (.invokevirtual 484, 3) := by decide +kernel
theorem dX10_takeRule_18 : decode cX10_takeRule 18 = .ok (.aload_n 0, 1) := by decide +kernel
theorem dX10_takeRule_19 : decode cX10_takeRule 19 = .ok (.getfield 12, 3) := by decide +kernel
theorem dX10_takeRule_22 : decode cX10_takeRule 22 = .ok (.getfield 140, 3) := by decide +kernel
theorem dX10_takeRule_25 : decode cX10_takeRule 25 = .ok (.iload_n 1, 1) := by decide +kernel
theorem dX10_takeRule_26 : decode cX10_takeRule 26 = .ok (.aaload, 1) := by decide +kernel
theorem dX10_takeRule_27 : decode cX10_takeRule 27 = .ok (.getfield 154, 3) := by decide +kernel
theorem dX10_takeRule_30 : decode cX10_takeRule 30 = .ok (.ireturn, 1) := by decide +kernel
theorem dX10_occurrenceFault_0 : decode cX10_occurrenceFault 0 = .ok (.iload_n 1, 1) := by decide +kernel
theorem dX10_occurrenceFault_1 : decode cX10_occurrenceFault 1 = .ok (.ifCond .lt 34, 3) := by decide +kernel
theorem dX10_occurrenceFault_4 : decode cX10_occurrenceFault 4 = .ok (.iload_n 1, 1) := by decide +kernel
theorem dX10_occurrenceFault_5 : decode cX10_occurrenceFault 5 = .ok (.aload_n 0, 1) := by decide +kernel
theorem dX10_occurrenceFault_6 : decode cX10_occurrenceFault 6 = .ok (.getfield 12, 3) := by decide +kernel
theorem dX10_occurrenceFault_9 : decode cX10_occurrenceFault 9 = .ok (.getfield 266, 3) := by decide +kernel
theorem dX10_occurrenceFault_12 : decode cX10_occurrenceFault 12 = .ok (.if_icmp .ge 23, 3) := by decide +kernel
theorem dX10_occurrenceFault_15 : decode cX10_occurrenceFault 15 = .ok (.iload_n 2, 1) := by decide +kernel
theorem dX10_occurrenceFault_16 : decode cX10_occurrenceFault 16 = .ok (.ifCond .lt 19, 3) := by decide +kernel
theorem dX10_occurrenceFault_19 : decode cX10_occurrenceFault 19 = .ok (.iload_n 2, 1) := by decide +kernel
theorem dX10_occurrenceFault_20 : decode cX10_occurrenceFault 20 = .ok (.aload_n 0, 1) := by decide +kernel
theorem dX10_occurrenceFault_21 : decode cX10_occurrenceFault 21 = .ok (.iload_n 1, 1) := by decide +kernel
theorem dX10_occurrenceFault_22 : decode cX10_occurrenceFault 22 = .ok (.invokevirtual 291, 3) := by decide +kernel
theorem dX10_occurrenceFault_25 : decode cX10_occurrenceFault 25 = .ok (.getfield 295, 3) := by decide +kernel
theorem dX10_occurrenceFault_28 : decode cX10_occurrenceFault 28 = .ok (.if_icmp .ge 7, 3) := by decide +kernel
theorem dX10_occurrenceFault_31 : decode cX10_occurrenceFault 31 = .ok (.iconst 1, 1) := by decide +kernel
theorem dX10_occurrenceFault_32 : decode cX10_occurrenceFault 32 = .ok (.goto 4, 3) := by decide +kernel
theorem dX10_occurrenceFault_35 : decode cX10_occurrenceFault 35 = .ok (.iconst 0, 1) := by decide +kernel
theorem dX10_occurrenceFault_36 : decode cX10_occurrenceFault 36 = .ok (.istore_n 3, 1) := by decide +kernel
theorem dX10_occurrenceFault_37 : decode cX10_occurrenceFault 37 = .ok (.iload_n 3, 1) := by decide +kernel
theorem dX10_occurrenceFault_38 : decode cX10_occurrenceFault 38 = .ok (.ifCond .eq 7, 3) := by decide +kernel
theorem dX10_occurrenceFault_41 : decode cX10_occurrenceFault 41 = .ok (.iconst 0, 1) := by decide +kernel
theorem dX10_occurrenceFault_42 : decode cX10_occurrenceFault 42 = .ok (.goto 4, 3) := by decide +kernel
theorem dX10_occurrenceFault_45 : decode cX10_occurrenceFault 45 = .ok (.iconst 1, 1) := by decide +kernel
theorem dX10_occurrenceFault_46 : decode cX10_occurrenceFault 46 = .ok (.ireturn, 1) := by decide +kernel
theorem dX10_turnCancelled_0 : decode cX10_turnCancelled 0 = .ok (.aload_n 0, 1) := by decide +kernel
theorem dX10_turnCancelled_1 : decode cX10_turnCancelled 1 = .ok (.getfield 12, 3) := by decide +kernel
theorem dX10_turnCancelled_4 : decode cX10_turnCancelled 4 = .ok (.getfield 269, 3) := by decide +kernel
theorem dX10_turnCancelled_7 : decode cX10_turnCancelled 7 = .ok (.iload_n 1, 1) := by decide +kernel
theorem dX10_turnCancelled_8 : decode cX10_turnCancelled 8 = .ok (.aaload, 1) := by decide +kernel
theorem dX10_turnCancelled_9 : decode cX10_turnCancelled 9 = .ok (.dup, 1) := by decide +kernel
theorem dX10_turnCancelled_10 : decode cX10_turnCancelled 10 = .ok (.getfield 496, 3) := by decide +kernel
theorem dX10_turnCancelled_13 : decode cX10_turnCancelled 13 = .ok (.lconst 1, 1) := by decide +kernel
theorem dX10_turnCancelled_14 : decode cX10_turnCancelled 14 = .ok (.iload_n 2, 1) := by decide +kernel
theorem dX10_turnCancelled_15 : decode cX10_turnCancelled 15 = .ok (.lshl, 1) := by decide +kernel
theorem dX10_turnCancelled_16 : decode cX10_turnCancelled 16 = .ok (.lxor, 1) := by decide +kernel
theorem dX10_turnCancelled_17 : decode cX10_turnCancelled 17 = .ok (.putfield 496, 3) := by decide +kernel
theorem dX10_turnCancelled_20 : decode cX10_turnCancelled 20 = .ok (.aload_n 0, 1) := by decide +kernel
theorem dX10_turnCancelled_21 : decode cX10_turnCancelled 21 = .ok (.getfield 12, 3) := by decide +kernel
theorem dX10_turnCancelled_24 : decode cX10_turnCancelled 24 = .ok (.getfield 269, 3) := by decide +kernel
theorem dX10_turnCancelled_27 : decode cX10_turnCancelled 27 = .ok (.iload_n 1, 1) := by decide +kernel
theorem dX10_turnCancelled_28 : decode cX10_turnCancelled 28 = .ok (.aaload, 1) := by decide +kernel
theorem dX10_turnCancelled_29 : decode cX10_turnCancelled 29 = .ok (.iload_n 2, 1) := by decide +kernel
theorem dX10_turnCancelled_30 : decode cX10_turnCancelled 30 = .ok (.invokevirtual 500, 3) := by decide +kernel
theorem dX10_turnCancelled_33 : decode cX10_turnCancelled 33 = .ok (.ifCond .eq 7, 3) := by decide +kernel
theorem dX10_turnCancelled_36 : decode cX10_turnCancelled 36 = .ok (.iconst 1, 1) := by decide +kernel
theorem dX10_turnCancelled_37 : decode cX10_turnCancelled 37 = .ok (.goto 4, 3) := by decide +kernel
theorem dX10_turnCancelled_40 : decode cX10_turnCancelled 40 = .ok (.iconst 0, 1) := by decide +kernel
theorem dX10_turnCancelled_41 : decode cX10_turnCancelled 41 = .ok (.ireturn, 1) := by decide +kernel
theorem dX10_remember_0 : decode cX10_remember 0 = .ok (.aload_n 0, 1) := by decide +kernel
theorem dX10_remember_1 : decode cX10_remember 1 = .ok (.getfield 19, 3) := by decide +kernel
theorem dX10_remember_4 : decode cX10_remember 4 = .ok (.aload_n 0, 1) := by decide +kernel
theorem dX10_remember_5 : decode cX10_remember 5 = .ok (.getfield 12, 3) := by decide +kernel
theorem dX10_remember_8 : decode cX10_remember 8 = .ok (.invokevirtual 389, 3) := by decide +kernel
theorem dX10_remember_11 : decode cX10_remember 11 = .ok (.aload_n 0, 1) := by decide +kernel
theorem dX10_remember_12 : decode cX10_remember 12 = .ok (.getfield 19, 3) := by decide +kernel
theorem dX10_remember_15 : decode cX10_remember 15 = .ok (.invokevirtual 418, 3) := by decide +kernel
theorem dX10_remember_18 : decode cX10_remember 18 = .ok (.return_, 1) := by decide +kernel
theorem dX10_carryOut_0 : decode cX10_carryOut 0 = .ok (.aload_n 0, 1) := by decide +kernel
theorem dX10_carryOut_1 : decode cX10_carryOut 1 = .ok (.getfield 47, 3) := by decide +kernel
theorem dX10_carryOut_4 : decode cX10_carryOut 4 = .ok (.iload_n 1, 1) := by decide +kernel
theorem dX10_carryOut_5 : decode cX10_carryOut 5 = .ok (.iconst 0, 1) := by decide +kernel
theorem dX10_carryOut_6 : decode cX10_carryOut 6 = .ok (.invokevirtual 503, 3) := by decide +kernel
theorem dX10_carryOut_9 : decode cX10_carryOut 9 = .ok (.istore_n 2, 1) := by decide +kernel
theorem dX10_carryOut_10 : decode cX10_carryOut 10 = .ok (.aload_n 0, 1) := by decide +kernel
theorem dX10_carryOut_11 : decode cX10_carryOut 11 = .ok (.getfield 47, 3) := by decide +kernel
theorem dX10_carryOut_14 : decode cX10_carryOut 14 = .ok (.iload_n 1, 1) := by decide +kernel
theorem dX10_carryOut_15 : decode cX10_carryOut 15 = .ok (.iconst 1, 1) := by decide +kernel
theorem dX10_carryOut_16 : decode cX10_carryOut 16 = .ok (.invokevirtual 503, 3) := by decide +kernel
theorem dX10_carryOut_19 : decode cX10_carryOut 19 = .ok (.istore_n 3, 1) := by decide +kernel
theorem dX10_carryOut_20 : decode cX10_carryOut 20 = .ok (.aload_n 0, 1) := by decide +kernel
theorem dX10_carryOut_21 : decode cX10_carryOut 21 = .ok (.getfield 47, 3) := by decide +kernel
theorem dX10_carryOut_24 : decode cX10_carryOut 24 = .ok (.iload_n 1, 1) := by decide +kernel
theorem dX10_carryOut_25 : decode cX10_carryOut 25 = .ok (.invokevirtual 506, 3) := by decide +kernel
theorem dX10_carryOut_28 : decode cX10_carryOut 28 = .ok (.tableswitch 100 0 3 #[32, 54, 70, 76], 32) := by decide +kernel
theorem dX10_carryOut_60 : decode cX10_carryOut 60 = .ok (.aload_n 0, 1) := by decide +kernel
theorem dX10_carryOut_61 : decode cX10_carryOut 61 = .ok (.iload_n 2, 1) := by decide +kernel
theorem dX10_carryOut_62 : decode cX10_carryOut 62 = .ok (.invokevirtual 104, 3) := by decide +kernel
theorem dX10_carryOut_65 : decode cX10_carryOut 65 = .ok (.ifCond .ne 15, 3) := by decide +kernel
theorem dX10_carryOut_68 : decode cX10_carryOut 68 = .ok (.aload_n 0, 1) := by decide +kernel
theorem dX10_carryOut_69 : decode cX10_carryOut 69 = .ok (.iload_n 2, 1) := by decide +kernel
theorem dX10_carryOut_70 : decode cX10_carryOut 70 = .ok (.invokevirtual 114, 3) := by decide +kernel
theorem dX10_carryOut_73 : decode cX10_carryOut 73 = .ok (.ifCond .lt 7, 3) := by decide +kernel
theorem dX10_carryOut_76 : decode cX10_carryOut 76 = .ok (.iconst 1, 1) := by decide +kernel
theorem dX10_carryOut_77 : decode cX10_carryOut 77 = .ok (.goto 4, 3) := by decide +kernel
theorem dX10_carryOut_80 : decode cX10_carryOut 80 = .ok (.iconst 0, 1) := by decide +kernel
theorem dX10_carryOut_81 : decode cX10_carryOut 81 = .ok (.ireturn, 1) := by decide +kernel
theorem dX10_carryOut_82 : decode cX10_carryOut 82 = .ok (.aload_n 0, 1) := by decide +kernel
theorem dX10_carryOut_83 : decode cX10_carryOut 83 = .ok (.iload_n 2, 1) := by decide +kernel
theorem dX10_carryOut_84 : decode cX10_carryOut 84 = .ok (.iload_n 3, 1) := by decide +kernel
theorem dX10_carryOut_85 : decode cX10_carryOut 85 = .ok (.aload_n 0, 1) := by decide +kernel
theorem dX10_carryOut_86 : decode cX10_carryOut 86 = .ok (.getfield 47, 3) := by decide +kernel
theorem dX10_carryOut_89 : decode cX10_carryOut 89 = .ok (.iload_n 1, 1) := by decide +kernel
theorem dX10_carryOut_90 : decode cX10_carryOut 90 = .ok (.iconst 2, 1) := by decide +kernel
theorem dX10_carryOut_91 : decode cX10_carryOut 91 = .ok (.invokevirtual 503, 3) := by decide +kernel
theorem dX10_carryOut_94 : decode cX10_carryOut 94 = .ok (.invokevirtual 509, 3) := by decide +kernel
theorem dX10_carryOut_97 : decode cX10_carryOut 97 = .ok (.ireturn, 1) := by decide +kernel
theorem dX10_carryOut_98 : decode cX10_carryOut 98 = .ok (.aload_n 0, 1) := by decide +kernel
theorem dX10_carryOut_99 : decode cX10_carryOut 99 = .ok (.iload_n 1, 1) := by decide +kernel
theorem dX10_carryOut_100 : decode cX10_carryOut 100 = .ok (.invokevirtual 513, 3) := by decide +kernel
theorem dX10_carryOut_103 : decode cX10_carryOut 103 = .ok (.ireturn, 1) := by decide +kernel
theorem dX10_carryOut_104 : decode cX10_carryOut 104 = .ok (.aload_n 0, 1) := by decide +kernel
theorem dX10_carryOut_105 : decode cX10_carryOut 105 = .ok (.iload_n 2, 1) := by decide +kernel
theorem dX10_carryOut_106 : decode cX10_carryOut 106 = .ok (.iload_n 3, 1) := by decide +kernel
theorem dX10_carryOut_107 : decode cX10_carryOut 107 = .ok (.invokevirtual 131, 3) := by decide +kernel
theorem dX10_carryOut_110 : decode cX10_carryOut 110 = .ok (.ifCond .ne 16, 3) := by decide +kernel
theorem dX10_carryOut_113 : decode cX10_carryOut 113 = .ok (.aload_n 0, 1) := by decide +kernel
theorem dX10_carryOut_114 : decode cX10_carryOut 114 = .ok (.iload_n 2, 1) := by decide +kernel
theorem dX10_carryOut_115 : decode cX10_carryOut 115 = .ok (.iload_n 3, 1) := by decide +kernel
theorem dX10_carryOut_116 : decode cX10_carryOut 116 = .ok (.invokevirtual 134, 3) := by decide +kernel
theorem dX10_carryOut_119 : decode cX10_carryOut 119 = .ok (.ifCond .lt 7, 3) := by decide +kernel
theorem dX10_carryOut_122 : decode cX10_carryOut 122 = .ok (.iconst 1, 1) := by decide +kernel
theorem dX10_carryOut_123 : decode cX10_carryOut 123 = .ok (.goto 4, 3) := by decide +kernel
theorem dX10_carryOut_126 : decode cX10_carryOut 126 = .ok (.iconst 0, 1) := by decide +kernel
theorem dX10_carryOut_127 : decode cX10_carryOut 127 = .ok (.ireturn, 1) := by decide +kernel
theorem dX10_carryOut_128 : decode cX10_carryOut 128 = .ok (.aload_n 0, 1) := by decide +kernel
theorem dX10_carryOut_129 : decode cX10_carryOut 129 = .ok (.iload_n 2, 1) := by decide +kernel
theorem dX10_carryOut_130 : decode cX10_carryOut 130 = .ok (.iload_n 3, 1) := by decide +kernel
theorem dX10_carryOut_131 : decode cX10_carryOut 131 = .ok (.invokevirtual 298, 3) := by decide +kernel
theorem dX10_carryOut_134 : decode cX10_carryOut 134 = .ok (.ifCond .ne 16, 3) := by decide +kernel
theorem dX10_carryOut_137 : decode cX10_carryOut 137 = .ok (.aload_n 0, 1) := by decide +kernel
theorem dX10_carryOut_138 : decode cX10_carryOut 138 = .ok (.iload_n 2, 1) := by decide +kernel
theorem dX10_carryOut_139 : decode cX10_carryOut 139 = .ok (.iload_n 3, 1) := by decide +kernel
theorem dX10_carryOut_140 : decode cX10_carryOut 140 = .ok (.invokevirtual 301, 3) := by decide +kernel
theorem dX10_carryOut_143 : decode cX10_carryOut 143 = .ok (.ifCond .lt 7, 3) := by decide +kernel
theorem dX10_carryOut_146 : decode cX10_carryOut 146 = .ok (.iconst 1, 1) := by decide +kernel
theorem dX10_carryOut_147 : decode cX10_carryOut 147 = .ok (.goto 4, 3) := by decide +kernel
theorem dX10_carryOut_150 : decode cX10_carryOut 150 = .ok (.iconst 0, 1) := by decide +kernel
theorem dX10_carryOut_151 : decode cX10_carryOut 151 = .ok (.ireturn, 1) := by decide +kernel
theorem dX10_carryOutBase_0 : decode cX10_carryOutBase 0 = .ok (.aload_n 0, 1) := by decide +kernel
theorem dX10_carryOutBase_1 : decode cX10_carryOutBase 1 = .ok (.iload_n 1, 1) := by decide +kernel
theorem dX10_carryOutBase_2 : decode cX10_carryOutBase 2 = .ok (.iload_n 2, 1) := by decide +kernel
theorem dX10_carryOutBase_3 : decode cX10_carryOutBase 3 = .ok (.iload_n 3, 1) := by decide +kernel
theorem dX10_carryOutBase_4 : decode cX10_carryOutBase 4 = .ok (.invokevirtual 117, 3) := by decide +kernel
theorem dX10_carryOutBase_7 : decode cX10_carryOutBase 7 = .ok (.ifCond .ne 17, 3) := by decide +kernel
theorem dX10_carryOutBase_10 : decode cX10_carryOutBase 10 = .ok (.aload_n 0, 1) := by decide +kernel
theorem dX10_carryOutBase_11 : decode cX10_carryOutBase 11 = .ok (.iload_n 1, 1) := by decide +kernel
theorem dX10_carryOutBase_12 : decode cX10_carryOutBase 12 = .ok (.iload_n 2, 1) := by decide +kernel
theorem dX10_carryOutBase_13 : decode cX10_carryOutBase 13 = .ok (.iload_n 3, 1) := by decide +kernel
theorem dX10_carryOutBase_14 : decode cX10_carryOutBase 14 = .ok (.invokevirtual 121, 3) := by decide +kernel
theorem dX10_carryOutBase_17 : decode cX10_carryOutBase 17 = .ok (.ifCond .lt 7, 3) := by decide +kernel
theorem dX10_carryOutBase_20 : decode cX10_carryOutBase 20 = .ok (.iconst 1, 1) := by decide +kernel
theorem dX10_carryOutBase_21 : decode cX10_carryOutBase 21 = .ok (.goto 4, 3) := by decide +kernel
theorem dX10_carryOutBase_24 : decode cX10_carryOutBase 24 = .ok (.iconst 0, 1) := by decide +kernel
theorem dX10_carryOutBase_25 : decode cX10_carryOutBase 25 = .ok (.ireturn, 1) := by decide +kernel
theorem dX10_carryOutRule_0 : decode cX10_carryOutRule 0 = .ok (.aload_n 0, 1) := by decide +kernel
theorem dX10_carryOutRule_1 : decode cX10_carryOutRule 1 = .ok (.getfield 47, 3) := by decide +kernel
theorem dX10_carryOutRule_4 : decode cX10_carryOutRule 4 = .ok (.iload_n 1, 1) := by decide +kernel
theorem dX10_carryOutRule_5 : decode cX10_carryOutRule 5 = .ok (.iconst 0, 1) := by decide +kernel
theorem dX10_carryOutRule_6 : decode cX10_carryOutRule 6 = .ok (.invokevirtual 503, 3) := by decide +kernel
theorem dX10_carryOutRule_9 : decode cX10_carryOutRule 9 = .ok (.istore_n 2, 1) := by decide +kernel
theorem dX10_carryOutRule_10 : decode cX10_carryOutRule 10 = .ok (.aload_n 0, 1) := by decide +kernel
theorem dX10_carryOutRule_11 : decode cX10_carryOutRule 11 = .ok (.getfield 47, 3) := by decide +kernel
theorem dX10_carryOutRule_14 : decode cX10_carryOutRule 14 = .ok (.iload_n 1, 1) := by decide +kernel
theorem dX10_carryOutRule_15 : decode cX10_carryOutRule 15 = .ok (.iconst 1, 1) := by decide +kernel
theorem dX10_carryOutRule_16 : decode cX10_carryOutRule 16 = .ok (.invokevirtual 503, 3) := by decide +kernel
theorem dX10_carryOutRule_19 : decode cX10_carryOutRule 19 = .ok (.sipush 2000, 3) := by decide +kernel
theorem dX10_carryOutRule_22 : decode cX10_carryOutRule 22 = .ok (.isub, 1) := by decide +kernel
theorem dX10_carryOutRule_23 : decode cX10_carryOutRule 23 = .ok (.istore_n 3, 1) := by decide +kernel
theorem dX10_carryOutRule_24 : decode cX10_carryOutRule 24 = .ok (.aload_n 0, 1) := by decide +kernel
theorem dX10_carryOutRule_25 : decode cX10_carryOutRule 25 = .ok (.getfield 47, 3) := by decide +kernel
theorem dX10_carryOutRule_28 : decode cX10_carryOutRule 28 = .ok (.iload_n 1, 1) := by decide +kernel
theorem dX10_carryOutRule_29 : decode cX10_carryOutRule 29 = .ok (.iconst 2, 1) := by decide +kernel
theorem dX10_carryOutRule_30 : decode cX10_carryOutRule 30 = .ok (.invokevirtual 503, 3) := by decide +kernel
theorem dX10_carryOutRule_33 : decode cX10_carryOutRule 33 = .ok (.sipush 2000, 3) := by decide +kernel
theorem dX10_carryOutRule_36 : decode cX10_carryOutRule 36 = .ok (.isub, 1) := by decide +kernel
theorem dX10_carryOutRule_37 : decode cX10_carryOutRule 37 = .ok (.istore 4, 2) := by decide +kernel
theorem dX10_carryOutRule_39 : decode cX10_carryOutRule 39 = .ok (.iload_n 3, 1) := by decide +kernel
theorem dX10_carryOutRule_40 : decode cX10_carryOutRule 40 = .ok (.invokestatic 65, 3) := by decide +kernel
theorem dX10_carryOutRule_43 : decode cX10_carryOutRule 43 = .ok (.ifCond .eq 11, 3) := by decide +kernel
theorem dX10_carryOutRule_46 : decode cX10_carryOutRule 46 = .ok (.iload 4, 2) := by decide +kernel
theorem dX10_carryOutRule_48 : decode cX10_carryOutRule 48 = .ok (.invokestatic 65, 3) := by decide +kernel
theorem dX10_carryOutRule_51 : decode cX10_carryOutRule 51 = .ok (.ifCond .ne 5, 3) := by decide +kernel
theorem dX10_carryOutRule_54 : decode cX10_carryOutRule 54 = .ok (.iconst 0, 1) := by decide +kernel
theorem dX10_carryOutRule_55 : decode cX10_carryOutRule 55 = .ok (.ireturn, 1) := by decide +kernel
theorem dX10_carryOutRule_56 : decode cX10_carryOutRule 56 = .ok (.bipush 100, 2) := by decide +kernel
theorem dX10_carryOutRule_58 : decode cX10_carryOutRule 58 = .ok (.iload_n 3, 1) := by decide +kernel
theorem dX10_carryOutRule_59 : decode cX10_carryOutRule 59 = .ok (.imul, 1) := by decide +kernel
theorem dX10_carryOutRule_60 : decode cX10_carryOutRule 60 = .ok (.iload 4, 2) := by decide +kernel
theorem dX10_carryOutRule_62 : decode cX10_carryOutRule 62 = .ok (.iadd, 1) := by decide +kernel
theorem dX10_carryOutRule_63 : decode cX10_carryOutRule 63 = .ok (.istore 5, 2) := by decide +kernel
theorem dX10_carryOutRule_65 : decode cX10_carryOutRule 65 = .ok (.aload_n 0, 1) := by decide +kernel
theorem dX10_carryOutRule_66 : decode cX10_carryOutRule 66 = .ok (.getfield 47, 3) := by decide +kernel
theorem dX10_carryOutRule_69 : decode cX10_carryOutRule 69 = .ok (.iload_n 1, 1) := by decide +kernel
theorem dX10_carryOutRule_70 : decode cX10_carryOutRule 70 = .ok (.iconst 3, 1) := by decide +kernel
theorem dX10_carryOutRule_71 : decode cX10_carryOutRule 71 = .ok (.invokevirtual 503, 3) := by decide +kernel
theorem dX10_carryOutRule_74 : decode cX10_carryOutRule 74 = .ok (.istore 6, 2) := by decide +kernel
theorem dX10_carryOutRule_76 : decode cX10_carryOutRule 76 = .ok (.aload_n 0, 1) := by decide +kernel
theorem dX10_carryOutRule_77 : decode cX10_carryOutRule 77 = .ok (.getfield 47, 3) := by decide +kernel
theorem dX10_carryOutRule_80 : decode cX10_carryOutRule 80 = .ok (.iload_n 1, 1) := by decide +kernel
theorem dX10_carryOutRule_81 : decode cX10_carryOutRule 81 = .ok (.iconst 4, 1) := by decide +kernel
theorem dX10_carryOutRule_82 : decode cX10_carryOutRule 82 = .ok (.invokevirtual 503, 3) := by decide +kernel
theorem dX10_carryOutRule_85 : decode cX10_carryOutRule 85 = .ok (.istore 7, 2) := by decide +kernel
theorem dX10_carryOutRule_87 : decode cX10_carryOutRule 87 = .ok (.bipush 10, 2) := by decide +kernel
theorem dX10_carryOutRule_89 : decode cX10_carryOutRule 89 = .ok (.aload_n 0, 1) := by decide +kernel
theorem dX10_carryOutRule_90 : decode cX10_carryOutRule 90 = .ok (.getfield 47, 3) := by decide +kernel
theorem dX10_carryOutRule_93 : decode cX10_carryOutRule 93 = .ok (.iload_n 1, 1) := by decide +kernel
theorem dX10_carryOutRule_94 : decode cX10_carryOutRule 94 = .ok (.iconst 5, 1) := by decide +kernel
theorem dX10_carryOutRule_95 : decode cX10_carryOutRule 95 = .ok (.invokevirtual 503, 3) := by decide +kernel
theorem dX10_carryOutRule_98 : decode cX10_carryOutRule 98 = .ok (.imul, 1) := by decide +kernel
theorem dX10_carryOutRule_99 : decode cX10_carryOutRule 99 = .ok (.aload_n 0, 1) := by decide +kernel
theorem dX10_carryOutRule_100 : decode cX10_carryOutRule 100 = .ok (.getfield 47, 3) := by decide +kernel
theorem dX10_carryOutRule_103 : decode cX10_carryOutRule 103 = .ok (.iload_n 1, 1) := by decide +kernel
theorem dX10_carryOutRule_104 : decode cX10_carryOutRule 104 = .ok (.bipush 6, 2) := by decide +kernel
theorem dX10_carryOutRule_106 : decode cX10_carryOutRule 106 = .ok (.invokevirtual 503, 3) := by decide +kernel
theorem dX10_carryOutRule_109 : decode cX10_carryOutRule 109 = .ok (.iadd, 1) := by decide +kernel
theorem dX10_carryOutRule_110 : decode cX10_carryOutRule 110 = .ok (.istore 8, 2) := by decide +kernel
theorem dX10_carryOutRule_112 : decode cX10_carryOutRule 112 = .ok (.aload_n 0, 1) := by decide +kernel
theorem dX10_carryOutRule_113 : decode cX10_carryOutRule 113 = .ok (.getfield 47, 3) := by decide +kernel
theorem dX10_carryOutRule_116 : decode cX10_carryOutRule 116 = .ok (.iload_n 1, 1) := by decide +kernel
theorem dX10_carryOutRule_117 : decode cX10_carryOutRule 117 = .ok (.bipush 7, 2) := by decide +kernel
theorem dX10_carryOutRule_119 : decode cX10_carryOutRule 119 = .ok (.invokevirtual 503, 3) := by decide +kernel
theorem dX10_carryOutRule_122 : decode cX10_carryOutRule 122 = .ok (.istore 9, 2) := by decide +kernel
theorem dX10_carryOutRule_124 : decode cX10_carryOutRule 124 = .ok (.aload_n 0, 1) := by decide +kernel
theorem dX10_carryOutRule_125 : decode cX10_carryOutRule 125 = .ok (.iload_n 2, 1) := by decide +kernel
theorem dX10_carryOutRule_126 : decode cX10_carryOutRule 126 = .ok (.iload 5, 2) := by decide +kernel
theorem dX10_carryOutRule_128 : decode cX10_carryOutRule 128 = .ok (.iload 6, 2) := by decide +kernel
theorem dX10_carryOutRule_130 : decode cX10_carryOutRule 130 = .ok (.iload 7, 2) := by decide +kernel
theorem dX10_carryOutRule_132 : decode cX10_carryOutRule 132 = .ok (.iload 8, 2) := by decide +kernel
theorem dX10_carryOutRule_134 : decode cX10_carryOutRule 134 = .ok (.iload 9, 2) := by decide +kernel
theorem dX10_carryOutRule_136 : decode cX10_carryOutRule 136 = .ok (.invokevirtual 124, 3) := by decide +kernel
theorem dX10_carryOutRule_139 : decode cX10_carryOutRule 139 = .ok (.ifCond .ne 25, 3) := by decide +kernel
theorem dX10_carryOutRule_142 : decode cX10_carryOutRule 142 = .ok (.aload_n 0, 1) := by decide +kernel
theorem dX10_carryOutRule_143 : decode cX10_carryOutRule 143 = .ok (.iload_n 2, 1) := by decide +kernel
theorem dX10_carryOutRule_144 : decode cX10_carryOutRule 144 = .ok (.iload 5, 2) := by decide +kernel
theorem dX10_carryOutRule_146 : decode cX10_carryOutRule 146 = .ok (.iload 6, 2) := by decide +kernel
theorem dX10_carryOutRule_148 : decode cX10_carryOutRule 148 = .ok (.iload 7, 2) := by decide +kernel
theorem dX10_carryOutRule_150 : decode cX10_carryOutRule 150 = .ok (.iload 8, 2) := by decide +kernel
theorem dX10_carryOutRule_152 : decode cX10_carryOutRule 152 = .ok (.iload 9, 2) := by decide +kernel
theorem dX10_carryOutRule_154 : decode cX10_carryOutRule 154 = .ok (.invokevirtual 128, 3) := by decide +kernel
theorem dX10_carryOutRule_157 : decode cX10_carryOutRule 157 = .ok (.ifCond .lt 7, 3) := by decide +kernel
theorem dX10_carryOutRule_160 : decode cX10_carryOutRule 160 = .ok (.iconst 1, 1) := by decide +kernel
theorem dX10_carryOutRule_161 : decode cX10_carryOutRule 161 = .ok (.goto 4, 3) := by decide +kernel
theorem dX10_carryOutRule_164 : decode cX10_carryOutRule 164 = .ok (.iconst 0, 1) := by decide +kernel
theorem dX10_carryOutRule_165 : decode cX10_carryOutRule 165 = .ok (.ireturn, 1) := by decide +kernel
theorem dX10_compiled_0 : decode cX10_compiled 0 = .ok (.aload_n 0, 1) := by decide +kernel
theorem dX10_compiled_1 : decode cX10_compiled 1 = .ok (.getfield 25, 3) := by decide +kernel
theorem dX10_compiled_4 : decode cX10_compiled 4 = .ok (.iload_n 1, 1) := by decide +kernel
theorem dX10_compiled_5 : decode cX10_compiled 5 = .ok (.aaload, 1) := by decide +kernel
theorem dX10_compiled_6 : decode cX10_compiled 6 = .ok (.astore_n 2, 1) := by decide +kernel
theorem dX10_compiled_7 : decode cX10_compiled 7 = .ok (.aload_n 2, 1) := by decide +kernel
theorem dX10_compiled_8 : decode cX10_compiled 8 = .ok (.getfield 516, 3) := by decide +kernel
theorem dX10_compiled_11 : decode cX10_compiled 11 = .ok (.ifCond .ne 47, 3) := by decide +kernel
theorem dX10_compiled_14 : decode cX10_compiled 14 = .ok (.aload_n 0, 1) := by decide +kernel
theorem dX10_compiled_15 : decode cX10_compiled 15 = .ok (.getfield 12, 3) := by decide +kernel
theorem dX10_compiled_18 : decode cX10_compiled 18 = .ok (.getfield 140, 3) := by decide +kernel
theorem dX10_compiled_21 : decode cX10_compiled 21 = .ok (.iload_n 1, 1) := by decide +kernel
theorem dX10_compiled_22 : decode cX10_compiled 22 = .ok (.aaload, 1) := by decide +kernel
theorem dX10_compiled_23 : decode cX10_compiled 23 = .ok (.astore_n 3, 1) := by decide +kernel
theorem dX10_compiled_24 : decode cX10_compiled 24 = .ok (.aload_n 3, 1) := by decide +kernel
theorem dX10_compiled_25 : decode cX10_compiled 25 = .ok (.aload_n 0, 1) := by decide +kernel
theorem dX10_compiled_26 : decode cX10_compiled 26 = .ok (.getfield 58, 3) := by decide +kernel
theorem dX10_compiled_29 : decode cX10_compiled 29 = .ok (.invokevirtual 519, 3) := by decide +kernel
theorem dX10_compiled_32 : decode cX10_compiled 32 = .ok (.istore 4, 2) := by decide +kernel
theorem dX10_compiled_34 : decode cX10_compiled 34 = .ok (.aload_n 0, 1) := by decide +kernel
theorem dX10_compiled_35 : decode cX10_compiled 35 = .ok (.getfield 58, 3) := by decide +kernel
theorem dX10_compiled_38 : decode cX10_compiled 38 = .ok (.iload 4, 2) := by decide +kernel
theorem dX10_compiled_40 : decode cX10_compiled 40 = .ok (.invokestatic 219, 3) := by decide +kernel
theorem dX10_compiled_43 : decode cX10_compiled 43 = .ok (.aload_n 2, 1) := by decide +kernel
theorem dX10_compiled_44 : decode cX10_compiled 44 = .ok (.aload_n 3, 1) := by decide +kernel
theorem dX10_compiled_45 : decode cX10_compiled 45 = .ok (.aload_n 0, 1) := by decide +kernel
theorem dX10_compiled_46 : decode cX10_compiled 46 = .ok (.getfield 58, 3) := by decide +kernel
theorem dX10_compiled_49 : decode cX10_compiled 49 = .ok (.iload 4, 2) := by decide +kernel
theorem dX10_compiled_51 : decode cX10_compiled 51 = .ok (.aload_n 0, 1) := by decide +kernel
theorem dX10_compiled_52 : decode cX10_compiled 52 = .ok (.getfield 40, 3) := by decide +kernel
theorem dX10_compiled_55 : decode cX10_compiled 55 = .ok (.invokevirtual 523, 3) := by decide +kernel
theorem dX10_compiled_58 : decode cX10_compiled 58 = .ok (.aload_n 2, 1) := by decide +kernel
theorem dX10_compiled_59 : decode cX10_compiled 59 = .ok (.areturn, 1) := by decide +kernel
theorem dX10_laidOut_0 : decode cX10_laidOut 0 = .ok (.aload_n 0, 1) := by decide +kernel
theorem dX10_laidOut_1 : decode cX10_laidOut 1 = .ok (.getfield 32, 3) := by decide +kernel
theorem dX10_laidOut_4 : decode cX10_laidOut 4 = .ok (.iload_n 1, 1) := by decide +kernel
theorem dX10_laidOut_5 : decode cX10_laidOut 5 = .ok (.aaload, 1) := by decide +kernel
theorem dX10_laidOut_6 : decode cX10_laidOut 6 = .ok (.astore_n 2, 1) := by decide +kernel
theorem dX10_laidOut_7 : decode cX10_laidOut 7 = .ok (.aload_n 2, 1) := by decide +kernel
theorem dX10_laidOut_8 : decode cX10_laidOut 8 = .ok (.getfield 527, 3) := by decide +kernel
theorem dX10_laidOut_11 : decode cX10_laidOut 11 = .ok (.ifCond .ne 16, 3) := by decide +kernel
theorem dX10_laidOut_14 : decode cX10_laidOut 14 = .ok (.aload_n 2, 1) := by decide +kernel
theorem dX10_laidOut_15 : decode cX10_laidOut 15 = .ok (.aload_n 0, 1) := by decide +kernel
theorem dX10_laidOut_16 : decode cX10_laidOut 16 = .ok (.getfield 12, 3) := by decide +kernel
theorem dX10_laidOut_19 : decode cX10_laidOut 19 = .ok (.getfield 269, 3) := by decide +kernel
theorem dX10_laidOut_22 : decode cX10_laidOut 22 = .ok (.iload_n 1, 1) := by decide +kernel
theorem dX10_laidOut_23 : decode cX10_laidOut 23 = .ok (.aaload, 1) := by decide +kernel
theorem dX10_laidOut_24 : decode cX10_laidOut 24 = .ok (.invokevirtual 530, 3) := by decide +kernel
theorem dX10_laidOut_27 : decode cX10_laidOut 27 = .ok (.aload_n 2, 1) := by decide +kernel
theorem dX10_laidOut_28 : decode cX10_laidOut 28 = .ok (.areturn, 1) := by decide +kernel
theorem dX10_timed_0 : decode cX10_timed 0 = .ok (.aload_n 0, 1) := by decide +kernel
theorem dX10_timed_1 : decode cX10_timed 1 = .ok (.iload_n 1, 1) := by decide +kernel
theorem dX10_timed_2 : decode cX10_timed 2 = .ok (.invokevirtual 291, 3) := by decide +kernel
theorem dX10_timed_5 : decode cX10_timed 5 = .ok (.astore_n 2, 1) := by decide +kernel
theorem dX10_timed_6 : decode cX10_timed 6 = .ok (.aload_n 2, 1) := by decide +kernel
theorem dX10_timed_7 : decode cX10_timed 7 = .ok (.getfield 307, 3) := by decide +kernel
theorem dX10_timed_10 : decode cX10_timed 10 = .ok (.ifCond .ne 32, 3) := by decide +kernel
theorem dX10_timed_13 : decode cX10_timed 13 = .ok (.aload_n 2, 1) := by decide +kernel
theorem dX10_timed_14 : decode cX10_timed 14 = .ok (.aload_n 0, 1) := by decide +kernel
theorem dX10_timed_15 : decode cX10_timed 15 = .ok (.getfield 12, 3) := by decide +kernel
theorem dX10_timed_18 : decode cX10_timed 18 = .ok (.getfield 269, 3) := by decide +kernel
theorem dX10_timed_21 : decode cX10_timed 21 = .ok (.iload_n 1, 1) := by decide +kernel
theorem dX10_timed_22 : decode cX10_timed 22 = .ok (.aaload, 1) := by decide +kernel
theorem dX10_timed_23 : decode cX10_timed 23 = .ok (.aload_n 0, 1) := by decide +kernel
theorem dX10_timed_24 : decode cX10_timed 24 = .ok (.aload_n 0, 1) := by decide +kernel
theorem dX10_timed_25 : decode cX10_timed 25 = .ok (.getfield 12, 3) := by decide +kernel
theorem dX10_timed_28 : decode cX10_timed 28 = .ok (.getfield 269, 3) := by decide +kernel
theorem dX10_timed_31 : decode cX10_timed 31 = .ok (.iload_n 1, 1) := by decide +kernel
theorem dX10_timed_32 : decode cX10_timed 32 = .ok (.aaload, 1) := by decide +kernel
theorem dX10_timed_33 : decode cX10_timed 33 = .ok (.getfield 311, 3) := by decide +kernel
theorem dX10_timed_36 : decode cX10_timed 36 = .ok (.invokevirtual 144, 3) := by decide +kernel
theorem dX10_timed_39 : decode cX10_timed 39 = .ok (.invokevirtual 534, 3) := by decide +kernel
theorem dX10_timed_42 : decode cX10_timed 42 = .ok (.aload_n 2, 1) := by decide +kernel
theorem dX10_timed_43 : decode cX10_timed 43 = .ok (.areturn, 1) := by decide +kernel
theorem dX10_spoil_0 : decode cX10_spoil 0 = .ok (.aload_n 0, 1) := by decide +kernel
theorem dX10_spoil_1 : decode cX10_spoil 1 = .ok (.getfield 25, 3) := by decide +kernel
theorem dX10_spoil_4 : decode cX10_spoil 4 = .ok (.iload_n 1, 1) := by decide +kernel
theorem dX10_spoil_5 : decode cX10_spoil 5 = .ok (.aaload, 1) := by decide +kernel
theorem dX10_spoil_6 : decode cX10_spoil 6 = .ok (.iconst 0, 1) := by decide +kernel
theorem dX10_spoil_7 : decode cX10_spoil 7 = .ok (.putfield 516, 3) := by decide +kernel
theorem dX10_spoil_10 : decode cX10_spoil 10 = .ok (.iconst 0, 1) := by decide +kernel
theorem dX10_spoil_11 : decode cX10_spoil 11 = .ok (.istore_n 2, 1) := by decide +kernel
theorem dX10_spoil_12 : decode cX10_spoil 12 = .ok (.iload_n 2, 1) := by decide +kernel
theorem dX10_spoil_13 : decode cX10_spoil 13 = .ok (.bipush 10, 2) := by decide +kernel
theorem dX10_spoil_15 : decode cX10_spoil 15 = .ok (.if_icmp .ge 19, 3) := by decide +kernel
theorem dX10_spoil_18 : decode cX10_spoil 18 = .ok (.aload_n 0, 1) := by decide +kernel
theorem dX10_spoil_19 : decode cX10_spoil 19 = .ok (.getfield 32, 3) := by decide +kernel
theorem dX10_spoil_22 : decode cX10_spoil 22 = .ok (.iload_n 2, 1) := by decide +kernel
theorem dX10_spoil_23 : decode cX10_spoil 23 = .ok (.aaload, 1) := by decide +kernel
theorem dX10_spoil_24 : decode cX10_spoil 24 = .ok (.iconst 0, 1) := by decide +kernel
theorem dX10_spoil_25 : decode cX10_spoil 25 = .ok (.putfield 307, 3) := by decide +kernel
theorem dX10_spoil_28 : decode cX10_spoil 28 = .ok (.iinc 2 1, 3) := by decide +kernel
theorem dX10_spoil_31 : decode cX10_spoil 31 = .ok (.goto (-19), 3) := by decide +kernel
theorem dX10_spoil_34 : decode cX10_spoil 34 = .ok (.return_, 1) := by decide +kernel
theorem dX10_spoilAll_0 : decode cX10_spoilAll 0 = .ok (.iconst 0, 1) := by decide +kernel
theorem dX10_spoilAll_1 : decode cX10_spoilAll 1 = .ok (.istore_n 1, 1) := by decide +kernel
theorem dX10_spoilAll_2 : decode cX10_spoilAll 2 = .ok (.iload_n 1, 1) := by decide +kernel
theorem dX10_spoilAll_3 : decode cX10_spoilAll 3 = .ok (.bipush 6, 2) := by decide +kernel
theorem dX10_spoilAll_5 : decode cX10_spoilAll 5 = .ok (.if_icmp .ge 19, 3) := by decide +kernel
theorem dX10_spoilAll_8 : decode cX10_spoilAll 8 = .ok (.aload_n 0, 1) := by decide +kernel
theorem dX10_spoilAll_9 : decode cX10_spoilAll 9 = .ok (.getfield 25, 3) := by decide +kernel
theorem dX10_spoilAll_12 : decode cX10_spoilAll 12 = .ok (.iload_n 1, 1) := by decide +kernel
theorem dX10_spoilAll_13 : decode cX10_spoilAll 13 = .ok (.aaload, 1) := by decide +kernel
theorem dX10_spoilAll_14 : decode cX10_spoilAll 14 = .ok (.iconst 0, 1) := by decide +kernel
theorem dX10_spoilAll_15 : decode cX10_spoilAll 15 = .ok (.putfield 516, 3) := by decide +kernel
theorem dX10_spoilAll_18 : decode cX10_spoilAll 18 = .ok (.iinc 1 1, 3) := by decide +kernel
theorem dX10_spoilAll_21 : decode cX10_spoilAll 21 = .ok (.goto (-19), 3) := by decide +kernel
theorem dX10_spoilAll_24 : decode cX10_spoilAll 24 = .ok (.iconst 0, 1) := by decide +kernel
theorem dX10_spoilAll_25 : decode cX10_spoilAll 25 = .ok (.istore_n 1, 1) := by decide +kernel
theorem dX10_spoilAll_26 : decode cX10_spoilAll 26 = .ok (.iload_n 1, 1) := by decide +kernel
theorem dX10_spoilAll_27 : decode cX10_spoilAll 27 = .ok (.bipush 10, 2) := by decide +kernel
theorem dX10_spoilAll_29 : decode cX10_spoilAll 29 = .ok (.if_icmp .ge 18, 3) := by decide +kernel
theorem dX10_spoilAll_32 : decode cX10_spoilAll 32 = .ok (.aload_n 0, 1) := by decide +kernel
theorem dX10_spoilAll_33 : decode cX10_spoilAll 33 = .ok (.getfield 32, 3) := by decide +kernel
theorem dX10_spoilAll_36 : decode cX10_spoilAll 36 = .ok (.iload_n 1, 1) := by decide +kernel
theorem dX10_spoilAll_37 : decode cX10_spoilAll 37 = .ok (.aaload, 1) := by decide +kernel
theorem dX10_spoilAll_38 : decode cX10_spoilAll 38 = .ok (.invokevirtual 278, 3) := by decide +kernel
theorem dX10_spoilAll_41 : decode cX10_spoilAll 41 = .ok (.iinc 1 1, 3) := by decide +kernel
theorem dX10_spoilAll_44 : decode cX10_spoilAll 44 = .ok (.goto (-18), 3) := by decide +kernel
theorem dX10_spoilAll_47 : decode cX10_spoilAll 47 = .ok (.return_, 1) := by decide +kernel
theorem dX10_stateOf_0 : decode cX10_stateOf 0 = .ok (.aload_n 0, 1) := by decide +kernel
theorem dX10_stateOf_1 : decode cX10_stateOf 1 = .ok (.iload_n 2, 1) := by decide +kernel
theorem dX10_stateOf_2 : decode cX10_stateOf 2 = .ok (.invokevirtual 500, 3) := by decide +kernel
theorem dX10_stateOf_5 : decode cX10_stateOf 5 = .ok (.ifCond .eq 5, 3) := by decide +kernel
theorem dX10_stateOf_8 : decode cX10_stateOf 8 = .ok (.iconst 1, 1) := by decide +kernel
theorem dX10_stateOf_9 : decode cX10_stateOf 9 = .ok (.ireturn, 1) := by decide +kernel
theorem dX10_stateOf_10 : decode cX10_stateOf 10 = .ok (.aload_n 1, 1) := by decide +kernel
theorem dX10_stateOf_11 : decode cX10_stateOf 11 = .ok (.aload_n 0, 1) := by decide +kernel
theorem dX10_stateOf_12 : decode cX10_stateOf 12 = .ok (.iload_n 2, 1) := by decide +kernel
theorem dX10_stateOf_13 : decode cX10_stateOf 13 = .ok (.invokevirtual 355, 3) := by decide +kernel
theorem dX10_stateOf_16 : decode cX10_stateOf 16 = .ok (.ifCond .eq 7, 3) := by decide +kernel
theorem dX10_stateOf_19 : decode cX10_stateOf 19 = .ok (.iconst 0, 1) := by decide +kernel
theorem dX10_stateOf_20 : decode cX10_stateOf 20 = .ok (.goto 4, 3) := by decide +kernel
theorem dX10_stateOf_23 : decode cX10_stateOf 23 = .ok (.iconst 2, 1) := by decide +kernel
theorem dX10_stateOf_24 : decode cX10_stateOf 24 = .ok (.ireturn, 1) := by decide +kernel
theorem dX10_firstClash_0 : decode cX10_firstClash 0 = .ok (.aload_n 0, 1) := by decide +kernel
theorem dX10_firstClash_1 : decode cX10_firstClash 1 = .ok (.getfield 12, 3) := by decide +kernel
theorem dX10_firstClash_4 : decode cX10_firstClash 4 = .ok (.getfield 269, 3) := by decide +kernel
theorem dX10_firstClash_7 : decode cX10_firstClash 7 = .ok (.iload_n 3, 1) := by decide +kernel
theorem dX10_firstClash_8 : decode cX10_firstClash 8 = .ok (.aaload, 1) := by decide +kernel
theorem dX10_firstClash_9 : decode cX10_firstClash 9 = .ok (.astore 4, 2) := by decide +kernel
theorem dX10_firstClash_11 : decode cX10_firstClash 11 = .ok (.aload_n 0, 1) := by decide +kernel
theorem dX10_firstClash_12 : decode cX10_firstClash 12 = .ok (.getfield 32, 3) := by decide +kernel
theorem dX10_firstClash_15 : decode cX10_firstClash 15 = .ok (.iload_n 3, 1) := by decide +kernel
theorem dX10_firstClash_16 : decode cX10_firstClash 16 = .ok (.aaload, 1) := by decide +kernel
theorem dX10_firstClash_17 : decode cX10_firstClash 17 = .ok (.astore 5, 2) := by decide +kernel
theorem dX10_firstClash_19 : decode cX10_firstClash 19 = .ok (.aload_n 0, 1) := by decide +kernel
theorem dX10_firstClash_20 : decode cX10_firstClash 20 = .ok (.getfield 32, 3) := by decide +kernel
theorem dX10_firstClash_23 : decode cX10_firstClash 23 = .ok (.iload_n 1, 1) := by decide +kernel
theorem dX10_firstClash_24 : decode cX10_firstClash 24 = .ok (.aaload, 1) := by decide +kernel
theorem dX10_firstClash_25 : decode cX10_firstClash 25 = .ok (.getfield 359, 3) := by decide +kernel
theorem dX10_firstClash_28 : decode cX10_firstClash 28 = .ok (.iload_n 2, 1) := by decide +kernel
theorem dX10_firstClash_29 : decode cX10_firstClash 29 = .ok (.iaload, 1) := by decide +kernel
theorem dX10_firstClash_30 : decode cX10_firstClash 30 = .ok (.istore 6, 2) := by decide +kernel
theorem dX10_firstClash_32 : decode cX10_firstClash 32 = .ok (.iload 6, 2) := by decide +kernel
theorem dX10_firstClash_34 : decode cX10_firstClash 34 = .ok (.aload_n 0, 1) := by decide +kernel
theorem dX10_firstClash_35 : decode cX10_firstClash 35 = .ok (.getfield 12, 3) := by decide +kernel
theorem dX10_firstClash_38 : decode cX10_firstClash 38 = .ok (.getfield 269, 3) := by decide +kernel
theorem dX10_firstClash_41 : decode cX10_firstClash 41 = .ok (.iload_n 1, 1) := by decide +kernel
theorem dX10_firstClash_42 : decode cX10_firstClash 42 = .ok (.aaload, 1) := by decide +kernel
theorem dX10_firstClash_43 : decode cX10_firstClash 43 = .ok (.getfield 320, 3) := by decide +kernel
theorem dX10_firstClash_46 : decode cX10_firstClash 46 = .ok (.iadd, 1) := by decide +kernel
theorem dX10_firstClash_47 : decode cX10_firstClash 47 = .ok (.istore 7, 2) := by decide +kernel
theorem dX10_firstClash_49 : decode cX10_firstClash 49 = .ok (.iload_n 1, 1) := by decide +kernel
theorem dX10_firstClash_50 : decode cX10_firstClash 50 = .ok (.iload_n 3, 1) := by decide +kernel
theorem dX10_firstClash_51 : decode cX10_firstClash 51 = .ok (.if_icmp .ne 9, 3) := by decide +kernel
theorem dX10_firstClash_54 : decode cX10_firstClash 54 = .ok (.iload_n 2, 1) := by decide +kernel
theorem dX10_firstClash_55 : decode cX10_firstClash 55 = .ok (.iconst 1, 1) := by decide +kernel
theorem dX10_firstClash_56 : decode cX10_firstClash 56 = .ok (.iadd, 1) := by decide +kernel
theorem dX10_firstClash_57 : decode cX10_firstClash 57 = .ok (.goto 4, 3) := by decide +kernel
theorem dX10_firstClash_60 : decode cX10_firstClash 60 = .ok (.iconst 0, 1) := by decide +kernel
theorem dX10_firstClash_61 : decode cX10_firstClash 61 = .ok (.istore 8, 2) := by decide +kernel
theorem dX10_firstClash_63 : decode cX10_firstClash 63 = .ok (.iload 8, 2) := by decide +kernel
theorem dX10_firstClash_65 : decode cX10_firstClash 65 = .ok (.aload 5, 2) := by decide +kernel
theorem dX10_firstClash_67 : decode cX10_firstClash 67 = .ok (.getfield 295, 3) := by decide +kernel
theorem dX10_firstClash_70 : decode cX10_firstClash 70 = .ok (.if_icmp .ge 56, 3) := by decide +kernel
theorem dX10_firstClash_73 : decode cX10_firstClash 73 = .ok (.aload 5, 2) := by decide +kernel
theorem dX10_firstClash_75 : decode cX10_firstClash 75 = .ok (.aload 4, 2) := by decide +kernel
theorem dX10_firstClash_77 : decode cX10_firstClash 77 = .ok (.iload 8, 2) := by decide +kernel
theorem dX10_firstClash_79 : decode cX10_firstClash 79 = .ok (.invokevirtual 355, 3) := by decide +kernel
theorem dX10_firstClash_82 : decode cX10_firstClash 82 = .ok (.ifCond .eq 38, 3) := by decide +kernel
theorem dX10_firstClash_85 : decode cX10_firstClash 85 = .ok (.aload 5, 2) := by decide +kernel
theorem dX10_firstClash_87 : decode cX10_firstClash 87 = .ok (.getfield 359, 3) := by decide +kernel
theorem dX10_firstClash_90 : decode cX10_firstClash 90 = .ok (.iload 8, 2) := by decide +kernel
theorem dX10_firstClash_92 : decode cX10_firstClash 92 = .ok (.iaload, 1) := by decide +kernel
theorem dX10_firstClash_93 : decode cX10_firstClash 93 = .ok (.iload 7, 2) := by decide +kernel
theorem dX10_firstClash_95 : decode cX10_firstClash 95 = .ok (.if_icmp .ge 25, 3) := by decide +kernel
theorem dX10_firstClash_98 : decode cX10_firstClash 98 = .ok (.iload 6, 2) := by decide +kernel
theorem dX10_firstClash_100 : decode cX10_firstClash 100 = .ok (.aload 5, 2) := by decide +kernel
theorem dX10_firstClash_102 : decode cX10_firstClash 102 = .ok (.getfield 359, 3) := by decide +kernel
theorem dX10_firstClash_105 : decode cX10_firstClash 105 = .ok (.iload 8, 2) := by decide +kernel
theorem dX10_firstClash_107 : decode cX10_firstClash 107 = .ok (.iaload, 1) := by decide +kernel
theorem dX10_firstClash_108 : decode cX10_firstClash 108 = .ok (.aload 4, 2) := by decide +kernel
theorem dX10_firstClash_110 : decode cX10_firstClash 110 = .ok (.getfield 320, 3) := by decide +kernel
theorem dX10_firstClash_113 : decode cX10_firstClash 113 = .ok (.iadd, 1) := by decide +kernel
theorem dX10_firstClash_114 : decode cX10_firstClash 114 = .ok (.if_icmp .ge 6, 3) := by decide +kernel
theorem dX10_firstClash_117 : decode cX10_firstClash 117 = .ok (.iload 8, 2) := by decide +kernel
theorem dX10_firstClash_119 : decode cX10_firstClash 119 = .ok (.ireturn, 1) := by decide +kernel
theorem dX10_firstClash_120 : decode cX10_firstClash 120 = .ok (.iinc 8 1, 3) := by decide +kernel
theorem dX10_firstClash_123 : decode cX10_firstClash 123 = .ok (.goto (-60), 3) := by decide +kernel
theorem dX10_firstClash_126 : decode cX10_firstClash 126 = .ok (.iconst (-1), 1) := by decide +kernel
theorem dX10_firstClash_127 : decode cX10_firstClash 127 = .ok (.ireturn, 1) := by decide +kernel
theorem dX10_listBeginnings_0 : decode cX10_listBeginnings 0 = .ok (.iconst 0, 1) := by decide +kernel
theorem dX10_listBeginnings_1 : decode cX10_listBeginnings 1 = .ok (.istore_n 2, 1) := by decide +kernel
theorem dX10_listBeginnings_2 : decode cX10_listBeginnings 2 = .ok (.iconst 0, 1) := by decide +kernel
theorem dX10_listBeginnings_3 : decode cX10_listBeginnings 3 = .ok (.istore_n 3, 1) := by decide +kernel
theorem dX10_listBeginnings_4 : decode cX10_listBeginnings 4 = .ok (.iload_n 3, 1) := by decide +kernel
theorem dX10_listBeginnings_5 : decode cX10_listBeginnings 5 = .ok (.aload_n 0, 1) := by decide +kernel
theorem dX10_listBeginnings_6 : decode cX10_listBeginnings 6 = .ok (.getfield 12, 3) := by decide +kernel
theorem dX10_listBeginnings_9 : decode cX10_listBeginnings 9 = .ok (.getfield 266, 3) := by decide +kernel
theorem dX10_listBeginnings_12 : decode cX10_listBeginnings 12 = .ok (.if_icmp .ge 119, 3) := by decide +kernel
theorem dX10_listBeginnings_15 : decode cX10_listBeginnings 15 = .ok (.aload_n 0, 1) := by decide +kernel
theorem dX10_listBeginnings_16 : decode cX10_listBeginnings 16 = .ok (.getfield 12, 3) := by decide +kernel
theorem dX10_listBeginnings_19 : decode cX10_listBeginnings 19 = .ok (.getfield 269, 3) := by decide +kernel
theorem dX10_listBeginnings_22 : decode cX10_listBeginnings 22 = .ok (.iload_n 3, 1) := by decide +kernel
theorem dX10_listBeginnings_23 : decode cX10_listBeginnings 23 = .ok (.aaload, 1) := by decide +kernel
theorem dX10_listBeginnings_24 : decode cX10_listBeginnings 24 = .ok (.astore 4, 2) := by decide +kernel
theorem dX10_listBeginnings_26 : decode cX10_listBeginnings 26 = .ok (.aload_n 0, 1) := by decide +kernel
theorem dX10_listBeginnings_27 : decode cX10_listBeginnings 27 = .ok (.iload_n 3, 1) := by decide +kernel
theorem dX10_listBeginnings_28 : decode cX10_listBeginnings 28 = .ok (.invokevirtual 335, 3) := by decide +kernel
theorem dX10_listBeginnings_31 : decode cX10_listBeginnings 31 = .ok (.astore 5, 2) := by decide +kernel
theorem dX10_listBeginnings_33 : decode cX10_listBeginnings 33 = .ok (.iconst 0, 1) := by decide +kernel
theorem dX10_listBeginnings_34 : decode cX10_listBeginnings 34 = .ok (.istore 6, 2) := by decide +kernel
theorem dX10_listBeginnings_36 : decode cX10_listBeginnings 36 = .ok (.iload 6, 2) := by decide +kernel
theorem dX10_listBeginnings_38 : decode cX10_listBeginnings 38 = .ok (.aload 5, 2) := by decide +kernel
theorem dX10_listBeginnings_40 : decode cX10_listBeginnings 40 = .ok (.getfield 295, 3) := by decide +kernel
theorem dX10_listBeginnings_43 : decode cX10_listBeginnings 43 = .ok (.if_icmp .ge 82, 3) := by decide +kernel
theorem dX10_listBeginnings_46 : decode cX10_listBeginnings 46 = .ok (.aload 5, 2) := by decide +kernel
theorem dX10_listBeginnings_48 : decode cX10_listBeginnings 48 = .ok (.aload 4, 2) := by decide +kernel
theorem dX10_listBeginnings_50 : decode cX10_listBeginnings 50 = .ok (.iload 6, 2) := by decide +kernel
theorem dX10_listBeginnings_52 : decode cX10_listBeginnings 52 = .ok (.invokevirtual 355, 3) := by decide +kernel
theorem dX10_listBeginnings_55 : decode cX10_listBeginnings 55 = .ok (.ifCond .eq 64, 3) := by decide +kernel
theorem dX10_listBeginnings_58 : decode cX10_listBeginnings 58 = .ok (.aload 5, 2) := by decide +kernel
theorem dX10_listBeginnings_60 : decode cX10_listBeginnings 60 = .ok (.getfield 359, 3) := by decide +kernel
theorem dX10_listBeginnings_63 : decode cX10_listBeginnings 63 = .ok (.iload 6, 2) := by decide +kernel
theorem dX10_listBeginnings_65 : decode cX10_listBeginnings 65 = .ok (.iaload, 1) := by decide +kernel
theorem dX10_listBeginnings_66 : decode cX10_listBeginnings 66 = .ok (.iload_n 1, 1) := by decide +kernel
theorem dX10_listBeginnings_67 : decode cX10_listBeginnings 67 = .ok (.if_icmp .lt 52, 3) := by decide +kernel
theorem dX10_listBeginnings_70 : decode cX10_listBeginnings 70 = .ok (.iload_n 2, 1) := by decide +kernel
theorem dX10_listBeginnings_71 : decode cX10_listBeginnings 71 = .ok (.aload_n 0, 1) := by decide +kernel
theorem dX10_listBeginnings_72 : decode cX10_listBeginnings 72 = .ok (.getfield 62, 3) := by decide +kernel
theorem dX10_listBeginnings_75 : decode cX10_listBeginnings 75 = .ok (.arraylength, 1) := by decide +kernel
theorem dX10_listBeginnings_76 : decode cX10_listBeginnings 76 = .ok (.if_icmp .ge 43, 3) := by decide +kernel
theorem dX10_listBeginnings_79 : decode cX10_listBeginnings 79 = .ok (.aload 5, 2) := by decide +kernel
theorem dX10_listBeginnings_81 : decode cX10_listBeginnings 81 = .ok (.getfield 359, 3) := by decide +kernel
theorem dX10_listBeginnings_84 : decode cX10_listBeginnings 84 = .ok (.iload 6, 2) := by decide +kernel
theorem dX10_listBeginnings_86 : decode cX10_listBeginnings 86 = .ok (.iaload, 1) := by decide +kernel
theorem dX10_listBeginnings_87 : decode cX10_listBeginnings 87 = .ok (.sipush (-2000), 3) := by decide +kernel
theorem dX10_listBeginnings_90 : decode cX10_listBeginnings 90 = .ok (.isub, 1) := by decide +kernel
theorem dX10_listBeginnings_91 : decode cX10_listBeginnings 91 = .ok (.i2l, 1) := by decide +kernel
theorem dX10_listBeginnings_92 : decode cX10_listBeginnings 92 = .ok (.lstore 7, 2) := by decide +kernel
theorem dX10_listBeginnings_94 : decode cX10_listBeginnings 94 = .ok (.aload_n 0, 1) := by decide +kernel
theorem dX10_listBeginnings_95 : decode cX10_listBeginnings 95 = .ok (.getfield 62, 3) := by decide +kernel
theorem dX10_listBeginnings_98 : decode cX10_listBeginnings 98 = .ok (.iload_n 2, 1) := by decide +kernel
theorem dX10_listBeginnings_99 : decode cX10_listBeginnings 99 = .ok (.lload 7, 2) := by decide +kernel
theorem dX10_listBeginnings_101 : decode cX10_listBeginnings 101 = .ok (.ldc2_w 368, 3) := by decide +kernel
theorem dX10_listBeginnings_104 : decode cX10_listBeginnings 104 = .ok (.lmul, 1) := by decide +kernel
theorem dX10_listBeginnings_105 : decode cX10_listBeginnings 105 = .ok (.iload_n 3, 1) := by decide +kernel
theorem dX10_listBeginnings_106 : decode cX10_listBeginnings 106 = .ok (.bipush 40, 2) := by decide +kernel
theorem dX10_listBeginnings_108 : decode cX10_listBeginnings 108 = .ok (.imul, 1) := by decide +kernel
theorem dX10_listBeginnings_109 : decode cX10_listBeginnings 109 = .ok (.i2l, 1) := by decide +kernel
theorem dX10_listBeginnings_110 : decode cX10_listBeginnings 110 = .ok (.ladd, 1) := by decide +kernel
theorem dX10_listBeginnings_111 : decode cX10_listBeginnings 111 = .ok (.iload 6, 2) := by decide +kernel
theorem dX10_listBeginnings_113 : decode cX10_listBeginnings 113 = .ok (.i2l, 1) := by decide +kernel
theorem dX10_listBeginnings_114 : decode cX10_listBeginnings 114 = .ok (.ladd, 1) := by decide +kernel
theorem dX10_listBeginnings_115 : decode cX10_listBeginnings 115 = .ok (.lastore, 1) := by decide +kernel
theorem dX10_listBeginnings_116 : decode cX10_listBeginnings 116 = .ok (.iinc 2 1, 3) := by decide +kernel
theorem dX10_listBeginnings_119 : decode cX10_listBeginnings 119 = .ok (.iinc 6 1, 3) := by decide +kernel
theorem dX10_listBeginnings_122 : decode cX10_listBeginnings 122 = .ok (.goto (-86), 3) := by decide +kernel
theorem dX10_listBeginnings_125 : decode cX10_listBeginnings 125 = .ok (.iinc 3 1, 3) := by decide +kernel
theorem dX10_listBeginnings_128 : decode cX10_listBeginnings 128 = .ok (.goto (-124), 3) := by decide +kernel
theorem dX10_listBeginnings_131 : decode cX10_listBeginnings 131 = .ok (.iload_n 2, 1) := by decide +kernel
theorem dX10_listBeginnings_132 : decode cX10_listBeginnings 132 = .ok (.ireturn, 1) := by decide +kernel
theorem dX10_countOccurrences_0 : decode cX10_countOccurrences 0 = .ok (.iconst 0, 1) := by decide +kernel
theorem dX10_countOccurrences_1 : decode cX10_countOccurrences 1 = .ok (.istore_n 1, 1) := by decide +kernel
theorem dX10_countOccurrences_2 : decode cX10_countOccurrences 2 = .ok (.iconst 0, 1) := by decide +kernel
theorem dX10_countOccurrences_3 : decode cX10_countOccurrences 3 = .ok (.istore_n 2, 1) := by decide +kernel
theorem dX10_countOccurrences_4 : decode cX10_countOccurrences 4 = .ok (.iload_n 2, 1) := by decide +kernel
theorem dX10_countOccurrences_5 : decode cX10_countOccurrences 5 = .ok (.aload_n 0, 1) := by decide +kernel
theorem dX10_countOccurrences_6 : decode cX10_countOccurrences 6 = .ok (.getfield 12, 3) := by decide +kernel
theorem dX10_countOccurrences_9 : decode cX10_countOccurrences 9 = .ok (.getfield 266, 3) := by decide +kernel
theorem dX10_countOccurrences_12 : decode cX10_countOccurrences 12 = .ok (.if_icmp .ge 20, 3) := by decide +kernel
theorem dX10_countOccurrences_15 : decode cX10_countOccurrences 15 = .ok (.iload_n 1, 1) := by decide +kernel
theorem dX10_countOccurrences_16 : decode cX10_countOccurrences 16 = .ok (.aload_n 0, 1) := by decide +kernel
theorem dX10_countOccurrences_17 : decode cX10_countOccurrences 17 = .ok (.iload_n 2, 1) := by decide +kernel
theorem dX10_countOccurrences_18 : decode cX10_countOccurrences 18 = .ok (.invokevirtual 291, 3) := by decide +kernel
theorem dX10_countOccurrences_21 : decode cX10_countOccurrences 21 = .ok (.getfield 295, 3) := by decide +kernel
theorem dX10_countOccurrences_24 : decode cX10_countOccurrences 24 = .ok (.iadd, 1) := by decide +kernel
theorem dX10_countOccurrences_25 : decode cX10_countOccurrences 25 = .ok (.istore_n 1, 1) := by decide +kernel
theorem dX10_countOccurrences_26 : decode cX10_countOccurrences 26 = .ok (.iinc 2 1, 3) := by decide +kernel
theorem dX10_countOccurrences_29 : decode cX10_countOccurrences 29 = .ok (.goto (-25), 3) := by decide +kernel
theorem dX10_countOccurrences_32 : decode cX10_countOccurrences 32 = .ok (.iload_n 1, 1) := by decide +kernel
theorem dX10_countOccurrences_33 : decode cX10_countOccurrences 33 = .ok (.ireturn, 1) := by decide +kernel
theorem dX10_countTaking_0 : decode cX10_countTaking 0 = .ok (.iconst 0, 1) := by decide +kernel
theorem dX10_countTaking_1 : decode cX10_countTaking 1 = .ok (.istore_n 1, 1) := by decide +kernel
theorem dX10_countTaking_2 : decode cX10_countTaking 2 = .ok (.iconst 0, 1) := by decide +kernel
theorem dX10_countTaking_3 : decode cX10_countTaking 3 = .ok (.istore_n 2, 1) := by decide +kernel
theorem dX10_countTaking_4 : decode cX10_countTaking 4 = .ok (.iload_n 2, 1) := by decide +kernel
theorem dX10_countTaking_5 : decode cX10_countTaking 5 = .ok (.aload_n 0, 1) := by decide +kernel
theorem dX10_countTaking_6 : decode cX10_countTaking 6 = .ok (.getfield 12, 3) := by decide +kernel
theorem dX10_countTaking_9 : decode cX10_countTaking 9 = .ok (.getfield 266, 3) := by decide +kernel
theorem dX10_countTaking_12 : decode cX10_countTaking 12 = .ok (.if_icmp .ge 29, 3) := by decide +kernel
theorem dX10_countTaking_15 : decode cX10_countTaking 15 = .ok (.iload_n 1, 1) := by decide +kernel
theorem dX10_countTaking_16 : decode cX10_countTaking 16 = .ok (.aload_n 0, 1) := by decide +kernel
theorem dX10_countTaking_17 : decode cX10_countTaking 17 = .ok (.iload_n 2, 1) := by decide +kernel
theorem dX10_countTaking_18 : decode cX10_countTaking 18 = .ok (.invokevirtual 335, 3) := by decide +kernel
theorem dX10_countTaking_21 : decode cX10_countTaking 21 = .ok (.aload_n 0, 1) := by decide +kernel
theorem dX10_countTaking_22 : decode cX10_countTaking 22 = .ok (.getfield 12, 3) := by decide +kernel
theorem dX10_countTaking_25 : decode cX10_countTaking 25 = .ok (.getfield 269, 3) := by decide +kernel
theorem dX10_countTaking_28 : decode cX10_countTaking 28 = .ok (.iload_n 2, 1) := by decide +kernel
theorem dX10_countTaking_29 : decode cX10_countTaking 29 = .ok (.aaload, 1) := by decide +kernel
theorem dX10_countTaking_30 : decode cX10_countTaking 30 = .ok (.invokevirtual 337, 3) := by decide +kernel
theorem dX10_countTaking_33 : decode cX10_countTaking 33 = .ok (.iadd, 1) := by decide +kernel
theorem dX10_countTaking_34 : decode cX10_countTaking 34 = .ok (.istore_n 1, 1) := by decide +kernel
theorem dX10_countTaking_35 : decode cX10_countTaking 35 = .ok (.iinc 2 1, 3) := by decide +kernel
theorem dX10_countTaking_38 : decode cX10_countTaking 38 = .ok (.goto (-34), 3) := by decide +kernel
theorem dX10_countTaking_41 : decode cX10_countTaking 41 = .ok (.iload_n 1, 1) := by decide +kernel
theorem dX10_countTaking_42 : decode cX10_countTaking 42 = .ok (.ireturn, 1) := by decide +kernel
theorem dX10_addKey_0 : decode cX10_addKey 0 = .ok (.iconst 0, 1) := by decide +kernel
theorem dX10_addKey_1 : decode cX10_addKey 1 = .ok (.istore 4, 2) := by decide +kernel
theorem dX10_addKey_3 : decode cX10_addKey 3 = .ok (.iload 4, 2) := by decide +kernel
theorem dX10_addKey_5 : decode cX10_addKey 5 = .ok (.iload_n 1, 1) := by decide +kernel
theorem dX10_addKey_6 : decode cX10_addKey 6 = .ok (.if_icmp .ge 20, 3) := by decide +kernel
theorem dX10_addKey_9 : decode cX10_addKey 9 = .ok (.aload_n 0, 1) := by decide +kernel
theorem dX10_addKey_10 : decode cX10_addKey 10 = .ok (.iload 4, 2) := by decide +kernel
theorem dX10_addKey_12 : decode cX10_addKey 12 = .ok (.laload, 1) := by decide +kernel
theorem dX10_addKey_13 : decode cX10_addKey 13 = .ok (.lload_n 2, 1) := by decide +kernel
theorem dX10_addKey_14 : decode cX10_addKey 14 = .ok (.lcmp, 1) := by decide +kernel
theorem dX10_addKey_15 : decode cX10_addKey 15 = .ok (.ifCond .ne 5, 3) := by decide +kernel
theorem dX10_addKey_18 : decode cX10_addKey 18 = .ok (.iload_n 1, 1) := by decide +kernel
theorem dX10_addKey_19 : decode cX10_addKey 19 = .ok (.ireturn, 1) := by decide +kernel
theorem dX10_addKey_20 : decode cX10_addKey 20 = .ok (.iinc 4 1, 3) := by decide +kernel
theorem dX10_addKey_23 : decode cX10_addKey 23 = .ok (.goto (-20), 3) := by decide +kernel
theorem dX10_addKey_26 : decode cX10_addKey 26 = .ok (.iload_n 1, 1) := by decide +kernel
theorem dX10_addKey_27 : decode cX10_addKey 27 = .ok (.aload_n 0, 1) := by decide +kernel
theorem dX10_addKey_28 : decode cX10_addKey 28 = .ok (.arraylength, 1) := by decide +kernel
theorem dX10_addKey_29 : decode cX10_addKey 29 = .ok (.if_icmp .lt 5, 3) := by decide +kernel
theorem dX10_addKey_32 : decode cX10_addKey 32 = .ok (.iload_n 1, 1) := by decide +kernel
theorem dX10_addKey_33 : decode cX10_addKey 33 = .ok (.ireturn, 1) := by decide +kernel
theorem dX10_addKey_34 : decode cX10_addKey 34 = .ok (.aload_n 0, 1) := by decide +kernel
theorem dX10_addKey_35 : decode cX10_addKey 35 = .ok (.iload_n 1, 1) := by decide +kernel
theorem dX10_addKey_36 : decode cX10_addKey 36 = .ok (.lload_n 2, 1) := by decide +kernel
theorem dX10_addKey_37 : decode cX10_addKey 37 = .ok (.lastore, 1) := by decide +kernel
theorem dX10_addKey_38 : decode cX10_addKey 38 = .ok (.iload_n 1, 1) := by decide +kernel
theorem dX10_addKey_39 : decode cX10_addKey 39 = .ok (.iconst 1, 1) := by decide +kernel
theorem dX10_addKey_40 : decode cX10_addKey 40 = .ok (.iadd, 1) := by decide +kernel
theorem dX10_addKey_41 : decode cX10_addKey 41 = .ok (.ireturn, 1) := by decide +kernel
theorem dX10_sortKeys_0 : decode cX10_sortKeys 0 = .ok (.iload_n 1, 1) := by decide +kernel
theorem dX10_sortKeys_1 : decode cX10_sortKeys 1 = .ok (.aload_n 0, 1) := by decide +kernel
theorem dX10_sortKeys_2 : decode cX10_sortKeys 2 = .ok (.arraylength, 1) := by decide +kernel
theorem dX10_sortKeys_3 : decode cX10_sortKeys 3 = .ok (.invokestatic 538, 3) := by decide +kernel
theorem dX10_sortKeys_6 : decode cX10_sortKeys 6 = .ok (.istore_n 2, 1) := by decide +kernel
theorem dX10_sortKeys_7 : decode cX10_sortKeys 7 = .ok (.iload_n 2, 1) := by decide +kernel
theorem dX10_sortKeys_8 : decode cX10_sortKeys 8 = .ok (.iconst 2, 1) := by decide +kernel
theorem dX10_sortKeys_9 : decode cX10_sortKeys 9 = .ok (.idiv, 1) := by decide +kernel
theorem dX10_sortKeys_10 : decode cX10_sortKeys 10 = .ok (.istore_n 3, 1) := by decide +kernel
theorem dX10_sortKeys_11 : decode cX10_sortKeys 11 = .ok (.iload_n 3, 1) := by decide +kernel
theorem dX10_sortKeys_12 : decode cX10_sortKeys 12 = .ok (.ifCond .le 78, 3) := by decide +kernel
theorem dX10_sortKeys_15 : decode cX10_sortKeys 15 = .ok (.iload_n 3, 1) := by decide +kernel
theorem dX10_sortKeys_16 : decode cX10_sortKeys 16 = .ok (.istore 4, 2) := by decide +kernel
theorem dX10_sortKeys_18 : decode cX10_sortKeys 18 = .ok (.iload 4, 2) := by decide +kernel
theorem dX10_sortKeys_20 : decode cX10_sortKeys 20 = .ok (.iload_n 2, 1) := by decide +kernel
theorem dX10_sortKeys_21 : decode cX10_sortKeys 21 = .ok (.if_icmp .ge 62, 3) := by decide +kernel
theorem dX10_sortKeys_24 : decode cX10_sortKeys 24 = .ok (.aload_n 0, 1) := by decide +kernel
theorem dX10_sortKeys_25 : decode cX10_sortKeys 25 = .ok (.iload 4, 2) := by decide +kernel
theorem dX10_sortKeys_27 : decode cX10_sortKeys 27 = .ok (.laload, 1) := by decide +kernel
theorem dX10_sortKeys_28 : decode cX10_sortKeys 28 = .ok (.lstore 5, 2) := by decide +kernel
theorem dX10_sortKeys_30 : decode cX10_sortKeys 30 = .ok (.iload 4, 2) := by decide +kernel
theorem dX10_sortKeys_32 : decode cX10_sortKeys 32 = .ok (.istore 7, 2) := by decide +kernel
theorem dX10_sortKeys_34 : decode cX10_sortKeys 34 = .ok (.iload 7, 2) := by decide +kernel
theorem dX10_sortKeys_36 : decode cX10_sortKeys 36 = .ok (.iload_n 3, 1) := by decide +kernel
theorem dX10_sortKeys_37 : decode cX10_sortKeys 37 = .ok (.if_icmp .lt 34, 3) := by decide +kernel
theorem dX10_sortKeys_40 : decode cX10_sortKeys 40 = .ok (.aload_n 0, 1) := by decide +kernel
theorem dX10_sortKeys_41 : decode cX10_sortKeys 41 = .ok (.iload 7, 2) := by decide +kernel
theorem dX10_sortKeys_43 : decode cX10_sortKeys 43 = .ok (.iload_n 3, 1) := by decide +kernel
theorem dX10_sortKeys_44 : decode cX10_sortKeys 44 = .ok (.isub, 1) := by decide +kernel
theorem dX10_sortKeys_45 : decode cX10_sortKeys 45 = .ok (.laload, 1) := by decide +kernel
theorem dX10_sortKeys_46 : decode cX10_sortKeys 46 = .ok (.lload 5, 2) := by decide +kernel
theorem dX10_sortKeys_48 : decode cX10_sortKeys 48 = .ok (.lcmp, 1) := by decide +kernel
theorem dX10_sortKeys_49 : decode cX10_sortKeys 49 = .ok (.ifCond .le 22, 3) := by decide +kernel
theorem dX10_sortKeys_52 : decode cX10_sortKeys 52 = .ok (.aload_n 0, 1) := by decide +kernel
theorem dX10_sortKeys_53 : decode cX10_sortKeys 53 = .ok (.iload 7, 2) := by decide +kernel
theorem dX10_sortKeys_55 : decode cX10_sortKeys 55 = .ok (.aload_n 0, 1) := by decide +kernel
theorem dX10_sortKeys_56 : decode cX10_sortKeys 56 = .ok (.iload 7, 2) := by decide +kernel
theorem dX10_sortKeys_58 : decode cX10_sortKeys 58 = .ok (.iload_n 3, 1) := by decide +kernel
theorem dX10_sortKeys_59 : decode cX10_sortKeys 59 = .ok (.isub, 1) := by decide +kernel
theorem dX10_sortKeys_60 : decode cX10_sortKeys 60 = .ok (.laload, 1) := by decide +kernel
theorem dX10_sortKeys_61 : decode cX10_sortKeys 61 = .ok (.lastore, 1) := by decide +kernel
theorem dX10_sortKeys_62 : decode cX10_sortKeys 62 = .ok (.iload 7, 2) := by decide +kernel
theorem dX10_sortKeys_64 : decode cX10_sortKeys 64 = .ok (.iload_n 3, 1) := by decide +kernel
theorem dX10_sortKeys_65 : decode cX10_sortKeys 65 = .ok (.isub, 1) := by decide +kernel
theorem dX10_sortKeys_66 : decode cX10_sortKeys 66 = .ok (.istore 7, 2) := by decide +kernel
theorem dX10_sortKeys_68 : decode cX10_sortKeys 68 = .ok (.goto (-34), 3) := by decide +kernel
theorem dX10_sortKeys_71 : decode cX10_sortKeys 71 = .ok (.aload_n 0, 1) := by decide +kernel
theorem dX10_sortKeys_72 : decode cX10_sortKeys 72 = .ok (.iload 7, 2) := by decide +kernel
theorem dX10_sortKeys_74 : decode cX10_sortKeys 74 = .ok (.lload 5, 2) := by decide +kernel
theorem dX10_sortKeys_76 : decode cX10_sortKeys 76 = .ok (.lastore, 1) := by decide +kernel
theorem dX10_sortKeys_77 : decode cX10_sortKeys 77 = .ok (.iinc 4 1, 3) := by decide +kernel
theorem dX10_sortKeys_80 : decode cX10_sortKeys 80 = .ok (.goto (-62), 3) := by decide +kernel
theorem dX10_sortKeys_83 : decode cX10_sortKeys 83 = .ok (.iload_n 3, 1) := by decide +kernel
theorem dX10_sortKeys_84 : decode cX10_sortKeys 84 = .ok (.iconst 2, 1) := by decide +kernel
theorem dX10_sortKeys_85 : decode cX10_sortKeys 85 = .ok (.idiv, 1) := by decide +kernel
theorem dX10_sortKeys_86 : decode cX10_sortKeys 86 = .ok (.istore_n 3, 1) := by decide +kernel
theorem dX10_sortKeys_87 : decode cX10_sortKeys 87 = .ok (.goto (-76), 3) := by decide +kernel
theorem dX10_sortKeys_90 : decode cX10_sortKeys 90 = .ok (.return_, 1) := by decide +kernel
theorem dX11_init_0 : decode cX11_init 0 = .ok (.aload_n 0, 1) := by decide +kernel
theorem dX11_init_1 : decode cX11_init 1 = .ok (.invokespecial 3, 3) := by decide +kernel
theorem dX11_init_4 : decode cX11_init 4 = .ok (.aload_n 0, 1) := by decide +kernel
theorem dX11_init_5 : decode cX11_init 5 = .ok (.sipush 1294, 3) := by decide +kernel
theorem dX11_init_8 : decode cX11_init 8 = .ok (.newarray .int, 2) := by decide +kernel
theorem dX11_init_10 : decode cX11_init 10 = .ok (.putfield 9, 3) := by decide +kernel
theorem dX11_init_13 : decode cX11_init 13 = .ok (.aload_n 0, 1) := by decide +kernel
theorem dX11_init_14 : decode cX11_init 14 = .ok (.sipush 10352, 3) := by decide +kernel
theorem dX11_init_17 : decode cX11_init 17 = .ok (.newarray .int, 2) := by decide +kernel
theorem dX11_init_19 : decode cX11_init 19 = .ok (.putfield 13, 3) := by decide +kernel
theorem dX11_init_22 : decode cX11_init 22 = .ok (.aload_n 0, 1) := by decide +kernel
theorem dX11_init_23 : decode cX11_init 23 = .ok (.sipush 1294, 3) := by decide +kernel
theorem dX11_init_26 : decode cX11_init 26 = .ok (.newarray .int, 2) := by decide +kernel
theorem dX11_init_28 : decode cX11_init 28 = .ok (.putfield 16, 3) := by decide +kernel
theorem dX11_init_31 : decode cX11_init 31 = .ok (.aload_n 0, 1) := by decide +kernel
theorem dX11_init_32 : decode cX11_init 32 = .ok (.sipush 1294, 3) := by decide +kernel
theorem dX11_init_35 : decode cX11_init 35 = .ok (.newarray .int, 2) := by decide +kernel
theorem dX11_init_37 : decode cX11_init 37 = .ok (.putfield 19, 3) := by decide +kernel
theorem dX11_init_40 : decode cX11_init 40 = .ok (.aload_n 0, 1) := by decide +kernel
theorem dX11_init_41 : decode cX11_init 41 = .ok (.bipush 60, 2) := by decide +kernel
theorem dX11_init_43 : decode cX11_init 43 = .ok (.newarray .int, 2) := by decide +kernel
theorem dX11_init_45 : decode cX11_init 45 = .ok (.putfield 22, 3) := by decide +kernel
theorem dX11_init_48 : decode cX11_init 48 = .ok (.aload_n 0, 1) := by decide +kernel
theorem dX11_init_49 : decode cX11_init 49 = .ok (.iconst (-1), 1) := by decide +kernel
theorem dX11_init_50 : decode cX11_init 50 = .ok (.putfield 25, 3) := by decide +kernel
theorem dX11_init_53 : decode cX11_init 53 = .ok (.aload_n 0, 1) := by decide +kernel
theorem dX11_init_54 : decode cX11_init 54 = .ok (.bipush 60, 2) := by decide +kernel
theorem dX11_init_56 : decode cX11_init 56 = .ok (.newarray .int, 2) := by decide +kernel
theorem dX11_init_58 : decode cX11_init 58 = .ok (.putfield 29, 3) := by decide +kernel
theorem dX11_init_61 : decode cX11_init 61 = .ok (.aload_n 0, 1) := by decide +kernel
theorem dX11_init_62 : decode cX11_init 62 = .ok (.bipush 8, 2) := by decide +kernel
theorem dX11_init_64 : decode cX11_init 64 = .ok (.newarray .int, 2) := by decide +kernel
theorem dX11_init_66 : decode cX11_init 66 = .ok (.putfield 32, 3) := by decide +kernel
theorem dX11_init_69 : decode cX11_init 69 = .ok (.aload_n 0, 1) := by decide +kernel
theorem dX11_init_70 : decode cX11_init 70 = .ok (.iconst (-1), 1) := by decide +kernel
theorem dX11_init_71 : decode cX11_init 71 = .ok (.putfield 35, 3) := by decide +kernel
theorem dX11_init_74 : decode cX11_init 74 = .ok (.aload_n 0, 1) := by decide +kernel
theorem dX11_init_75 : decode cX11_init 75 = .ok (.sipush 261, 3) := by decide +kernel
theorem dX11_init_78 : decode cX11_init 78 = .ok (.newarray .int, 2) := by decide +kernel
theorem dX11_init_80 : decode cX11_init 80 = .ok (.putfield 38, 3) := by decide +kernel
theorem dX11_init_83 : decode cX11_init 83 = .ok (.aload_n 0, 1) := by decide +kernel
theorem dX11_init_84 : decode cX11_init 84 = .ok (.sipush 261, 3) := by decide +kernel
theorem dX11_init_87 : decode cX11_init 87 = .ok (.newarray .int, 2) := by decide +kernel
theorem dX11_init_89 : decode cX11_init 89 = .ok (.putfield 41, 3) := by decide +kernel
theorem dX11_init_92 : decode cX11_init 92 = .ok (.aload_n 0, 1) := by decide +kernel
theorem dX11_init_93 : decode cX11_init 93 = .ok (.sipush 261, 3) := by decide +kernel
theorem dX11_init_96 : decode cX11_init 96 = .ok (.newarray .int, 2) := by decide +kernel
theorem dX11_init_98 : decode cX11_init 98 = .ok (.putfield 44, 3) := by decide +kernel
theorem dX11_init_101 : decode cX11_init 101 = .ok (.aload_n 0, 1) := by decide +kernel
theorem dX11_init_102 : decode cX11_init 102 = .ok (.sipush 261, 3) := by decide +kernel
theorem dX11_init_105 : decode cX11_init 105 = .ok (.newarray .int, 2) := by decide +kernel
theorem dX11_init_107 : decode cX11_init 107 = .ok (.putfield 47, 3) := by decide +kernel
theorem dX11_init_110 : decode cX11_init 110 = .ok (.aload_n 0, 1) := by decide +kernel
theorem dX11_init_111 : decode cX11_init 111 = .ok (.sipush 261, 3) := by decide +kernel
theorem dX11_init_114 : decode cX11_init 114 = .ok (.newarray .int, 2) := by decide +kernel
theorem dX11_init_116 : decode cX11_init 116 = .ok (.putfield 50, 3) := by decide +kernel
theorem dX11_init_119 : decode cX11_init 119 = .ok (.aload_n 0, 1) := by decide +kernel
theorem dX11_init_120 : decode cX11_init 120 = .ok (.sipush 261, 3) := by decide +kernel
theorem dX11_init_123 : decode cX11_init 123 = .ok (.newarray .int, 2) := by decide +kernel
theorem dX11_init_125 : decode cX11_init 125 = .ok (.putfield 53, 3) := by decide +kernel
theorem dX11_init_128 : decode cX11_init 128 = .ok (.aload_n 0, 1) := by decide +kernel
theorem dX11_init_129 : decode cX11_init 129 = .ok (.sipush 261, 3) := by decide +kernel
theorem dX11_init_132 : decode cX11_init 132 = .ok (.newarray .int, 2) := by decide +kernel
theorem dX11_init_134 : decode cX11_init 134 = .ok (.putfield 56, 3) := by decide +kernel
theorem dX11_init_137 : decode cX11_init 137 = .ok (.aload_n 0, 1) := by decide +kernel
theorem dX11_init_138 : decode cX11_init 138 = .ok (.sipush 261, 3) := by decide +kernel
theorem dX11_init_141 : decode cX11_init 141 = .ok (.newarray .int, 2) := by decide +kernel
theorem dX11_init_143 : decode cX11_init 143 = .ok (.putfield 59, 3) := by decide +kernel
theorem dX11_init_146 : decode cX11_init 146 = .ok (.aload_n 0, 1) := by decide +kernel
theorem dX11_init_147 : decode cX11_init 147 = .ok (.sipush 261, 3) := by decide +kernel
theorem dX11_init_150 : decode cX11_init 150 = .ok (.newarray .int, 2) := by decide +kernel
theorem dX11_init_152 : decode cX11_init 152 = .ok (.putfield 62, 3) := by decide +kernel
theorem dX11_init_155 : decode cX11_init 155 = .ok (.aload_n 0, 1) := by decide +kernel
theorem dX11_init_156 : decode cX11_init 156 = .ok (.sipush 261, 3) := by decide +kernel
theorem dX11_init_159 : decode cX11_init 159 = .ok (.newarray .int, 2) := by decide +kernel
theorem dX11_init_161 : decode cX11_init 161 = .ok (.putfield 65, 3) := by decide +kernel
theorem dX11_init_164 : decode cX11_init 164 = .ok (.aload_n 0, 1) := by decide +kernel
theorem dX11_init_165 : decode cX11_init 165 = .ok (.sipush 526, 3) := by decide +kernel
theorem dX11_init_168 : decode cX11_init 168 = .ok (.newarray .int, 2) := by decide +kernel
theorem dX11_init_170 : decode cX11_init 170 = .ok (.putfield 68, 3) := by decide +kernel
theorem dX11_init_173 : decode cX11_init 173 = .ok (.aload_n 0, 1) := by decide +kernel
theorem dX11_init_174 : decode cX11_init 174 = .ok (.bipush 40, 2) := by decide +kernel
theorem dX11_init_176 : decode cX11_init 176 = .ok (.newarray .int, 2) := by decide +kernel
theorem dX11_init_178 : decode cX11_init 178 = .ok (.putfield 71, 3) := by decide +kernel
theorem dX11_init_181 : decode cX11_init 181 = .ok (.aload_n 0, 1) := by decide +kernel
theorem dX11_init_182 : decode cX11_init 182 = .ok (.sipush 400, 3) := by decide +kernel
theorem dX11_init_185 : decode cX11_init 185 = .ok (.newarray .int, 2) := by decide +kernel
theorem dX11_init_187 : decode cX11_init 187 = .ok (.putfield 74, 3) := by decide +kernel
theorem dX11_init_190 : decode cX11_init 190 = .ok (.aload_n 0, 1) := by decide +kernel
theorem dX11_init_191 : decode cX11_init 191 = .ok (.sipush 400, 3) := by decide +kernel
theorem dX11_init_194 : decode cX11_init 194 = .ok (.newarray .int, 2) := by decide +kernel
theorem dX11_init_196 : decode cX11_init 196 = .ok (.putfield 77, 3) := by decide +kernel
theorem dX11_init_199 : decode cX11_init 199 = .ok (.return_, 1) := by decide +kernel
theorem dX11_thrown_0 : decode cX11_thrown 0 = .ok (.aload_n 0, 1) := by decide +kernel
theorem dX11_thrown_1 : decode cX11_thrown 1 = .ok (.getfield 80, 3) := by decide +kernel
theorem dX11_thrown_4 : decode cX11_thrown 4 = .ok (.ireturn, 1) := by decide +kernel
theorem dX11_raises_0 : decode cX11_raises 0 = .ok (.aload_n 0, 1) := by decide +kernel
theorem dX11_raises_1 : decode cX11_raises 1 = .ok (.iload_n 1, 1) := by decide +kernel
theorem dX11_raises_2 : decode cX11_raises 2 = .ok (.putfield 80, 3) := by decide +kernel
theorem dX11_raises_5 : decode cX11_raises 5 = .ok (.iconst 0, 1) := by decide +kernel
theorem dX11_raises_6 : decode cX11_raises 6 = .ok (.ireturn, 1) := by decide +kernel
theorem dX11_in_0 : decode cX11_in 0 = .ok (.iload_n 0, 1) := by decide +kernel
theorem dX11_in_1 : decode cX11_in 1 = .ok (.iload_n 1, 1) := by decide +kernel
theorem dX11_in_2 : decode cX11_in 2 = .ok (.if_icmp .lt 12, 3) := by decide +kernel
theorem dX11_in_5 : decode cX11_in 5 = .ok (.iload_n 0, 1) := by decide +kernel
theorem dX11_in_6 : decode cX11_in 6 = .ok (.iload_n 2, 1) := by decide +kernel
theorem dX11_in_7 : decode cX11_in 7 = .ok (.if_icmp .gt 7, 3) := by decide +kernel
theorem dX11_in_10 : decode cX11_in 10 = .ok (.iconst 1, 1) := by decide +kernel
theorem dX11_in_11 : decode cX11_in 11 = .ok (.goto 4, 3) := by decide +kernel
theorem dX11_in_14 : decode cX11_in 14 = .ok (.iconst 0, 1) := by decide +kernel
theorem dX11_in_15 : decode cX11_in 15 = .ok (.ireturn, 1) := by decide +kernel
theorem dX11_changes_0 : decode cX11_changes 0 = .ok (.iconst 0, 1) := by decide +kernel
theorem dX11_changes_1 : decode cX11_changes 1 = .ok (.istore_n 1, 1) := by decide +kernel
theorem dX11_changes_2 : decode cX11_changes 2 = .ok (.iload_n 1, 1) := by decide +kernel
theorem dX11_changes_3 : decode cX11_changes 3 = .ok (.sipush 1294, 3) := by decide +kernel
theorem dX11_changes_6 : decode cX11_changes 6 = .ok (.if_icmp .ge 21, 3) := by decide +kernel
theorem dX11_changes_9 : decode cX11_changes 9 = .ok (.aload_n 0, 1) := by decide +kernel
theorem dX11_changes_10 : decode cX11_changes 10 = .ok (.getfield 19, 3) := by decide +kernel
theorem dX11_changes_13 : decode cX11_changes 13 = .ok (.iload_n 1, 1) := by decide +kernel
theorem dX11_changes_14 : decode cX11_changes 14 = .ok (.aload_n 0, 1) := by decide +kernel
theorem dX11_changes_15 : decode cX11_changes 15 = .ok (.getfield 9, 3) := by decide +kernel
theorem dX11_changes_18 : decode cX11_changes 18 = .ok (.iload_n 1, 1) := by decide +kernel
theorem dX11_changes_19 : decode cX11_changes 19 = .ok (.iaload, 1) := by decide +kernel
theorem dX11_changes_20 : decode cX11_changes 20 = .ok (.iastore, 1) := by decide +kernel
theorem dX11_changes_21 : decode cX11_changes 21 = .ok (.iinc 1 1, 3) := by decide +kernel
theorem dX11_changes_24 : decode cX11_changes 24 = .ok (.goto (-22), 3) := by decide +kernel
theorem dX11_changes_27 : decode cX11_changes 27 = .ok (.aload_n 0, 1) := by decide +kernel
theorem dX11_changes_28 : decode cX11_changes 28 = .ok (.invokevirtual 83, 3) := by decide +kernel
theorem dX11_changes_31 : decode cX11_changes 31 = .ok (.return_, 1) := by decide +kernel
theorem dX11_keeps_0 : decode cX11_keeps 0 = .ok (.aload_n 0, 1) := by decide +kernel
theorem dX11_keeps_1 : decode cX11_keeps 1 = .ok (.getfield 86, 3) := by decide +kernel
theorem dX11_keeps_4 : decode cX11_keeps 4 = .ok (.bipush 8, 2) := by decide +kernel
theorem dX11_keeps_6 : decode cX11_keeps 6 = .ok (.if_icmp .ne 44, 3) := by decide +kernel
theorem dX11_keeps_9 : decode cX11_keeps 9 = .ok (.iconst 0, 1) := by decide +kernel
theorem dX11_keeps_10 : decode cX11_keeps 10 = .ok (.istore_n 1, 1) := by decide +kernel
theorem dX11_keeps_11 : decode cX11_keeps 11 = .ok (.iload_n 1, 1) := by decide +kernel
theorem dX11_keeps_12 : decode cX11_keeps 12 = .ok (.sipush 9058, 3) := by decide +kernel
theorem dX11_keeps_15 : decode cX11_keeps 15 = .ok (.if_icmp .ge 25, 3) := by decide +kernel
theorem dX11_keeps_18 : decode cX11_keeps 18 = .ok (.aload_n 0, 1) := by decide +kernel
theorem dX11_keeps_19 : decode cX11_keeps 19 = .ok (.getfield 13, 3) := by decide +kernel
theorem dX11_keeps_22 : decode cX11_keeps 22 = .ok (.iload_n 1, 1) := by decide +kernel
theorem dX11_keeps_23 : decode cX11_keeps 23 = .ok (.aload_n 0, 1) := by decide +kernel
theorem dX11_keeps_24 : decode cX11_keeps 24 = .ok (.getfield 13, 3) := by decide +kernel
theorem dX11_keeps_27 : decode cX11_keeps 27 = .ok (.sipush 1294, 3) := by decide +kernel
theorem dX11_keeps_30 : decode cX11_keeps 30 = .ok (.iload_n 1, 1) := by decide +kernel
theorem dX11_keeps_31 : decode cX11_keeps 31 = .ok (.iadd, 1) := by decide +kernel
theorem dX11_keeps_32 : decode cX11_keeps 32 = .ok (.iaload, 1) := by decide +kernel
theorem dX11_keeps_33 : decode cX11_keeps 33 = .ok (.iastore, 1) := by decide +kernel
theorem dX11_keeps_34 : decode cX11_keeps 34 = .ok (.iinc 1 1, 3) := by decide +kernel
theorem dX11_keeps_37 : decode cX11_keeps 37 = .ok (.goto (-26), 3) := by decide +kernel
theorem dX11_keeps_40 : decode cX11_keeps 40 = .ok (.aload_n 0, 1) := by decide +kernel
theorem dX11_keeps_41 : decode cX11_keeps 41 = .ok (.dup, 1) := by decide +kernel
theorem dX11_keeps_42 : decode cX11_keeps 42 = .ok (.getfield 86, 3) := by decide +kernel
theorem dX11_keeps_45 : decode cX11_keeps 45 = .ok (.iconst 1, 1) := by decide +kernel
theorem dX11_keeps_46 : decode cX11_keeps 46 = .ok (.isub, 1) := by decide +kernel
theorem dX11_keeps_47 : decode cX11_keeps 47 = .ok (.putfield 86, 3) := by decide +kernel
theorem dX11_keeps_50 : decode cX11_keeps 50 = .ok (.iconst 0, 1) := by decide +kernel
theorem dX11_keeps_51 : decode cX11_keeps 51 = .ok (.istore_n 1, 1) := by decide +kernel
theorem dX11_keeps_52 : decode cX11_keeps 52 = .ok (.iload_n 1, 1) := by decide +kernel
theorem dX11_keeps_53 : decode cX11_keeps 53 = .ok (.sipush 1294, 3) := by decide +kernel
theorem dX11_keeps_56 : decode cX11_keeps 56 = .ok (.if_icmp .ge 30, 3) := by decide +kernel
theorem dX11_keeps_59 : decode cX11_keeps 59 = .ok (.aload_n 0, 1) := by decide +kernel
theorem dX11_keeps_60 : decode cX11_keeps 60 = .ok (.getfield 13, 3) := by decide +kernel
theorem dX11_keeps_63 : decode cX11_keeps 63 = .ok (.sipush 1294, 3) := by decide +kernel
theorem dX11_keeps_66 : decode cX11_keeps 66 = .ok (.aload_n 0, 1) := by decide +kernel
theorem dX11_keeps_67 : decode cX11_keeps 67 = .ok (.getfield 86, 3) := by decide +kernel
theorem dX11_keeps_70 : decode cX11_keeps 70 = .ok (.imul, 1) := by decide +kernel
theorem dX11_keeps_71 : decode cX11_keeps 71 = .ok (.iload_n 1, 1) := by decide +kernel
theorem dX11_keeps_72 : decode cX11_keeps 72 = .ok (.iadd, 1) := by decide +kernel
theorem dX11_keeps_73 : decode cX11_keeps 73 = .ok (.aload_n 0, 1) := by decide +kernel
theorem dX11_keeps_74 : decode cX11_keeps 74 = .ok (.getfield 19, 3) := by decide +kernel
theorem dX11_keeps_77 : decode cX11_keeps 77 = .ok (.iload_n 1, 1) := by decide +kernel
theorem dX11_keeps_78 : decode cX11_keeps 78 = .ok (.iaload, 1) := by decide +kernel
theorem dX11_keeps_79 : decode cX11_keeps 79 = .ok (.iastore, 1) := by decide +kernel
theorem dX11_keeps_80 : decode cX11_keeps 80 = .ok (.iinc 1 1, 3) := by decide +kernel
theorem dX11_keeps_83 : decode cX11_keeps 83 = .ok (.goto (-31), 3) := by decide +kernel
theorem dX11_keeps_86 : decode cX11_keeps 86 = .ok (.aload_n 0, 1) := by decide +kernel
theorem dX11_keeps_87 : decode cX11_keeps 87 = .ok (.dup, 1) := by decide +kernel
theorem dX11_keeps_88 : decode cX11_keeps 88 = .ok (.getfield 86, 3) := by decide +kernel
theorem dX11_keeps_91 : decode cX11_keeps 91 = .ok (.iconst 1, 1) := by decide +kernel
theorem dX11_keeps_92 : decode cX11_keeps 92 = .ok (.iadd, 1) := by decide +kernel
theorem dX11_keeps_93 : decode cX11_keeps 93 = .ok (.putfield 86, 3) := by decide +kernel
theorem dX11_keeps_96 : decode cX11_keeps 96 = .ok (.aload_n 0, 1) := by decide +kernel
theorem dX11_keeps_97 : decode cX11_keeps 97 = .ok (.iconst (-1), 1) := by decide +kernel
theorem dX11_keeps_98 : decode cX11_keeps 98 = .ok (.putfield 35, 3) := by decide +kernel
theorem dX11_keeps_101 : decode cX11_keeps 101 = .ok (.return_, 1) := by decide +kernel
theorem dX11_yearDay_0 : decode cX11_yearDay 0 = .ok (.sipush 365, 3) := by decide +kernel
theorem dX11_yearDay_3 : decode cX11_yearDay 3 = .ok (.iload_n 0, 1) := by decide +kernel
theorem dX11_yearDay_4 : decode cX11_yearDay 4 = .ok (.imul, 1) := by decide +kernel
theorem dX11_yearDay_5 : decode cX11_yearDay 5 = .ok (.iload_n 0, 1) := by decide +kernel
theorem dX11_yearDay_6 : decode cX11_yearDay 6 = .ok (.iconst 3, 1) := by decide +kernel
theorem dX11_yearDay_7 : decode cX11_yearDay 7 = .ok (.iadd, 1) := by decide +kernel
theorem dX11_yearDay_8 : decode cX11_yearDay 8 = .ok (.iconst 4, 1) := by decide +kernel
theorem dX11_yearDay_9 : decode cX11_yearDay 9 = .ok (.idiv, 1) := by decide +kernel
theorem dX11_yearDay_10 : decode cX11_yearDay 10 = .ok (.iadd, 1) := by decide +kernel
theorem dX11_yearDay_11 : decode cX11_yearDay 11 = .ok (.ireturn, 1) := by decide +kernel
theorem dX11_monthLength_0 : decode cX11_monthLength 0 = .ok (.iload_n 1, 1) := by decide +kernel
theorem dX11_monthLength_1 : decode cX11_monthLength 1 = .ok (.tableswitch 72 2 11 #[55, 72, 69, 72, 69, 72, 72, 69, 72, 69], 55) := by decide +kernel
theorem dX11_monthLength_56 : decode cX11_monthLength 56 = .ok (.iload_n 0, 1) := by decide +kernel
theorem dX11_monthLength_57 : decode cX11_monthLength 57 = .ok (.iconst 4, 1) := by decide +kernel
theorem dX11_monthLength_58 : decode cX11_monthLength 58 = .ok (.irem, 1) := by decide +kernel
theorem dX11_monthLength_59 : decode cX11_monthLength 59 = .ok (.ifCond .ne 8, 3) := by decide +kernel
theorem dX11_monthLength_62 : decode cX11_monthLength 62 = .ok (.bipush 29, 2) := by decide +kernel
theorem dX11_monthLength_64 : decode cX11_monthLength 64 = .ok (.goto 5, 3) := by decide +kernel
theorem dX11_monthLength_67 : decode cX11_monthLength 67 = .ok (.bipush 28, 2) := by decide +kernel
theorem dX11_monthLength_69 : decode cX11_monthLength 69 = .ok (.ireturn, 1) := by decide +kernel
theorem dX11_monthLength_70 : decode cX11_monthLength 70 = .ok (.bipush 30, 2) := by decide +kernel
theorem dX11_monthLength_72 : decode cX11_monthLength 72 = .ok (.ireturn, 1) := by decide +kernel
theorem dX11_monthLength_73 : decode cX11_monthLength 73 = .ok (.bipush 31, 2) := by decide +kernel
theorem dX11_monthLength_75 : decode cX11_monthLength 75 = .ok (.ireturn, 1) := by decide +kernel
theorem dX11_monthDay_0 : decode cX11_monthDay 0 = .ok (.iload_n 0, 1) := by decide +kernel
theorem dX11_monthDay_1 : decode cX11_monthDay 1 = .ok (.invokestatic 89, 3) := by decide +kernel
theorem dX11_monthDay_4 : decode cX11_monthDay 4 = .ok (.istore_n 2, 1) := by decide +kernel
theorem dX11_monthDay_5 : decode cX11_monthDay 5 = .ok (.iconst 1, 1) := by decide +kernel
theorem dX11_monthDay_6 : decode cX11_monthDay 6 = .ok (.istore_n 3, 1) := by decide +kernel
theorem dX11_monthDay_7 : decode cX11_monthDay 7 = .ok (.iload_n 3, 1) := by decide +kernel
theorem dX11_monthDay_8 : decode cX11_monthDay 8 = .ok (.iload_n 1, 1) := by decide +kernel
theorem dX11_monthDay_9 : decode cX11_monthDay 9 = .ok (.if_icmp .ge 17, 3) := by decide +kernel
theorem dX11_monthDay_12 : decode cX11_monthDay 12 = .ok (.iload_n 2, 1) := by decide +kernel
theorem dX11_monthDay_13 : decode cX11_monthDay 13 = .ok (.iload_n 0, 1) := by decide +kernel
theorem dX11_monthDay_14 : decode cX11_monthDay 14 = .ok (.iload_n 3, 1) := by decide +kernel
theorem dX11_monthDay_15 : decode cX11_monthDay 15 = .ok (.invokestatic 93, 3) := by decide +kernel
theorem dX11_monthDay_18 : decode cX11_monthDay 18 = .ok (.iadd, 1) := by decide +kernel
theorem dX11_monthDay_19 : decode cX11_monthDay 19 = .ok (.istore_n 2, 1) := by decide +kernel
theorem dX11_monthDay_20 : decode cX11_monthDay 20 = .ok (.iinc 3 1, 3) := by decide +kernel
theorem dX11_monthDay_23 : decode cX11_monthDay 23 = .ok (.goto (-16), 3) := by decide +kernel
theorem dX11_monthDay_26 : decode cX11_monthDay 26 = .ok (.iload_n 2, 1) := by decide +kernel
theorem dX11_monthDay_27 : decode cX11_monthDay 27 = .ok (.ireturn, 1) := by decide +kernel
theorem dX11_weekday_0 : decode cX11_weekday 0 = .ok (.iload_n 0, 1) := by decide +kernel
theorem dX11_weekday_1 : decode cX11_weekday 1 = .ok (.iconst 5, 1) := by decide +kernel
theorem dX11_weekday_2 : decode cX11_weekday 2 = .ok (.iadd, 1) := by decide +kernel
theorem dX11_weekday_3 : decode cX11_weekday 3 = .ok (.bipush 7, 2) := by decide +kernel
theorem dX11_weekday_5 : decode cX11_weekday 5 = .ok (.irem, 1) := by decide +kernel
theorem dX11_weekday_6 : decode cX11_weekday 6 = .ok (.ireturn, 1) := by decide +kernel
theorem dX11_yearOf_0 : decode cX11_yearOf 0 = .ok (.iconst 0, 1) := by decide +kernel
theorem dX11_yearOf_1 : decode cX11_yearOf 1 = .ok (.istore_n 1, 1) := by decide +kernel
theorem dX11_yearOf_2 : decode cX11_yearOf 2 = .ok (.iload_n 1, 1) := by decide +kernel
theorem dX11_yearOf_3 : decode cX11_yearOf 3 = .ok (.iconst 1, 1) := by decide +kernel
theorem dX11_yearOf_4 : decode cX11_yearOf 4 = .ok (.iadd, 1) := by decide +kernel
theorem dX11_yearOf_5 : decode cX11_yearOf 5 = .ok (.invokestatic 89, 3) := by decide +kernel
theorem dX11_yearOf_8 : decode cX11_yearOf 8 = .ok (.iload_n 0, 1) := by decide +kernel
theorem dX11_yearOf_9 : decode cX11_yearOf 9 = .ok (.if_icmp .gt 9, 3) := by decide +kernel
theorem dX11_yearOf_12 : decode cX11_yearOf 12 = .ok (.iinc 1 1, 3) := by decide +kernel
theorem dX11_yearOf_15 : decode cX11_yearOf 15 = .ok (.goto (-13), 3) := by decide +kernel
theorem dX11_yearOf_18 : decode cX11_yearOf 18 = .ok (.iload_n 1, 1) := by decide +kernel
theorem dX11_yearOf_19 : decode cX11_yearOf 19 = .ok (.ireturn, 1) := by decide +kernel
theorem dX11_monthOf_0 : decode cX11_monthOf 0 = .ok (.iload_n 0, 1) := by decide +kernel
theorem dX11_monthOf_1 : decode cX11_monthOf 1 = .ok (.invokestatic 97, 3) := by decide +kernel
theorem dX11_monthOf_4 : decode cX11_monthOf 4 = .ok (.istore_n 1, 1) := by decide +kernel
theorem dX11_monthOf_5 : decode cX11_monthOf 5 = .ok (.iconst 1, 1) := by decide +kernel
theorem dX11_monthOf_6 : decode cX11_monthOf 6 = .ok (.istore_n 2, 1) := by decide +kernel
theorem dX11_monthOf_7 : decode cX11_monthOf 7 = .ok (.iload_n 2, 1) := by decide +kernel
theorem dX11_monthOf_8 : decode cX11_monthOf 8 = .ok (.bipush 12, 2) := by decide +kernel
theorem dX11_monthOf_10 : decode cX11_monthOf 10 = .ok (.if_icmp .ge 20, 3) := by decide +kernel
theorem dX11_monthOf_13 : decode cX11_monthOf 13 = .ok (.iload_n 1, 1) := by decide +kernel
theorem dX11_monthOf_14 : decode cX11_monthOf 14 = .ok (.iload_n 2, 1) := by decide +kernel
theorem dX11_monthOf_15 : decode cX11_monthOf 15 = .ok (.iconst 1, 1) := by decide +kernel
theorem dX11_monthOf_16 : decode cX11_monthOf 16 = .ok (.iadd, 1) := by decide +kernel
theorem dX11_monthOf_17 : decode cX11_monthOf 17 = .ok (.invokestatic 100, 3) := by decide +kernel
theorem dX11_monthOf_20 : decode cX11_monthOf 20 = .ok (.iload_n 0, 1) := by decide +kernel
theorem dX11_monthOf_21 : decode cX11_monthOf 21 = .ok (.if_icmp .gt 9, 3) := by decide +kernel
theorem dX11_monthOf_24 : decode cX11_monthOf 24 = .ok (.iinc 2 1, 3) := by decide +kernel
theorem dX11_monthOf_27 : decode cX11_monthOf 27 = .ok (.goto (-20), 3) := by decide +kernel
theorem dX11_monthOf_30 : decode cX11_monthOf 30 = .ok (.iload_n 2, 1) := by decide +kernel
theorem dX11_monthOf_31 : decode cX11_monthOf 31 = .ok (.ireturn, 1) := by decide +kernel
theorem dX11_dayOfMonth_0 : decode cX11_dayOfMonth 0 = .ok (.iload_n 0, 1) := by decide +kernel
theorem dX11_dayOfMonth_1 : decode cX11_dayOfMonth 1 = .ok (.iload_n 0, 1) := by decide +kernel
theorem dX11_dayOfMonth_2 : decode cX11_dayOfMonth 2 = .ok (.invokestatic 97, 3) := by decide +kernel
theorem dX11_dayOfMonth_5 : decode cX11_dayOfMonth 5 = .ok (.iload_n 0, 1) := by decide +kernel
theorem dX11_dayOfMonth_6 : decode cX11_dayOfMonth 6 = .ok (.invokestatic 103, 3) := by decide +kernel
theorem dX11_dayOfMonth_9 : decode cX11_dayOfMonth 9 = .ok (.invokestatic 100, 3) := by decide +kernel
theorem dX11_dayOfMonth_12 : decode cX11_dayOfMonth 12 = .ok (.isub, 1) := by decide +kernel
theorem dX11_dayOfMonth_13 : decode cX11_dayOfMonth 13 = .ok (.iconst 1, 1) := by decide +kernel
theorem dX11_dayOfMonth_14 : decode cX11_dayOfMonth 14 = .ok (.iadd, 1) := by decide +kernel
theorem dX11_dayOfMonth_15 : decode cX11_dayOfMonth 15 = .ok (.ireturn, 1) := by decide +kernel
theorem dX11_day_0 : decode cX11_day 0 = .ok (.aload_n 0, 1) := by decide +kernel
theorem dX11_day_1 : decode cX11_day 1 = .ok (.iconst 0, 1) := by decide +kernel
theorem dX11_day_2 : decode cX11_day 2 = .ok (.putfield 80, 3) := by decide +kernel
theorem dX11_day_5 : decode cX11_day 5 = .ok (.iload_n 1, 1) := by decide +kernel
theorem dX11_day_6 : decode cX11_day 6 = .ok (.iconst 0, 1) := by decide +kernel
theorem dX11_day_7 : decode cX11_day 7 = .ok (.bipush 31, 2) := by decide +kernel
theorem dX11_day_9 : decode cX11_day 9 = .ok (.invokestatic 106, 3) := by decide +kernel
theorem dX11_day_12 : decode cX11_day 12 = .ok (.ifCond .eq 26, 3) := by decide +kernel
theorem dX11_day_15 : decode cX11_day 15 = .ok (.iload_n 2, 1) := by decide +kernel
theorem dX11_day_16 : decode cX11_day 16 = .ok (.iconst 1, 1) := by decide +kernel
theorem dX11_day_17 : decode cX11_day 17 = .ok (.bipush 12, 2) := by decide +kernel
theorem dX11_day_19 : decode cX11_day 19 = .ok (.invokestatic 106, 3) := by decide +kernel
theorem dX11_day_22 : decode cX11_day 22 = .ok (.ifCond .eq 16, 3) := by decide +kernel
theorem dX11_day_25 : decode cX11_day 25 = .ok (.iload_n 3, 1) := by decide +kernel
theorem dX11_day_26 : decode cX11_day 26 = .ok (.iconst 1, 1) := by decide +kernel
theorem dX11_day_27 : decode cX11_day 27 = .ok (.iload_n 1, 1) := by decide +kernel
theorem dX11_day_28 : decode cX11_day 28 = .ok (.iload_n 2, 1) := by decide +kernel
theorem dX11_day_29 : decode cX11_day 29 = .ok (.invokestatic 93, 3) := by decide +kernel
theorem dX11_day_32 : decode cX11_day 32 = .ok (.invokestatic 106, 3) := by decide +kernel
theorem dX11_day_35 : decode cX11_day 35 = .ok (.ifCond .ne 9, 3) := by decide +kernel
theorem dX11_day_38 : decode cX11_day 38 = .ok (.aload_n 0, 1) := by decide +kernel
theorem dX11_day_39 : decode cX11_day 39 = .ok (.iconst 1, 1) := by decide +kernel
theorem dX11_day_40 : decode cX11_day 40 = .ok (.invokevirtual 110, 3) := by decide +kernel
theorem dX11_day_43 : decode cX11_day 43 = .ok (.ireturn, 1) := by decide +kernel
theorem dX11_day_44 : decode cX11_day 44 = .ok (.iload_n 1, 1) := by decide +kernel
theorem dX11_day_45 : decode cX11_day 45 = .ok (.iload_n 2, 1) := by decide +kernel
theorem dX11_day_46 : decode cX11_day 46 = .ok (.invokestatic 100, 3) := by decide +kernel
theorem dX11_day_49 : decode cX11_day 49 = .ok (.iload_n 3, 1) := by decide +kernel
theorem dX11_day_50 : decode cX11_day 50 = .ok (.iadd, 1) := by decide +kernel
theorem dX11_day_51 : decode cX11_day 51 = .ok (.iconst 1, 1) := by decide +kernel
theorem dX11_day_52 : decode cX11_day 52 = .ok (.isub, 1) := by decide +kernel
theorem dX11_day_53 : decode cX11_day 53 = .ok (.ireturn, 1) := by decide +kernel
theorem dX11_isDay_0 : decode cX11_isDay 0 = .ok (.iload_n 0, 1) := by decide +kernel
theorem dX11_isDay_1 : decode cX11_isDay 1 = .ok (.iconst 0, 1) := by decide +kernel
theorem dX11_isDay_2 : decode cX11_isDay 2 = .ok (.sipush 11687, 3) := by decide +kernel
theorem dX11_isDay_5 : decode cX11_isDay 5 = .ok (.invokestatic 106, 3) := by decide +kernel
theorem dX11_isDay_8 : decode cX11_isDay 8 = .ok (.ireturn, 1) := by decide +kernel
theorem dX11_date_0 : decode cX11_date 0 = .ok (.aload_n 0, 1) := by decide +kernel
theorem dX11_date_1 : decode cX11_date 1 = .ok (.iconst 0, 1) := by decide +kernel
theorem dX11_date_2 : decode cX11_date 2 = .ok (.putfield 80, 3) := by decide +kernel
theorem dX11_date_5 : decode cX11_date 5 = .ok (.iload_n 1, 1) := by decide +kernel
theorem dX11_date_6 : decode cX11_date 6 = .ok (.invokestatic 113, 3) := by decide +kernel
theorem dX11_date_9 : decode cX11_date 9 = .ok (.ifCond .ne 9, 3) := by decide +kernel
theorem dX11_date_12 : decode cX11_date 12 = .ok (.aload_n 0, 1) := by decide +kernel
theorem dX11_date_13 : decode cX11_date 13 = .ok (.iconst 1, 1) := by decide +kernel
theorem dX11_date_14 : decode cX11_date 14 = .ok (.invokevirtual 110, 3) := by decide +kernel
theorem dX11_date_17 : decode cX11_date 17 = .ok (.ireturn, 1) := by decide +kernel
theorem dX11_date_18 : decode cX11_date 18 = .ok (.iload_n 2, 1) := by decide +kernel
theorem dX11_date_19 : decode cX11_date 19 = .ok (.tableswitch 81 0 5 #[37, 42, 47, 52, 57, 69], 37) := by decide +kernel
theorem dX11_date_56 : decode cX11_date 56 = .ok (.iload_n 1, 1) := by decide +kernel
theorem dX11_date_57 : decode cX11_date 57 = .ok (.invokestatic 97, 3) := by decide +kernel
theorem dX11_date_60 : decode cX11_date 60 = .ok (.ireturn, 1) := by decide +kernel
theorem dX11_date_61 : decode cX11_date 61 = .ok (.iload_n 1, 1) := by decide +kernel
theorem dX11_date_62 : decode cX11_date 62 = .ok (.invokestatic 103, 3) := by decide +kernel
theorem dX11_date_65 : decode cX11_date 65 = .ok (.ireturn, 1) := by decide +kernel
theorem dX11_date_66 : decode cX11_date 66 = .ok (.iload_n 1, 1) := by decide +kernel
theorem dX11_date_67 : decode cX11_date 67 = .ok (.invokestatic 117, 3) := by decide +kernel
theorem dX11_date_70 : decode cX11_date 70 = .ok (.ireturn, 1) := by decide +kernel
theorem dX11_date_71 : decode cX11_date 71 = .ok (.iload_n 1, 1) := by decide +kernel
theorem dX11_date_72 : decode cX11_date 72 = .ok (.invokestatic 120, 3) := by decide +kernel
theorem dX11_date_75 : decode cX11_date 75 = .ok (.ireturn, 1) := by decide +kernel
theorem dX11_date_76 : decode cX11_date 76 = .ok (.iload_n 1, 1) := by decide +kernel
theorem dX11_date_77 : decode cX11_date 77 = .ok (.iload_n 1, 1) := by decide +kernel
theorem dX11_date_78 : decode cX11_date 78 = .ok (.invokestatic 97, 3) := by decide +kernel
theorem dX11_date_81 : decode cX11_date 81 = .ok (.invokestatic 89, 3) := by decide +kernel
theorem dX11_date_84 : decode cX11_date 84 = .ok (.isub, 1) := by decide +kernel
theorem dX11_date_85 : decode cX11_date 85 = .ok (.iconst 1, 1) := by decide +kernel
theorem dX11_date_86 : decode cX11_date 86 = .ok (.iadd, 1) := by decide +kernel
theorem dX11_date_87 : decode cX11_date 87 = .ok (.ireturn, 1) := by decide +kernel
theorem dX11_date_88 : decode cX11_date 88 = .ok (.iload_n 1, 1) := by decide +kernel
theorem dX11_date_89 : decode cX11_date 89 = .ok (.invokestatic 117, 3) := by decide +kernel
theorem dX11_date_92 : decode cX11_date 92 = .ok (.iconst 1, 1) := by decide +kernel
theorem dX11_date_93 : decode cX11_date 93 = .ok (.isub, 1) := by decide +kernel
theorem dX11_date_94 : decode cX11_date 94 = .ok (.bipush 7, 2) := by decide +kernel
theorem dX11_date_96 : decode cX11_date 96 = .ok (.idiv, 1) := by decide +kernel
theorem dX11_date_97 : decode cX11_date 97 = .ok (.iconst 1, 1) := by decide +kernel
theorem dX11_date_98 : decode cX11_date 98 = .ok (.iadd, 1) := by decide +kernel
theorem dX11_date_99 : decode cX11_date 99 = .ok (.ireturn, 1) := by decide +kernel
theorem dX11_date_100 : decode cX11_date 100 = .ok (.aload_n 0, 1) := by decide +kernel
theorem dX11_date_101 : decode cX11_date 101 = .ok (.iconst 2, 1) := by decide +kernel
theorem dX11_date_102 : decode cX11_date 102 = .ok (.invokevirtual 110, 3) := by decide +kernel
theorem dX11_date_105 : decode cX11_date 105 = .ok (.ireturn, 1) := by decide +kernel
theorem dX11_isDate_0 : decode cX11_isDate 0 = .ok (.iload_n 0, 1) := by decide +kernel
theorem dX11_isDate_1 : decode cX11_isDate 1 = .ok (.iconst 1, 1) := by decide +kernel
theorem dX11_isDate_2 : decode cX11_isDate 2 = .ok (.bipush 31, 2) := by decide +kernel
theorem dX11_isDate_4 : decode cX11_isDate 4 = .ok (.invokestatic 106, 3) := by decide +kernel
theorem dX11_isDate_7 : decode cX11_isDate 7 = .ok (.ifCond .eq 5, 3) := by decide +kernel
theorem dX11_isDate_10 : decode cX11_isDate 10 = .ok (.iconst 1, 1) := by decide +kernel
theorem dX11_isDate_11 : decode cX11_isDate 11 = .ok (.ireturn, 1) := by decide +kernel
theorem dX11_isDate_12 : decode cX11_isDate 12 = .ok (.iload_n 0, 1) := by decide +kernel
theorem dX11_isDate_13 : decode cX11_isDate 13 = .ok (.bipush 100, 2) := by decide +kernel
theorem dX11_isDate_15 : decode cX11_isDate 15 = .ok (.sipush 599, 3) := by decide +kernel
theorem dX11_isDate_18 : decode cX11_isDate 18 = .ok (.invokestatic 106, 3) := by decide +kernel
theorem dX11_isDate_21 : decode cX11_isDate 21 = .ok (.ifCond .eq 18, 3) := by decide +kernel
theorem dX11_isDate_24 : decode cX11_isDate 24 = .ok (.iload_n 0, 1) := by decide +kernel
theorem dX11_isDate_25 : decode cX11_isDate 25 = .ok (.bipush 100, 2) := by decide +kernel
theorem dX11_isDate_27 : decode cX11_isDate 27 = .ok (.irem, 1) := by decide +kernel
theorem dX11_isDate_28 : decode cX11_isDate 28 = .ok (.bipush 6, 2) := by decide +kernel
theorem dX11_isDate_30 : decode cX11_isDate 30 = .ok (.if_icmp .gt 7, 3) := by decide +kernel
theorem dX11_isDate_33 : decode cX11_isDate 33 = .ok (.iconst 1, 1) := by decide +kernel
theorem dX11_isDate_34 : decode cX11_isDate 34 = .ok (.goto 4, 3) := by decide +kernel
theorem dX11_isDate_37 : decode cX11_isDate 37 = .ok (.iconst 0, 1) := by decide +kernel
theorem dX11_isDate_38 : decode cX11_isDate 38 = .ok (.ireturn, 1) := by decide +kernel
theorem dX11_isDate_39 : decode cX11_isDate 39 = .ok (.iload_n 0, 1) := by decide +kernel
theorem dX11_isDate_40 : decode cX11_isDate 40 = .ok (.sipush 1010, 3) := by decide +kernel
theorem dX11_isDate_43 : decode cX11_isDate 43 = .ok (.sipush 1319, 3) := by decide +kernel
theorem dX11_isDate_46 : decode cX11_isDate 46 = .ok (.invokestatic 106, 3) := by decide +kernel
theorem dX11_isDate_49 : decode cX11_isDate 49 = .ok (.ifCond .eq 16, 3) := by decide +kernel
theorem dX11_isDate_52 : decode cX11_isDate 52 = .ok (.iload_n 0, 1) := by decide +kernel
theorem dX11_isDate_53 : decode cX11_isDate 53 = .ok (.bipush 10, 2) := by decide +kernel
theorem dX11_isDate_55 : decode cX11_isDate 55 = .ok (.irem, 1) := by decide +kernel
theorem dX11_isDate_56 : decode cX11_isDate 56 = .ok (.bipush 6, 2) := by decide +kernel
theorem dX11_isDate_58 : decode cX11_isDate 58 = .ok (.if_icmp .gt 7, 3) := by decide +kernel
theorem dX11_isDate_61 : decode cX11_isDate 61 = .ok (.iconst 1, 1) := by decide +kernel
theorem dX11_isDate_62 : decode cX11_isDate 62 = .ok (.goto 4, 3) := by decide +kernel
theorem dX11_isDate_65 : decode cX11_isDate 65 = .ok (.iconst 0, 1) := by decide +kernel
theorem dX11_isDate_66 : decode cX11_isDate 66 = .ok (.ireturn, 1) := by decide +kernel
theorem dX11_dayBy_0 : decode cX11_dayBy 0 = .ok (.iload_n 1, 1) := by decide +kernel
theorem dX11_dayBy_1 : decode cX11_dayBy 1 = .ok (.iload_n 2, 1) := by decide +kernel
theorem dX11_dayBy_2 : decode cX11_dayBy 2 = .ok (.invokestatic 100, 3) := by decide +kernel
theorem dX11_dayBy_5 : decode cX11_dayBy 5 = .ok (.istore_n 3, 1) := by decide +kernel
theorem dX11_dayBy_6 : decode cX11_dayBy 6 = .ok (.iload_n 1, 1) := by decide +kernel
theorem dX11_dayBy_7 : decode cX11_dayBy 7 = .ok (.iload_n 2, 1) := by decide +kernel
theorem dX11_dayBy_8 : decode cX11_dayBy 8 = .ok (.invokestatic 93, 3) := by decide +kernel
theorem dX11_dayBy_11 : decode cX11_dayBy 11 = .ok (.istore 4, 2) := by decide +kernel
theorem dX11_dayBy_13 : decode cX11_dayBy 13 = .ok (.iload_n 0, 1) := by decide +kernel
theorem dX11_dayBy_14 : decode cX11_dayBy 14 = .ok (.bipush 31, 2) := by decide +kernel
theorem dX11_dayBy_16 : decode cX11_dayBy 16 = .ok (.if_icmp .gt 19, 3) := by decide +kernel
theorem dX11_dayBy_19 : decode cX11_dayBy 19 = .ok (.iload_n 0, 1) := by decide +kernel
theorem dX11_dayBy_20 : decode cX11_dayBy 20 = .ok (.iload 4, 2) := by decide +kernel
theorem dX11_dayBy_22 : decode cX11_dayBy 22 = .ok (.if_icmp .gt 11, 3) := by decide +kernel
theorem dX11_dayBy_25 : decode cX11_dayBy 25 = .ok (.iload_n 3, 1) := by decide +kernel
theorem dX11_dayBy_26 : decode cX11_dayBy 26 = .ok (.iload_n 0, 1) := by decide +kernel
theorem dX11_dayBy_27 : decode cX11_dayBy 27 = .ok (.iadd, 1) := by decide +kernel
theorem dX11_dayBy_28 : decode cX11_dayBy 28 = .ok (.iconst 1, 1) := by decide +kernel
theorem dX11_dayBy_29 : decode cX11_dayBy 29 = .ok (.isub, 1) := by decide +kernel
theorem dX11_dayBy_30 : decode cX11_dayBy 30 = .ok (.goto 4, 3) := by decide +kernel
theorem dX11_dayBy_33 : decode cX11_dayBy 33 = .ok (.iconst (-1), 1) := by decide +kernel
theorem dX11_dayBy_34 : decode cX11_dayBy 34 = .ok (.ireturn, 1) := by decide +kernel
theorem dX11_dayBy_35 : decode cX11_dayBy 35 = .ok (.iload_n 0, 1) := by decide +kernel
theorem dX11_dayBy_36 : decode cX11_dayBy 36 = .ok (.sipush 1000, 3) := by decide +kernel
theorem dX11_dayBy_39 : decode cX11_dayBy 39 = .ok (.if_icmp .ge 10, 3) := by decide +kernel
theorem dX11_dayBy_42 : decode cX11_dayBy 42 = .ok (.iload_n 0, 1) := by decide +kernel
theorem dX11_dayBy_43 : decode cX11_dayBy 43 = .ok (.bipush 100, 2) := by decide +kernel
theorem dX11_dayBy_45 : decode cX11_dayBy 45 = .ok (.irem, 1) := by decide +kernel
theorem dX11_dayBy_46 : decode cX11_dayBy 46 = .ok (.goto 7, 3) := by decide +kernel
theorem dX11_dayBy_49 : decode cX11_dayBy 49 = .ok (.iload_n 0, 1) := by decide +kernel
theorem dX11_dayBy_50 : decode cX11_dayBy 50 = .ok (.bipush 10, 2) := by decide +kernel
theorem dX11_dayBy_52 : decode cX11_dayBy 52 = .ok (.irem, 1) := by decide +kernel
theorem dX11_dayBy_53 : decode cX11_dayBy 53 = .ok (.istore 5, 2) := by decide +kernel
theorem dX11_dayBy_55 : decode cX11_dayBy 55 = .ok (.iconst 1, 1) := by decide +kernel
theorem dX11_dayBy_56 : decode cX11_dayBy 56 = .ok (.istore 6, 2) := by decide +kernel
theorem dX11_dayBy_58 : decode cX11_dayBy 58 = .ok (.iload_n 0, 1) := by decide +kernel
theorem dX11_dayBy_59 : decode cX11_dayBy 59 = .ok (.sipush 1000, 3) := by decide +kernel
theorem dX11_dayBy_62 : decode cX11_dayBy 62 = .ok (.if_icmp .lt 16, 3) := by decide +kernel
theorem dX11_dayBy_65 : decode cX11_dayBy 65 = .ok (.iload_n 0, 1) := by decide +kernel
theorem dX11_dayBy_66 : decode cX11_dayBy 66 = .ok (.sipush 1000, 3) := by decide +kernel
theorem dX11_dayBy_69 : decode cX11_dayBy 69 = .ok (.isub, 1) := by decide +kernel
theorem dX11_dayBy_70 : decode cX11_dayBy 70 = .ok (.bipush 10, 2) := by decide +kernel
theorem dX11_dayBy_72 : decode cX11_dayBy 72 = .ok (.idiv, 1) := by decide +kernel
theorem dX11_dayBy_73 : decode cX11_dayBy 73 = .ok (.istore 6, 2) := by decide +kernel
theorem dX11_dayBy_75 : decode cX11_dayBy 75 = .ok (.goto 17, 3) := by decide +kernel
theorem dX11_dayBy_78 : decode cX11_dayBy 78 = .ok (.iload_n 0, 1) := by decide +kernel
theorem dX11_dayBy_79 : decode cX11_dayBy 79 = .ok (.sipush 500, 3) := by decide +kernel
theorem dX11_dayBy_82 : decode cX11_dayBy 82 = .ok (.if_icmp .lt 10, 3) := by decide +kernel
theorem dX11_dayBy_85 : decode cX11_dayBy 85 = .ok (.iload 4, 2) := by decide +kernel
theorem dX11_dayBy_87 : decode cX11_dayBy 87 = .ok (.bipush 6, 2) := by decide +kernel
theorem dX11_dayBy_89 : decode cX11_dayBy 89 = .ok (.isub, 1) := by decide +kernel
theorem dX11_dayBy_90 : decode cX11_dayBy 90 = .ok (.istore 6, 2) := by decide +kernel
theorem dX11_dayBy_92 : decode cX11_dayBy 92 = .ok (.iload 6, 2) := by decide +kernel
theorem dX11_dayBy_94 : decode cX11_dayBy 94 = .ok (.iload 4, 2) := by decide +kernel
theorem dX11_dayBy_96 : decode cX11_dayBy 96 = .ok (.if_icmp .le 5, 3) := by decide +kernel
theorem dX11_dayBy_99 : decode cX11_dayBy 99 = .ok (.iconst (-1), 1) := by decide +kernel
theorem dX11_dayBy_100 : decode cX11_dayBy 100 = .ok (.ireturn, 1) := by decide +kernel
theorem dX11_dayBy_101 : decode cX11_dayBy 101 = .ok (.iload 6, 2) := by decide +kernel
theorem dX11_dayBy_103 : decode cX11_dayBy 103 = .ok (.iload 5, 2) := by decide +kernel
theorem dX11_dayBy_105 : decode cX11_dayBy 105 = .ok (.iload_n 3, 1) := by decide +kernel
theorem dX11_dayBy_106 : decode cX11_dayBy 106 = .ok (.iload 6, 2) := by decide +kernel
theorem dX11_dayBy_108 : decode cX11_dayBy 108 = .ok (.iadd, 1) := by decide +kernel
theorem dX11_dayBy_109 : decode cX11_dayBy 109 = .ok (.iconst 1, 1) := by decide +kernel
theorem dX11_dayBy_110 : decode cX11_dayBy 110 = .ok (.isub, 1) := by decide +kernel
theorem dX11_dayBy_111 : decode cX11_dayBy 111 = .ok (.invokestatic 120, 3) := by decide +kernel
theorem dX11_dayBy_114 : decode cX11_dayBy 114 = .ok (.isub, 1) := by decide +kernel
theorem dX11_dayBy_115 : decode cX11_dayBy 115 = .ok (.bipush 7, 2) := by decide +kernel
theorem dX11_dayBy_117 : decode cX11_dayBy 117 = .ok (.iadd, 1) := by decide +kernel
theorem dX11_dayBy_118 : decode cX11_dayBy 118 = .ok (.bipush 7, 2) := by decide +kernel
theorem dX11_dayBy_120 : decode cX11_dayBy 120 = .ok (.irem, 1) := by decide +kernel
theorem dX11_dayBy_121 : decode cX11_dayBy 121 = .ok (.iadd, 1) := by decide +kernel
theorem dX11_dayBy_122 : decode cX11_dayBy 122 = .ok (.istore 7, 2) := by decide +kernel
theorem dX11_dayBy_124 : decode cX11_dayBy 124 = .ok (.iload_n 0, 1) := by decide +kernel
theorem dX11_dayBy_125 : decode cX11_dayBy 125 = .ok (.sipush 500, 3) := by decide +kernel
theorem dX11_dayBy_128 : decode cX11_dayBy 128 = .ok (.if_icmp .ge 17, 3) := by decide +kernel
theorem dX11_dayBy_131 : decode cX11_dayBy 131 = .ok (.iload 7, 2) := by decide +kernel
theorem dX11_dayBy_133 : decode cX11_dayBy 133 = .ok (.bipush 7, 2) := by decide +kernel
theorem dX11_dayBy_135 : decode cX11_dayBy 135 = .ok (.iload_n 0, 1) := by decide +kernel
theorem dX11_dayBy_136 : decode cX11_dayBy 136 = .ok (.bipush 100, 2) := by decide +kernel
theorem dX11_dayBy_138 : decode cX11_dayBy 138 = .ok (.idiv, 1) := by decide +kernel
theorem dX11_dayBy_139 : decode cX11_dayBy 139 = .ok (.iconst 1, 1) := by decide +kernel
theorem dX11_dayBy_140 : decode cX11_dayBy 140 = .ok (.isub, 1) := by decide +kernel
theorem dX11_dayBy_141 : decode cX11_dayBy 141 = .ok (.imul, 1) := by decide +kernel
theorem dX11_dayBy_142 : decode cX11_dayBy 142 = .ok (.iadd, 1) := by decide +kernel
theorem dX11_dayBy_143 : decode cX11_dayBy 143 = .ok (.istore 7, 2) := by decide +kernel
theorem dX11_dayBy_145 : decode cX11_dayBy 145 = .ok (.iload 7, 2) := by decide +kernel
theorem dX11_dayBy_147 : decode cX11_dayBy 147 = .ok (.iload 4, 2) := by decide +kernel
theorem dX11_dayBy_149 : decode cX11_dayBy 149 = .ok (.if_icmp .gt 12, 3) := by decide +kernel
theorem dX11_dayBy_152 : decode cX11_dayBy 152 = .ok (.iload_n 3, 1) := by decide +kernel
theorem dX11_dayBy_153 : decode cX11_dayBy 153 = .ok (.iload 7, 2) := by decide +kernel
theorem dX11_dayBy_155 : decode cX11_dayBy 155 = .ok (.iadd, 1) := by decide +kernel
theorem dX11_dayBy_156 : decode cX11_dayBy 156 = .ok (.iconst 1, 1) := by decide +kernel
theorem dX11_dayBy_157 : decode cX11_dayBy 157 = .ok (.isub, 1) := by decide +kernel
theorem dX11_dayBy_158 : decode cX11_dayBy 158 = .ok (.goto 4, 3) := by decide +kernel
theorem dX11_dayBy_161 : decode cX11_dayBy 161 = .ok (.iconst (-1), 1) := by decide +kernel
theorem dX11_dayBy_162 : decode cX11_dayBy 162 = .ok (.ireturn, 1) := by decide +kernel
theorem dX11_isZone_0 : decode cX11_isZone 0 = .ok (.iload_n 1, 1) := by decide +kernel
theorem dX11_isZone_1 : decode cX11_isZone 1 = .ok (.iconst 0, 1) := by decide +kernel
theorem dX11_isZone_2 : decode cX11_isZone 2 = .ok (.aload_n 0, 1) := by decide +kernel
theorem dX11_isZone_3 : decode cX11_isZone 3 = .ok (.getfield 9, 3) := by decide +kernel
theorem dX11_isZone_6 : decode cX11_isZone 6 = .ok (.iconst 0, 1) := by decide +kernel
theorem dX11_isZone_7 : decode cX11_isZone 7 = .ok (.iaload, 1) := by decide +kernel
theorem dX11_isZone_8 : decode cX11_isZone 8 = .ok (.iconst 1, 1) := by decide +kernel
theorem dX11_isZone_9 : decode cX11_isZone 9 = .ok (.isub, 1) := by decide +kernel
theorem dX11_isZone_10 : decode cX11_isZone 10 = .ok (.invokestatic 106, 3) := by decide +kernel
theorem dX11_isZone_13 : decode cX11_isZone 13 = .ok (.ireturn, 1) := by decide +kernel
theorem dX11_zoneAt_0 : decode cX11_zoneAt 0 = .ok (.iconst 2, 1) := by decide +kernel
theorem dX11_zoneAt_1 : decode cX11_zoneAt 1 = .ok (.bipush 67, 2) := by decide +kernel
theorem dX11_zoneAt_3 : decode cX11_zoneAt 3 = .ok (.iload_n 0, 1) := by decide +kernel
theorem dX11_zoneAt_4 : decode cX11_zoneAt 4 = .ok (.imul, 1) := by decide +kernel
theorem dX11_zoneAt_5 : decode cX11_zoneAt 5 = .ok (.iadd, 1) := by decide +kernel
theorem dX11_zoneAt_6 : decode cX11_zoneAt 6 = .ok (.ireturn, 1) := by decide +kernel
theorem dX11_ruleAt_0 : decode cX11_ruleAt 0 = .ok (.iload_n 0, 1) := by decide +kernel
theorem dX11_ruleAt_1 : decode cX11_ruleAt 1 = .ok (.invokestatic 123, 3) := by decide +kernel
theorem dX11_ruleAt_4 : decode cX11_ruleAt 4 = .ok (.iconst 3, 1) := by decide +kernel
theorem dX11_ruleAt_5 : decode cX11_ruleAt 5 = .ok (.iadd, 1) := by decide +kernel
theorem dX11_ruleAt_6 : decode cX11_ruleAt 6 = .ok (.bipush 7, 2) := by decide +kernel
theorem dX11_ruleAt_8 : decode cX11_ruleAt 8 = .ok (.iload_n 1, 1) := by decide +kernel
theorem dX11_ruleAt_9 : decode cX11_ruleAt 9 = .ok (.imul, 1) := by decide +kernel
theorem dX11_ruleAt_10 : decode cX11_ruleAt 10 = .ok (.iadd, 1) := by decide +kernel
theorem dX11_ruleAt_11 : decode cX11_ruleAt 11 = .ok (.ireturn, 1) := by decide +kernel
theorem dX11_isRule_0 : decode cX11_isRule 0 = .ok (.aload_n 0, 1) := by decide +kernel
theorem dX11_isRule_1 : decode cX11_isRule 1 = .ok (.iload_n 1, 1) := by decide +kernel
theorem dX11_isRule_2 : decode cX11_isRule 2 = .ok (.invokevirtual 126, 3) := by decide +kernel
theorem dX11_isRule_5 : decode cX11_isRule 5 = .ok (.ifCond .eq 28, 3) := by decide +kernel
theorem dX11_isRule_8 : decode cX11_isRule 8 = .ok (.iload_n 2, 1) := by decide +kernel
theorem dX11_isRule_9 : decode cX11_isRule 9 = .ok (.iconst 0, 1) := by decide +kernel
theorem dX11_isRule_10 : decode cX11_isRule 10 = .ok (.aload_n 0, 1) := by decide +kernel
theorem dX11_isRule_11 : decode cX11_isRule 11 = .ok (.getfield 9, 3) := by decide +kernel
theorem dX11_isRule_14 : decode cX11_isRule 14 = .ok (.iload_n 1, 1) := by decide +kernel
theorem dX11_isRule_15 : decode cX11_isRule 15 = .ok (.invokestatic 123, 3) := by decide +kernel
theorem dX11_isRule_18 : decode cX11_isRule 18 = .ok (.iconst 1, 1) := by decide +kernel
theorem dX11_isRule_19 : decode cX11_isRule 19 = .ok (.iadd, 1) := by decide +kernel
theorem dX11_isRule_20 : decode cX11_isRule 20 = .ok (.iaload, 1) := by decide +kernel
theorem dX11_isRule_21 : decode cX11_isRule 21 = .ok (.iconst 1, 1) := by decide +kernel
theorem dX11_isRule_22 : decode cX11_isRule 22 = .ok (.isub, 1) := by decide +kernel
theorem dX11_isRule_23 : decode cX11_isRule 23 = .ok (.invokestatic 106, 3) := by decide +kernel
theorem dX11_isRule_26 : decode cX11_isRule 26 = .ok (.ifCond .eq 7, 3) := by decide +kernel
theorem dX11_isRule_29 : decode cX11_isRule 29 = .ok (.iconst 1, 1) := by decide +kernel
theorem dX11_isRule_30 : decode cX11_isRule 30 = .ok (.goto 4, 3) := by decide +kernel
theorem dX11_isRule_33 : decode cX11_isRule 33 = .ok (.iconst 0, 1) := by decide +kernel
theorem dX11_isRule_34 : decode cX11_isRule 34 = .ok (.ireturn, 1) := by decide +kernel
theorem dX11_isBase_0 : decode cX11_isBase 0 = .ok (.iload_n 0, 1) := by decide +kernel
theorem dX11_isBase_1 : decode cX11_isBase 1 = .ok (.sipush (-720), 3) := by decide +kernel
theorem dX11_isBase_4 : decode cX11_isBase 4 = .ok (.sipush 840, 3) := by decide +kernel
theorem dX11_isBase_7 : decode cX11_isBase 7 = .ok (.invokestatic 106, 3) := by decide +kernel
theorem dX11_isBase_10 : decode cX11_isBase 10 = .ok (.ireturn, 1) := by decide +kernel
theorem dX11_zoneBy_0 : decode cX11_zoneBy 0 = .ok (.iload_n 1, 1) := by decide +kernel
theorem dX11_zoneBy_1 : decode cX11_zoneBy 1 = .ok (.invokestatic 129, 3) := by decide +kernel
theorem dX11_zoneBy_4 : decode cX11_zoneBy 4 = .ok (.ifCond .ne 5, 3) := by decide +kernel
theorem dX11_zoneBy_7 : decode cX11_zoneBy 7 = .ok (.iconst (-1), 1) := by decide +kernel
theorem dX11_zoneBy_8 : decode cX11_zoneBy 8 = .ok (.ireturn, 1) := by decide +kernel
theorem dX11_zoneBy_9 : decode cX11_zoneBy 9 = .ok (.aload_n 0, 1) := by decide +kernel
theorem dX11_zoneBy_10 : decode cX11_zoneBy 10 = .ok (.getfield 9, 3) := by decide +kernel
theorem dX11_zoneBy_13 : decode cX11_zoneBy 13 = .ok (.iconst 0, 1) := by decide +kernel
theorem dX11_zoneBy_14 : decode cX11_zoneBy 14 = .ok (.iaload, 1) := by decide +kernel
theorem dX11_zoneBy_15 : decode cX11_zoneBy 15 = .ok (.bipush 6, 2) := by decide +kernel
theorem dX11_zoneBy_17 : decode cX11_zoneBy 17 = .ok (.if_icmp .ne 6, 3) := by decide +kernel
theorem dX11_zoneBy_20 : decode cX11_zoneBy 20 = .ok (.bipush (-2), 2) := by decide +kernel
theorem dX11_zoneBy_22 : decode cX11_zoneBy 22 = .ok (.ireturn, 1) := by decide +kernel
theorem dX11_zoneBy_23 : decode cX11_zoneBy 23 = .ok (.iconst 0, 1) := by decide +kernel
theorem dX11_zoneBy_24 : decode cX11_zoneBy 24 = .ok (.istore_n 2, 1) := by decide +kernel
theorem dX11_zoneBy_25 : decode cX11_zoneBy 25 = .ok (.iload_n 2, 1) := by decide +kernel
theorem dX11_zoneBy_26 : decode cX11_zoneBy 26 = .ok (.bipush 67, 2) := by decide +kernel
theorem dX11_zoneBy_28 : decode cX11_zoneBy 28 = .ok (.if_icmp .ge 26, 3) := by decide +kernel
theorem dX11_zoneBy_31 : decode cX11_zoneBy 31 = .ok (.aload_n 0, 1) := by decide +kernel
theorem dX11_zoneBy_32 : decode cX11_zoneBy 32 = .ok (.getfield 9, 3) := by decide +kernel
theorem dX11_zoneBy_35 : decode cX11_zoneBy 35 = .ok (.aload_n 0, 1) := by decide +kernel
theorem dX11_zoneBy_36 : decode cX11_zoneBy 36 = .ok (.getfield 9, 3) := by decide +kernel
theorem dX11_zoneBy_39 : decode cX11_zoneBy 39 = .ok (.iconst 0, 1) := by decide +kernel
theorem dX11_zoneBy_40 : decode cX11_zoneBy 40 = .ok (.iaload, 1) := by decide +kernel
theorem dX11_zoneBy_41 : decode cX11_zoneBy 41 = .ok (.invokestatic 123, 3) := by decide +kernel
theorem dX11_zoneBy_44 : decode cX11_zoneBy 44 = .ok (.iload_n 2, 1) := by decide +kernel
theorem dX11_zoneBy_45 : decode cX11_zoneBy 45 = .ok (.iadd, 1) := by decide +kernel
theorem dX11_zoneBy_46 : decode cX11_zoneBy 46 = .ok (.iconst 0, 1) := by decide +kernel
theorem dX11_zoneBy_47 : decode cX11_zoneBy 47 = .ok (.iastore, 1) := by decide +kernel
theorem dX11_zoneBy_48 : decode cX11_zoneBy 48 = .ok (.iinc 2 1, 3) := by decide +kernel
theorem dX11_zoneBy_51 : decode cX11_zoneBy 51 = .ok (.goto (-26), 3) := by decide +kernel
theorem dX11_zoneBy_54 : decode cX11_zoneBy 54 = .ok (.aload_n 0, 1) := by decide +kernel
theorem dX11_zoneBy_55 : decode cX11_zoneBy 55 = .ok (.getfield 9, 3) := by decide +kernel
theorem dX11_zoneBy_58 : decode cX11_zoneBy 58 = .ok (.aload_n 0, 1) := by decide +kernel
theorem dX11_zoneBy_59 : decode cX11_zoneBy 59 = .ok (.getfield 9, 3) := by decide +kernel
theorem dX11_zoneBy_62 : decode cX11_zoneBy 62 = .ok (.iconst 0, 1) := by decide +kernel
theorem dX11_zoneBy_63 : decode cX11_zoneBy 63 = .ok (.iaload, 1) := by decide +kernel
theorem dX11_zoneBy_64 : decode cX11_zoneBy 64 = .ok (.invokestatic 123, 3) := by decide +kernel
theorem dX11_zoneBy_67 : decode cX11_zoneBy 67 = .ok (.iload_n 1, 1) := by decide +kernel
theorem dX11_zoneBy_68 : decode cX11_zoneBy 68 = .ok (.iastore, 1) := by decide +kernel
theorem dX11_zoneBy_69 : decode cX11_zoneBy 69 = .ok (.aload_n 0, 1) := by decide +kernel
theorem dX11_zoneBy_70 : decode cX11_zoneBy 70 = .ok (.getfield 9, 3) := by decide +kernel
theorem dX11_zoneBy_73 : decode cX11_zoneBy 73 = .ok (.iconst 0, 1) := by decide +kernel
theorem dX11_zoneBy_74 : decode cX11_zoneBy 74 = .ok (.dup2, 1) := by decide +kernel
theorem dX11_zoneBy_75 : decode cX11_zoneBy 75 = .ok (.iaload, 1) := by decide +kernel
theorem dX11_zoneBy_76 : decode cX11_zoneBy 76 = .ok (.dup_x2, 1) := by decide +kernel
theorem dX11_zoneBy_77 : decode cX11_zoneBy 77 = .ok (.iconst 1, 1) := by decide +kernel
theorem dX11_zoneBy_78 : decode cX11_zoneBy 78 = .ok (.iadd, 1) := by decide +kernel
theorem dX11_zoneBy_79 : decode cX11_zoneBy 79 = .ok (.iastore, 1) := by decide +kernel
theorem dX11_zoneBy_80 : decode cX11_zoneBy 80 = .ok (.ireturn, 1) := by decide +kernel
theorem dX11_baseBy_0 : decode cX11_baseBy 0 = .ok (.aload_n 0, 1) := by decide +kernel
theorem dX11_baseBy_1 : decode cX11_baseBy 1 = .ok (.iload_n 1, 1) := by decide +kernel
theorem dX11_baseBy_2 : decode cX11_baseBy 2 = .ok (.invokevirtual 126, 3) := by decide +kernel
theorem dX11_baseBy_5 : decode cX11_baseBy 5 = .ok (.ifCond .ne 5, 3) := by decide +kernel
theorem dX11_baseBy_8 : decode cX11_baseBy 8 = .ok (.iconst (-1), 1) := by decide +kernel
theorem dX11_baseBy_9 : decode cX11_baseBy 9 = .ok (.ireturn, 1) := by decide +kernel
theorem dX11_baseBy_10 : decode cX11_baseBy 10 = .ok (.iload_n 2, 1) := by decide +kernel
theorem dX11_baseBy_11 : decode cX11_baseBy 11 = .ok (.invokestatic 113, 3) := by decide +kernel
theorem dX11_baseBy_14 : decode cX11_baseBy 14 = .ok (.ifCond .eq 10, 3) := by decide +kernel
theorem dX11_baseBy_17 : decode cX11_baseBy 17 = .ok (.iload_n 3, 1) := by decide +kernel
theorem dX11_baseBy_18 : decode cX11_baseBy 18 = .ok (.invokestatic 129, 3) := by decide +kernel
theorem dX11_baseBy_21 : decode cX11_baseBy 21 = .ok (.ifCond .ne 6, 3) := by decide +kernel
theorem dX11_baseBy_24 : decode cX11_baseBy 24 = .ok (.bipush (-2), 2) := by decide +kernel
theorem dX11_baseBy_26 : decode cX11_baseBy 26 = .ok (.ireturn, 1) := by decide +kernel
theorem dX11_baseBy_27 : decode cX11_baseBy 27 = .ok (.iload_n 1, 1) := by decide +kernel
theorem dX11_baseBy_28 : decode cX11_baseBy 28 = .ok (.invokestatic 123, 3) := by decide +kernel
theorem dX11_baseBy_31 : decode cX11_baseBy 31 = .ok (.istore 4, 2) := by decide +kernel
theorem dX11_baseBy_33 : decode cX11_baseBy 33 = .ok (.aload_n 0, 1) := by decide +kernel
theorem dX11_baseBy_34 : decode cX11_baseBy 34 = .ok (.getfield 9, 3) := by decide +kernel
theorem dX11_baseBy_37 : decode cX11_baseBy 37 = .ok (.iload 4, 2) := by decide +kernel
theorem dX11_baseBy_39 : decode cX11_baseBy 39 = .ok (.iconst 2, 1) := by decide +kernel
theorem dX11_baseBy_40 : decode cX11_baseBy 40 = .ok (.iadd, 1) := by decide +kernel
theorem dX11_baseBy_41 : decode cX11_baseBy 41 = .ok (.iaload, 1) := by decide +kernel
theorem dX11_baseBy_42 : decode cX11_baseBy 42 = .ok (.iconst 4, 1) := by decide +kernel
theorem dX11_baseBy_43 : decode cX11_baseBy 43 = .ok (.if_icmp .ne 6, 3) := by decide +kernel
theorem dX11_baseBy_46 : decode cX11_baseBy 46 = .ok (.bipush (-3), 2) := by decide +kernel
theorem dX11_baseBy_48 : decode cX11_baseBy 48 = .ok (.ireturn, 1) := by decide +kernel
theorem dX11_baseBy_49 : decode cX11_baseBy 49 = .ok (.aload_n 0, 1) := by decide +kernel
theorem dX11_baseBy_50 : decode cX11_baseBy 50 = .ok (.getfield 9, 3) := by decide +kernel
theorem dX11_baseBy_53 : decode cX11_baseBy 53 = .ok (.iload 4, 2) := by decide +kernel
theorem dX11_baseBy_55 : decode cX11_baseBy 55 = .ok (.bipush 59, 2) := by decide +kernel
theorem dX11_baseBy_57 : decode cX11_baseBy 57 = .ok (.iadd, 1) := by decide +kernel
theorem dX11_baseBy_58 : decode cX11_baseBy 58 = .ok (.iconst 2, 1) := by decide +kernel
theorem dX11_baseBy_59 : decode cX11_baseBy 59 = .ok (.aload_n 0, 1) := by decide +kernel
theorem dX11_baseBy_60 : decode cX11_baseBy 60 = .ok (.getfield 9, 3) := by decide +kernel
theorem dX11_baseBy_63 : decode cX11_baseBy 63 = .ok (.iload 4, 2) := by decide +kernel
theorem dX11_baseBy_65 : decode cX11_baseBy 65 = .ok (.iconst 2, 1) := by decide +kernel
theorem dX11_baseBy_66 : decode cX11_baseBy 66 = .ok (.iadd, 1) := by decide +kernel
theorem dX11_baseBy_67 : decode cX11_baseBy 67 = .ok (.iaload, 1) := by decide +kernel
theorem dX11_baseBy_68 : decode cX11_baseBy 68 = .ok (.imul, 1) := by decide +kernel
theorem dX11_baseBy_69 : decode cX11_baseBy 69 = .ok (.iadd, 1) := by decide +kernel
theorem dX11_baseBy_70 : decode cX11_baseBy 70 = .ok (.iload_n 2, 1) := by decide +kernel
theorem dX11_baseBy_71 : decode cX11_baseBy 71 = .ok (.iastore, 1) := by decide +kernel
theorem dX11_baseBy_72 : decode cX11_baseBy 72 = .ok (.aload_n 0, 1) := by decide +kernel
theorem dX11_baseBy_73 : decode cX11_baseBy 73 = .ok (.getfield 9, 3) := by decide +kernel
theorem dX11_baseBy_76 : decode cX11_baseBy 76 = .ok (.iload 4, 2) := by decide +kernel
theorem dX11_baseBy_78 : decode cX11_baseBy 78 = .ok (.bipush 59, 2) := by decide +kernel
theorem dX11_baseBy_80 : decode cX11_baseBy 80 = .ok (.iadd, 1) := by decide +kernel
theorem dX11_baseBy_81 : decode cX11_baseBy 81 = .ok (.iconst 2, 1) := by decide +kernel
theorem dX11_baseBy_82 : decode cX11_baseBy 82 = .ok (.aload_n 0, 1) := by decide +kernel
theorem dX11_baseBy_83 : decode cX11_baseBy 83 = .ok (.getfield 9, 3) := by decide +kernel
theorem dX11_baseBy_86 : decode cX11_baseBy 86 = .ok (.iload 4, 2) := by decide +kernel
theorem dX11_baseBy_88 : decode cX11_baseBy 88 = .ok (.iconst 2, 1) := by decide +kernel
theorem dX11_baseBy_89 : decode cX11_baseBy 89 = .ok (.iadd, 1) := by decide +kernel
theorem dX11_baseBy_90 : decode cX11_baseBy 90 = .ok (.iaload, 1) := by decide +kernel
theorem dX11_baseBy_91 : decode cX11_baseBy 91 = .ok (.imul, 1) := by decide +kernel
theorem dX11_baseBy_92 : decode cX11_baseBy 92 = .ok (.iadd, 1) := by decide +kernel
theorem dX11_baseBy_93 : decode cX11_baseBy 93 = .ok (.iconst 1, 1) := by decide +kernel
theorem dX11_baseBy_94 : decode cX11_baseBy 94 = .ok (.iadd, 1) := by decide +kernel
theorem dX11_baseBy_95 : decode cX11_baseBy 95 = .ok (.iload_n 3, 1) := by decide +kernel
theorem dX11_baseBy_96 : decode cX11_baseBy 96 = .ok (.iastore, 1) := by decide +kernel
theorem dX11_baseBy_97 : decode cX11_baseBy 97 = .ok (.aload_n 0, 1) := by decide +kernel
theorem dX11_baseBy_98 : decode cX11_baseBy 98 = .ok (.getfield 9, 3) := by decide +kernel
theorem dX11_baseBy_101 : decode cX11_baseBy 101 = .ok (.iload 4, 2) := by decide +kernel
theorem dX11_baseBy_103 : decode cX11_baseBy 103 = .ok (.iconst 2, 1) := by decide +kernel
theorem dX11_baseBy_104 : decode cX11_baseBy 104 = .ok (.iadd, 1) := by decide +kernel
theorem dX11_baseBy_105 : decode cX11_baseBy 105 = .ok (.dup2, 1) := by decide +kernel
theorem dX11_baseBy_106 : decode cX11_baseBy 106 = .ok (.iaload, 1) := by decide +kernel
theorem dX11_baseBy_107 : decode cX11_baseBy 107 = .ok (.dup_x2, 1) := by decide +kernel
theorem dX11_baseBy_108 : decode cX11_baseBy 108 = .ok (.iconst 1, 1) := by decide +kernel
theorem dX11_baseBy_109 : decode cX11_baseBy 109 = .ok (.iadd, 1) := by decide +kernel
theorem dX11_baseBy_110 : decode cX11_baseBy 110 = .ok (.iastore, 1) := by decide +kernel
theorem dX11_baseBy_111 : decode cX11_baseBy 111 = .ok (.ireturn, 1) := by decide +kernel
theorem dX11_ruleBy_0 : decode cX11_ruleBy 0 = .ok (.aload_n 0, 1) := by decide +kernel
theorem dX11_ruleBy_1 : decode cX11_ruleBy 1 = .ok (.iload_n 1, 1) := by decide +kernel
theorem dX11_ruleBy_2 : decode cX11_ruleBy 2 = .ok (.invokevirtual 126, 3) := by decide +kernel
theorem dX11_ruleBy_5 : decode cX11_ruleBy 5 = .ok (.ifCond .ne 5, 3) := by decide +kernel
theorem dX11_ruleBy_8 : decode cX11_ruleBy 8 = .ok (.iconst (-1), 1) := by decide +kernel
theorem dX11_ruleBy_9 : decode cX11_ruleBy 9 = .ok (.ireturn, 1) := by decide +kernel
theorem dX11_ruleBy_10 : decode cX11_ruleBy 10 = .ok (.iload_n 2, 1) := by decide +kernel
theorem dX11_ruleBy_11 : decode cX11_ruleBy 11 = .ok (.ifCond .lt 8, 3) := by decide +kernel
theorem dX11_ruleBy_14 : decode cX11_ruleBy 14 = .ok (.iload 5, 2) := by decide +kernel
theorem dX11_ruleBy_16 : decode cX11_ruleBy 16 = .ok (.ifCond .ge 6, 3) := by decide +kernel
theorem dX11_ruleBy_19 : decode cX11_ruleBy 19 = .ok (.bipush (-2), 2) := by decide +kernel
theorem dX11_ruleBy_21 : decode cX11_ruleBy 21 = .ok (.ireturn, 1) := by decide +kernel
theorem dX11_ruleBy_22 : decode cX11_ruleBy 22 = .ok (.iload_n 2, 1) := by decide +kernel
theorem dX11_ruleBy_23 : decode cX11_ruleBy 23 = .ok (.bipush 100, 2) := by decide +kernel
theorem dX11_ruleBy_25 : decode cX11_ruleBy 25 = .ok (.idiv, 1) := by decide +kernel
theorem dX11_ruleBy_26 : decode cX11_ruleBy 26 = .ok (.istore 7, 2) := by decide +kernel
theorem dX11_ruleBy_28 : decode cX11_ruleBy 28 = .ok (.iload_n 2, 1) := by decide +kernel
theorem dX11_ruleBy_29 : decode cX11_ruleBy 29 = .ok (.bipush 100, 2) := by decide +kernel
theorem dX11_ruleBy_31 : decode cX11_ruleBy 31 = .ok (.irem, 1) := by decide +kernel
theorem dX11_ruleBy_32 : decode cX11_ruleBy 32 = .ok (.istore 8, 2) := by decide +kernel
theorem dX11_ruleBy_34 : decode cX11_ruleBy 34 = .ok (.iload 7, 2) := by decide +kernel
theorem dX11_ruleBy_36 : decode cX11_ruleBy 36 = .ok (.iload 8, 2) := by decide +kernel
theorem dX11_ruleBy_38 : decode cX11_ruleBy 38 = .ok (.if_icmp .gt 59, 3) := by decide +kernel
theorem dX11_ruleBy_41 : decode cX11_ruleBy 41 = .ok (.iload 8, 2) := by decide +kernel
theorem dX11_ruleBy_43 : decode cX11_ruleBy 43 = .ok (.bipush 31, 2) := by decide +kernel
theorem dX11_ruleBy_45 : decode cX11_ruleBy 45 = .ok (.if_icmp .gt 52, 3) := by decide +kernel
theorem dX11_ruleBy_48 : decode cX11_ruleBy 48 = .ok (.iload_n 3, 1) := by decide +kernel
theorem dX11_ruleBy_49 : decode cX11_ruleBy 49 = .ok (.iconst 1, 1) := by decide +kernel
theorem dX11_ruleBy_50 : decode cX11_ruleBy 50 = .ok (.bipush 12, 2) := by decide +kernel
theorem dX11_ruleBy_52 : decode cX11_ruleBy 52 = .ok (.invokestatic 106, 3) := by decide +kernel
theorem dX11_ruleBy_55 : decode cX11_ruleBy 55 = .ok (.ifCond .eq 42, 3) := by decide +kernel
theorem dX11_ruleBy_58 : decode cX11_ruleBy 58 = .ok (.iload 4, 2) := by decide +kernel
theorem dX11_ruleBy_60 : decode cX11_ruleBy 60 = .ok (.invokestatic 132, 3) := by decide +kernel
theorem dX11_ruleBy_63 : decode cX11_ruleBy 63 = .ok (.ifCond .eq 34, 3) := by decide +kernel
theorem dX11_ruleBy_66 : decode cX11_ruleBy 66 = .ok (.iload 5, 2) := by decide +kernel
theorem dX11_ruleBy_68 : decode cX11_ruleBy 68 = .ok (.bipush 10, 2) := by decide +kernel
theorem dX11_ruleBy_70 : decode cX11_ruleBy 70 = .ok (.idiv, 1) := by decide +kernel
theorem dX11_ruleBy_71 : decode cX11_ruleBy 71 = .ok (.sipush 1439, 3) := by decide +kernel
theorem dX11_ruleBy_74 : decode cX11_ruleBy 74 = .ok (.if_icmp .gt 23, 3) := by decide +kernel
theorem dX11_ruleBy_77 : decode cX11_ruleBy 77 = .ok (.iload 5, 2) := by decide +kernel
theorem dX11_ruleBy_79 : decode cX11_ruleBy 79 = .ok (.bipush 10, 2) := by decide +kernel
theorem dX11_ruleBy_81 : decode cX11_ruleBy 81 = .ok (.irem, 1) := by decide +kernel
theorem dX11_ruleBy_82 : decode cX11_ruleBy 82 = .ok (.iconst 2, 1) := by decide +kernel
theorem dX11_ruleBy_83 : decode cX11_ruleBy 83 = .ok (.if_icmp .gt 14, 3) := by decide +kernel
theorem dX11_ruleBy_86 : decode cX11_ruleBy 86 = .ok (.iload 6, 2) := by decide +kernel
theorem dX11_ruleBy_88 : decode cX11_ruleBy 88 = .ok (.iconst 0, 1) := by decide +kernel
theorem dX11_ruleBy_89 : decode cX11_ruleBy 89 = .ok (.bipush 120, 2) := by decide +kernel
theorem dX11_ruleBy_91 : decode cX11_ruleBy 91 = .ok (.invokestatic 106, 3) := by decide +kernel
theorem dX11_ruleBy_94 : decode cX11_ruleBy 94 = .ok (.ifCond .ne 6, 3) := by decide +kernel
theorem dX11_ruleBy_97 : decode cX11_ruleBy 97 = .ok (.bipush (-2), 2) := by decide +kernel
theorem dX11_ruleBy_99 : decode cX11_ruleBy 99 = .ok (.ireturn, 1) := by decide +kernel
theorem dX11_ruleBy_100 : decode cX11_ruleBy 100 = .ok (.iload_n 1, 1) := by decide +kernel
theorem dX11_ruleBy_101 : decode cX11_ruleBy 101 = .ok (.invokestatic 123, 3) := by decide +kernel
theorem dX11_ruleBy_104 : decode cX11_ruleBy 104 = .ok (.istore 9, 2) := by decide +kernel
theorem dX11_ruleBy_106 : decode cX11_ruleBy 106 = .ok (.aload_n 0, 1) := by decide +kernel
theorem dX11_ruleBy_107 : decode cX11_ruleBy 107 = .ok (.getfield 9, 3) := by decide +kernel
theorem dX11_ruleBy_110 : decode cX11_ruleBy 110 = .ok (.iload 9, 2) := by decide +kernel
theorem dX11_ruleBy_112 : decode cX11_ruleBy 112 = .ok (.iconst 1, 1) := by decide +kernel
theorem dX11_ruleBy_113 : decode cX11_ruleBy 113 = .ok (.iadd, 1) := by decide +kernel
theorem dX11_ruleBy_114 : decode cX11_ruleBy 114 = .ok (.iaload, 1) := by decide +kernel
theorem dX11_ruleBy_115 : decode cX11_ruleBy 115 = .ok (.bipush 8, 2) := by decide +kernel
theorem dX11_ruleBy_117 : decode cX11_ruleBy 117 = .ok (.if_icmp .ne 6, 3) := by decide +kernel
theorem dX11_ruleBy_120 : decode cX11_ruleBy 120 = .ok (.bipush (-3), 2) := by decide +kernel
theorem dX11_ruleBy_122 : decode cX11_ruleBy 122 = .ok (.ireturn, 1) := by decide +kernel
theorem dX11_ruleBy_123 : decode cX11_ruleBy 123 = .ok (.iload_n 1, 1) := by decide +kernel
theorem dX11_ruleBy_124 : decode cX11_ruleBy 124 = .ok (.aload_n 0, 1) := by decide +kernel
theorem dX11_ruleBy_125 : decode cX11_ruleBy 125 = .ok (.getfield 9, 3) := by decide +kernel
theorem dX11_ruleBy_128 : decode cX11_ruleBy 128 = .ok (.iload 9, 2) := by decide +kernel
theorem dX11_ruleBy_130 : decode cX11_ruleBy 130 = .ok (.iconst 1, 1) := by decide +kernel
theorem dX11_ruleBy_131 : decode cX11_ruleBy 131 = .ok (.iadd, 1) := by decide +kernel
theorem dX11_ruleBy_132 : decode cX11_ruleBy 132 = .ok (.iaload, 1) := by decide +kernel
theorem dX11_ruleBy_133 : decode cX11_ruleBy 133 = .ok (.invokestatic 135, 3) := by decide +kernel
theorem dX11_ruleBy_136 : decode cX11_ruleBy 136 = .ok (.istore 10, 2) := by decide +kernel
theorem dX11_ruleBy_138 : decode cX11_ruleBy 138 = .ok (.aload_n 0, 1) := by decide +kernel
theorem dX11_ruleBy_139 : decode cX11_ruleBy 139 = .ok (.getfield 9, 3) := by decide +kernel
theorem dX11_ruleBy_142 : decode cX11_ruleBy 142 = .ok (.iload 10, 2) := by decide +kernel
theorem dX11_ruleBy_144 : decode cX11_ruleBy 144 = .ok (.iload 7, 2) := by decide +kernel
theorem dX11_ruleBy_146 : decode cX11_ruleBy 146 = .ok (.iastore, 1) := by decide +kernel
theorem dX11_ruleBy_147 : decode cX11_ruleBy 147 = .ok (.aload_n 0, 1) := by decide +kernel
theorem dX11_ruleBy_148 : decode cX11_ruleBy 148 = .ok (.getfield 9, 3) := by decide +kernel
theorem dX11_ruleBy_151 : decode cX11_ruleBy 151 = .ok (.iload 10, 2) := by decide +kernel
theorem dX11_ruleBy_153 : decode cX11_ruleBy 153 = .ok (.iconst 1, 1) := by decide +kernel
theorem dX11_ruleBy_154 : decode cX11_ruleBy 154 = .ok (.iadd, 1) := by decide +kernel
theorem dX11_ruleBy_155 : decode cX11_ruleBy 155 = .ok (.iload 8, 2) := by decide +kernel
theorem dX11_ruleBy_157 : decode cX11_ruleBy 157 = .ok (.iastore, 1) := by decide +kernel
theorem dX11_ruleBy_158 : decode cX11_ruleBy 158 = .ok (.aload_n 0, 1) := by decide +kernel
theorem dX11_ruleBy_159 : decode cX11_ruleBy 159 = .ok (.getfield 9, 3) := by decide +kernel
theorem dX11_ruleBy_162 : decode cX11_ruleBy 162 = .ok (.iload 10, 2) := by decide +kernel
theorem dX11_ruleBy_164 : decode cX11_ruleBy 164 = .ok (.iconst 2, 1) := by decide +kernel
theorem dX11_ruleBy_165 : decode cX11_ruleBy 165 = .ok (.iadd, 1) := by decide +kernel
theorem dX11_ruleBy_166 : decode cX11_ruleBy 166 = .ok (.iload_n 3, 1) := by decide +kernel
theorem dX11_ruleBy_167 : decode cX11_ruleBy 167 = .ok (.iastore, 1) := by decide +kernel
theorem dX11_ruleBy_168 : decode cX11_ruleBy 168 = .ok (.aload_n 0, 1) := by decide +kernel
theorem dX11_ruleBy_169 : decode cX11_ruleBy 169 = .ok (.getfield 9, 3) := by decide +kernel
theorem dX11_ruleBy_172 : decode cX11_ruleBy 172 = .ok (.iload 10, 2) := by decide +kernel
theorem dX11_ruleBy_174 : decode cX11_ruleBy 174 = .ok (.iconst 3, 1) := by decide +kernel
theorem dX11_ruleBy_175 : decode cX11_ruleBy 175 = .ok (.iadd, 1) := by decide +kernel
theorem dX11_ruleBy_176 : decode cX11_ruleBy 176 = .ok (.iload 4, 2) := by decide +kernel
theorem dX11_ruleBy_178 : decode cX11_ruleBy 178 = .ok (.iastore, 1) := by decide +kernel
theorem dX11_ruleBy_179 : decode cX11_ruleBy 179 = .ok (.aload_n 0, 1) := by decide +kernel
theorem dX11_ruleBy_180 : decode cX11_ruleBy 180 = .ok (.getfield 9, 3) := by decide +kernel
theorem dX11_ruleBy_183 : decode cX11_ruleBy 183 = .ok (.iload 10, 2) := by decide +kernel
theorem dX11_ruleBy_185 : decode cX11_ruleBy 185 = .ok (.iconst 4, 1) := by decide +kernel
theorem dX11_ruleBy_186 : decode cX11_ruleBy 186 = .ok (.iadd, 1) := by decide +kernel
theorem dX11_ruleBy_187 : decode cX11_ruleBy 187 = .ok (.iload 5, 2) := by decide +kernel
theorem dX11_ruleBy_189 : decode cX11_ruleBy 189 = .ok (.bipush 10, 2) := by decide +kernel
theorem dX11_ruleBy_191 : decode cX11_ruleBy 191 = .ok (.idiv, 1) := by decide +kernel
theorem dX11_ruleBy_192 : decode cX11_ruleBy 192 = .ok (.iastore, 1) := by decide +kernel
theorem dX11_ruleBy_193 : decode cX11_ruleBy 193 = .ok (.aload_n 0, 1) := by decide +kernel
theorem dX11_ruleBy_194 : decode cX11_ruleBy 194 = .ok (.getfield 9, 3) := by decide +kernel
theorem dX11_ruleBy_197 : decode cX11_ruleBy 197 = .ok (.iload 10, 2) := by decide +kernel
theorem dX11_ruleBy_199 : decode cX11_ruleBy 199 = .ok (.iconst 5, 1) := by decide +kernel
theorem dX11_ruleBy_200 : decode cX11_ruleBy 200 = .ok (.iadd, 1) := by decide +kernel
theorem dX11_ruleBy_201 : decode cX11_ruleBy 201 = .ok (.iload 5, 2) := by decide +kernel
theorem dX11_ruleBy_203 : decode cX11_ruleBy 203 = .ok (.bipush 10, 2) := by decide +kernel
theorem dX11_ruleBy_205 : decode cX11_ruleBy 205 = .ok (.irem, 1) := by decide +kernel
theorem dX11_ruleBy_206 : decode cX11_ruleBy 206 = .ok (.iastore, 1) := by decide +kernel
theorem dX11_ruleBy_207 : decode cX11_ruleBy 207 = .ok (.aload_n 0, 1) := by decide +kernel
theorem dX11_ruleBy_208 : decode cX11_ruleBy 208 = .ok (.getfield 9, 3) := by decide +kernel
theorem dX11_ruleBy_211 : decode cX11_ruleBy 211 = .ok (.iload 10, 2) := by decide +kernel
theorem dX11_ruleBy_213 : decode cX11_ruleBy 213 = .ok (.bipush 6, 2) := by decide +kernel
theorem dX11_ruleBy_215 : decode cX11_ruleBy 215 = .ok (.iadd, 1) := by decide +kernel
theorem dX11_ruleBy_216 : decode cX11_ruleBy 216 = .ok (.iload 6, 2) := by decide +kernel
theorem dX11_ruleBy_218 : decode cX11_ruleBy 218 = .ok (.iastore, 1) := by decide +kernel
theorem dX11_ruleBy_219 : decode cX11_ruleBy 219 = .ok (.aload_n 0, 1) := by decide +kernel
theorem dX11_ruleBy_220 : decode cX11_ruleBy 220 = .ok (.getfield 9, 3) := by decide +kernel
theorem dX11_ruleBy_223 : decode cX11_ruleBy 223 = .ok (.iload 9, 2) := by decide +kernel
theorem dX11_ruleBy_225 : decode cX11_ruleBy 225 = .ok (.iconst 1, 1) := by decide +kernel
theorem dX11_ruleBy_226 : decode cX11_ruleBy 226 = .ok (.iadd, 1) := by decide +kernel
theorem dX11_ruleBy_227 : decode cX11_ruleBy 227 = .ok (.dup2, 1) := by decide +kernel
theorem dX11_ruleBy_228 : decode cX11_ruleBy 228 = .ok (.iaload, 1) := by decide +kernel
theorem dX11_ruleBy_229 : decode cX11_ruleBy 229 = .ok (.dup_x2, 1) := by decide +kernel
theorem dX11_ruleBy_230 : decode cX11_ruleBy 230 = .ok (.iconst 1, 1) := by decide +kernel
theorem dX11_ruleBy_231 : decode cX11_ruleBy 231 = .ok (.iadd, 1) := by decide +kernel
theorem dX11_ruleBy_232 : decode cX11_ruleBy 232 = .ok (.iastore, 1) := by decide +kernel
theorem dX11_ruleBy_233 : decode cX11_ruleBy 233 = .ok (.ireturn, 1) := by decide +kernel
theorem dX11_dropBy_0 : decode cX11_dropBy 0 = .ok (.aload_n 0, 1) := by decide +kernel
theorem dX11_dropBy_1 : decode cX11_dropBy 1 = .ok (.iload_n 1, 1) := by decide +kernel
theorem dX11_dropBy_2 : decode cX11_dropBy 2 = .ok (.iload_n 2, 1) := by decide +kernel
theorem dX11_dropBy_3 : decode cX11_dropBy 3 = .ok (.invokevirtual 138, 3) := by decide +kernel
theorem dX11_dropBy_6 : decode cX11_dropBy 6 = .ok (.ifCond .ne 5, 3) := by decide +kernel
theorem dX11_dropBy_9 : decode cX11_dropBy 9 = .ok (.iconst (-1), 1) := by decide +kernel
theorem dX11_dropBy_10 : decode cX11_dropBy 10 = .ok (.ireturn, 1) := by decide +kernel
theorem dX11_dropBy_11 : decode cX11_dropBy 11 = .ok (.iload_n 1, 1) := by decide +kernel
theorem dX11_dropBy_12 : decode cX11_dropBy 12 = .ok (.invokestatic 123, 3) := by decide +kernel
theorem dX11_dropBy_15 : decode cX11_dropBy 15 = .ok (.istore_n 3, 1) := by decide +kernel
theorem dX11_dropBy_16 : decode cX11_dropBy 16 = .ok (.iload_n 1, 1) := by decide +kernel
theorem dX11_dropBy_17 : decode cX11_dropBy 17 = .ok (.iload_n 2, 1) := by decide +kernel
theorem dX11_dropBy_18 : decode cX11_dropBy 18 = .ok (.invokestatic 135, 3) := by decide +kernel
theorem dX11_dropBy_21 : decode cX11_dropBy 21 = .ok (.istore 4, 2) := by decide +kernel
theorem dX11_dropBy_23 : decode cX11_dropBy 23 = .ok (.iload 4, 2) := by decide +kernel
theorem dX11_dropBy_25 : decode cX11_dropBy 25 = .ok (.iload_n 1, 1) := by decide +kernel
theorem dX11_dropBy_26 : decode cX11_dropBy 26 = .ok (.aload_n 0, 1) := by decide +kernel
theorem dX11_dropBy_27 : decode cX11_dropBy 27 = .ok (.getfield 9, 3) := by decide +kernel
theorem dX11_dropBy_30 : decode cX11_dropBy 30 = .ok (.iload_n 3, 1) := by decide +kernel
theorem dX11_dropBy_31 : decode cX11_dropBy 31 = .ok (.iconst 1, 1) := by decide +kernel
theorem dX11_dropBy_32 : decode cX11_dropBy 32 = .ok (.iadd, 1) := by decide +kernel
theorem dX11_dropBy_33 : decode cX11_dropBy 33 = .ok (.iaload, 1) := by decide +kernel
theorem dX11_dropBy_34 : decode cX11_dropBy 34 = .ok (.iconst 1, 1) := by decide +kernel
theorem dX11_dropBy_35 : decode cX11_dropBy 35 = .ok (.isub, 1) := by decide +kernel
theorem dX11_dropBy_36 : decode cX11_dropBy 36 = .ok (.invokestatic 135, 3) := by decide +kernel
theorem dX11_dropBy_39 : decode cX11_dropBy 39 = .ok (.if_icmp .ge 26, 3) := by decide +kernel
theorem dX11_dropBy_42 : decode cX11_dropBy 42 = .ok (.aload_n 0, 1) := by decide +kernel
theorem dX11_dropBy_43 : decode cX11_dropBy 43 = .ok (.getfield 9, 3) := by decide +kernel
theorem dX11_dropBy_46 : decode cX11_dropBy 46 = .ok (.iload 4, 2) := by decide +kernel
theorem dX11_dropBy_48 : decode cX11_dropBy 48 = .ok (.aload_n 0, 1) := by decide +kernel
theorem dX11_dropBy_49 : decode cX11_dropBy 49 = .ok (.getfield 9, 3) := by decide +kernel
theorem dX11_dropBy_52 : decode cX11_dropBy 52 = .ok (.iload 4, 2) := by decide +kernel
theorem dX11_dropBy_54 : decode cX11_dropBy 54 = .ok (.bipush 7, 2) := by decide +kernel
theorem dX11_dropBy_56 : decode cX11_dropBy 56 = .ok (.iadd, 1) := by decide +kernel
theorem dX11_dropBy_57 : decode cX11_dropBy 57 = .ok (.iaload, 1) := by decide +kernel
theorem dX11_dropBy_58 : decode cX11_dropBy 58 = .ok (.iastore, 1) := by decide +kernel
theorem dX11_dropBy_59 : decode cX11_dropBy 59 = .ok (.iinc 4 1, 3) := by decide +kernel
theorem dX11_dropBy_62 : decode cX11_dropBy 62 = .ok (.goto (-39), 3) := by decide +kernel
theorem dX11_dropBy_65 : decode cX11_dropBy 65 = .ok (.aload_n 0, 1) := by decide +kernel
theorem dX11_dropBy_66 : decode cX11_dropBy 66 = .ok (.getfield 9, 3) := by decide +kernel
theorem dX11_dropBy_69 : decode cX11_dropBy 69 = .ok (.iload_n 3, 1) := by decide +kernel
theorem dX11_dropBy_70 : decode cX11_dropBy 70 = .ok (.iconst 1, 1) := by decide +kernel
theorem dX11_dropBy_71 : decode cX11_dropBy 71 = .ok (.iadd, 1) := by decide +kernel
theorem dX11_dropBy_72 : decode cX11_dropBy 72 = .ok (.dup2, 1) := by decide +kernel
theorem dX11_dropBy_73 : decode cX11_dropBy 73 = .ok (.iaload, 1) := by decide +kernel
theorem dX11_dropBy_74 : decode cX11_dropBy 74 = .ok (.iconst 1, 1) := by decide +kernel
theorem dX11_dropBy_75 : decode cX11_dropBy 75 = .ok (.isub, 1) := by decide +kernel
theorem dX11_dropBy_76 : decode cX11_dropBy 76 = .ok (.dup_x2, 1) := by decide +kernel
theorem dX11_dropBy_77 : decode cX11_dropBy 77 = .ok (.iastore, 1) := by decide +kernel
theorem dX11_dropBy_78 : decode cX11_dropBy 78 = .ok (.ireturn, 1) := by decide +kernel
theorem dX11_cancelBy_0 : decode cX11_cancelBy 0 = .ok (.aload_n 0, 1) := by decide +kernel
theorem dX11_cancelBy_1 : decode cX11_cancelBy 1 = .ok (.iload_n 1, 1) := by decide +kernel
theorem dX11_cancelBy_2 : decode cX11_cancelBy 2 = .ok (.iload_n 2, 1) := by decide +kernel
theorem dX11_cancelBy_3 : decode cX11_cancelBy 3 = .ok (.invokevirtual 142, 3) := by decide +kernel
theorem dX11_cancelBy_6 : decode cX11_cancelBy 6 = .ok (.ifCond .ne 5, 3) := by decide +kernel
theorem dX11_cancelBy_9 : decode cX11_cancelBy 9 = .ok (.iconst (-1), 1) := by decide +kernel
theorem dX11_cancelBy_10 : decode cX11_cancelBy 10 = .ok (.ireturn, 1) := by decide +kernel
theorem dX11_cancelBy_11 : decode cX11_cancelBy 11 = .ok (.iload_n 1, 1) := by decide +kernel
theorem dX11_cancelBy_12 : decode cX11_cancelBy 12 = .ok (.invokestatic 145, 3) := by decide +kernel
theorem dX11_cancelBy_15 : decode cX11_cancelBy 15 = .ok (.bipush 49, 2) := by decide +kernel
theorem dX11_cancelBy_17 : decode cX11_cancelBy 17 = .ok (.iadd, 1) := by decide +kernel
theorem dX11_cancelBy_18 : decode cX11_cancelBy 18 = .ok (.iload_n 2, 1) := by decide +kernel
theorem dX11_cancelBy_19 : decode cX11_cancelBy 19 = .ok (.iadd, 1) := by decide +kernel
theorem dX11_cancelBy_20 : decode cX11_cancelBy 20 = .ok (.istore_n 3, 1) := by decide +kernel
theorem dX11_cancelBy_21 : decode cX11_cancelBy 21 = .ok (.aload_n 0, 1) := by decide +kernel
theorem dX11_cancelBy_22 : decode cX11_cancelBy 22 = .ok (.getfield 9, 3) := by decide +kernel
theorem dX11_cancelBy_25 : decode cX11_cancelBy 25 = .ok (.iload_n 3, 1) := by decide +kernel
theorem dX11_cancelBy_26 : decode cX11_cancelBy 26 = .ok (.iconst 1, 1) := by decide +kernel
theorem dX11_cancelBy_27 : decode cX11_cancelBy 27 = .ok (.aload_n 0, 1) := by decide +kernel
theorem dX11_cancelBy_28 : decode cX11_cancelBy 28 = .ok (.getfield 9, 3) := by decide +kernel
theorem dX11_cancelBy_31 : decode cX11_cancelBy 31 = .ok (.iload_n 3, 1) := by decide +kernel
theorem dX11_cancelBy_32 : decode cX11_cancelBy 32 = .ok (.iaload, 1) := by decide +kernel
theorem dX11_cancelBy_33 : decode cX11_cancelBy 33 = .ok (.isub, 1) := by decide +kernel
theorem dX11_cancelBy_34 : decode cX11_cancelBy 34 = .ok (.iastore, 1) := by decide +kernel
theorem dX11_cancelBy_35 : decode cX11_cancelBy 35 = .ok (.aload_n 0, 1) := by decide +kernel
theorem dX11_cancelBy_36 : decode cX11_cancelBy 36 = .ok (.getfield 9, 3) := by decide +kernel
theorem dX11_cancelBy_39 : decode cX11_cancelBy 39 = .ok (.iload_n 3, 1) := by decide +kernel
theorem dX11_cancelBy_40 : decode cX11_cancelBy 40 = .ok (.iaload, 1) := by decide +kernel
theorem dX11_cancelBy_41 : decode cX11_cancelBy 41 = .ok (.ireturn, 1) := by decide +kernel
theorem dX11_ends_0 : decode cX11_ends 0 = .ok (.iload_n 1, 1) := by decide +kernel
theorem dX11_ends_1 : decode cX11_ends 1 = .ok (.ifCond .ge 37, 3) := by decide +kernel
theorem dX11_ends_4 : decode cX11_ends 4 = .ok (.iconst 0, 1) := by decide +kernel
theorem dX11_ends_5 : decode cX11_ends 5 = .ok (.istore_n 2, 1) := by decide +kernel
theorem dX11_ends_6 : decode cX11_ends 6 = .ok (.iload_n 2, 1) := by decide +kernel
theorem dX11_ends_7 : decode cX11_ends 7 = .ok (.sipush 1294, 3) := by decide +kernel
theorem dX11_ends_10 : decode cX11_ends 10 = .ok (.if_icmp .ge 21, 3) := by decide +kernel
theorem dX11_ends_13 : decode cX11_ends 13 = .ok (.aload_n 0, 1) := by decide +kernel
theorem dX11_ends_14 : decode cX11_ends 14 = .ok (.getfield 9, 3) := by decide +kernel
theorem dX11_ends_17 : decode cX11_ends 17 = .ok (.iload_n 2, 1) := by decide +kernel
theorem dX11_ends_18 : decode cX11_ends 18 = .ok (.aload_n 0, 1) := by decide +kernel
theorem dX11_ends_19 : decode cX11_ends 19 = .ok (.getfield 19, 3) := by decide +kernel
theorem dX11_ends_22 : decode cX11_ends 22 = .ok (.iload_n 2, 1) := by decide +kernel
theorem dX11_ends_23 : decode cX11_ends 23 = .ok (.iaload, 1) := by decide +kernel
theorem dX11_ends_24 : decode cX11_ends 24 = .ok (.iastore, 1) := by decide +kernel
theorem dX11_ends_25 : decode cX11_ends 25 = .ok (.iinc 2 1, 3) := by decide +kernel
theorem dX11_ends_28 : decode cX11_ends 28 = .ok (.goto (-22), 3) := by decide +kernel
theorem dX11_ends_31 : decode cX11_ends 31 = .ok (.aload_n 0, 1) := by decide +kernel
theorem dX11_ends_32 : decode cX11_ends 32 = .ok (.iload_n 1, 1) := by decide +kernel
theorem dX11_ends_33 : decode cX11_ends 33 = .ok (.ineg, 1) := by decide +kernel
theorem dX11_ends_34 : decode cX11_ends 34 = .ok (.invokevirtual 110, 3) := by decide +kernel
theorem dX11_ends_37 : decode cX11_ends 37 = .ok (.ireturn, 1) := by decide +kernel
theorem dX11_ends_38 : decode cX11_ends 38 = .ok (.aload_n 0, 1) := by decide +kernel
theorem dX11_ends_39 : decode cX11_ends 39 = .ok (.invokevirtual 83, 3) := by decide +kernel
theorem dX11_ends_42 : decode cX11_ends 42 = .ok (.iload_n 1, 1) := by decide +kernel
theorem dX11_ends_43 : decode cX11_ends 43 = .ok (.ireturn, 1) := by decide +kernel
theorem dX11_tries_0 : decode cX11_tries 0 = .ok (.aload_n 0, 1) := by decide +kernel
theorem dX11_tries_1 : decode cX11_tries 1 = .ok (.iconst 0, 1) := by decide +kernel
theorem dX11_tries_2 : decode cX11_tries 2 = .ok (.putfield 80, 3) := by decide +kernel
theorem dX11_tries_5 : decode cX11_tries 5 = .ok (.iconst 0, 1) := by decide +kernel
theorem dX11_tries_6 : decode cX11_tries 6 = .ok (.istore_n 1, 1) := by decide +kernel
theorem dX11_tries_7 : decode cX11_tries 7 = .ok (.iload_n 1, 1) := by decide +kernel
theorem dX11_tries_8 : decode cX11_tries 8 = .ok (.sipush 1294, 3) := by decide +kernel
theorem dX11_tries_11 : decode cX11_tries 11 = .ok (.if_icmp .ge 21, 3) := by decide +kernel
theorem dX11_tries_14 : decode cX11_tries 14 = .ok (.aload_n 0, 1) := by decide +kernel
theorem dX11_tries_15 : decode cX11_tries 15 = .ok (.getfield 19, 3) := by decide +kernel
theorem dX11_tries_18 : decode cX11_tries 18 = .ok (.iload_n 1, 1) := by decide +kernel
theorem dX11_tries_19 : decode cX11_tries 19 = .ok (.aload_n 0, 1) := by decide +kernel
theorem dX11_tries_20 : decode cX11_tries 20 = .ok (.getfield 9, 3) := by decide +kernel
theorem dX11_tries_23 : decode cX11_tries 23 = .ok (.iload_n 1, 1) := by decide +kernel
theorem dX11_tries_24 : decode cX11_tries 24 = .ok (.iaload, 1) := by decide +kernel
theorem dX11_tries_25 : decode cX11_tries 25 = .ok (.iastore, 1) := by decide +kernel
theorem dX11_tries_26 : decode cX11_tries 26 = .ok (.iinc 1 1, 3) := by decide +kernel
theorem dX11_tries_29 : decode cX11_tries 29 = .ok (.goto (-22), 3) := by decide +kernel
theorem dX11_tries_32 : decode cX11_tries 32 = .ok (.return_, 1) := by decide +kernel
theorem dX11_addZone_0 : decode cX11_addZone 0 = .ok (.aload_n 0, 1) := by decide +kernel
theorem dX11_addZone_1 : decode cX11_addZone 1 = .ok (.invokevirtual 148, 3) := by decide +kernel
theorem dX11_addZone_4 : decode cX11_addZone 4 = .ok (.aload_n 0, 1) := by decide +kernel
theorem dX11_addZone_5 : decode cX11_addZone 5 = .ok (.aload_n 0, 1) := by decide +kernel
theorem dX11_addZone_6 : decode cX11_addZone 6 = .ok (.iload_n 1, 1) := by decide +kernel
theorem dX11_addZone_7 : decode cX11_addZone 7 = .ok (.invokevirtual 151, 3) := by decide +kernel
theorem dX11_addZone_10 : decode cX11_addZone 10 = .ok (.invokevirtual 154, 3) := by decide +kernel
theorem dX11_addZone_13 : decode cX11_addZone 13 = .ok (.ireturn, 1) := by decide +kernel
theorem dX11_changeBase_0 : decode cX11_changeBase 0 = .ok (.aload_n 0, 1) := by decide +kernel
theorem dX11_changeBase_1 : decode cX11_changeBase 1 = .ok (.invokevirtual 148, 3) := by decide +kernel
theorem dX11_changeBase_4 : decode cX11_changeBase 4 = .ok (.aload_n 0, 1) := by decide +kernel
theorem dX11_changeBase_5 : decode cX11_changeBase 5 = .ok (.aload_n 0, 1) := by decide +kernel
theorem dX11_changeBase_6 : decode cX11_changeBase 6 = .ok (.iload_n 1, 1) := by decide +kernel
theorem dX11_changeBase_7 : decode cX11_changeBase 7 = .ok (.iload_n 2, 1) := by decide +kernel
theorem dX11_changeBase_8 : decode cX11_changeBase 8 = .ok (.iload_n 3, 1) := by decide +kernel
theorem dX11_changeBase_9 : decode cX11_changeBase 9 = .ok (.invokevirtual 157, 3) := by decide +kernel
theorem dX11_changeBase_12 : decode cX11_changeBase 12 = .ok (.invokevirtual 154, 3) := by decide +kernel
theorem dX11_changeBase_15 : decode cX11_changeBase 15 = .ok (.ireturn, 1) := by decide +kernel
theorem dX11_addRule_0 : decode cX11_addRule 0 = .ok (.aload_n 0, 1) := by decide +kernel
theorem dX11_addRule_1 : decode cX11_addRule 1 = .ok (.invokevirtual 148, 3) := by decide +kernel
theorem dX11_addRule_4 : decode cX11_addRule 4 = .ok (.aload_n 0, 1) := by decide +kernel
theorem dX11_addRule_5 : decode cX11_addRule 5 = .ok (.aload_n 0, 1) := by decide +kernel
theorem dX11_addRule_6 : decode cX11_addRule 6 = .ok (.iload_n 1, 1) := by decide +kernel
theorem dX11_addRule_7 : decode cX11_addRule 7 = .ok (.iload_n 2, 1) := by decide +kernel
theorem dX11_addRule_8 : decode cX11_addRule 8 = .ok (.iload_n 3, 1) := by decide +kernel
theorem dX11_addRule_9 : decode cX11_addRule 9 = .ok (.iload 4, 2) := by decide +kernel
theorem dX11_addRule_11 : decode cX11_addRule 11 = .ok (.iload 5, 2) := by decide +kernel
theorem dX11_addRule_13 : decode cX11_addRule 13 = .ok (.iload 6, 2) := by decide +kernel
theorem dX11_addRule_15 : decode cX11_addRule 15 = .ok (.invokevirtual 161, 3) := by decide +kernel
theorem dX11_addRule_18 : decode cX11_addRule 18 = .ok (.invokevirtual 154, 3) := by decide +kernel
theorem dX11_addRule_21 : decode cX11_addRule 21 = .ok (.ireturn, 1) := by decide +kernel
theorem dX11_dropRule_0 : decode cX11_dropRule 0 = .ok (.aload_n 0, 1) := by decide +kernel
theorem dX11_dropRule_1 : decode cX11_dropRule 1 = .ok (.invokevirtual 148, 3) := by decide +kernel
theorem dX11_dropRule_4 : decode cX11_dropRule 4 = .ok (.aload_n 0, 1) := by decide +kernel
theorem dX11_dropRule_5 : decode cX11_dropRule 5 = .ok (.aload_n 0, 1) := by decide +kernel
theorem dX11_dropRule_6 : decode cX11_dropRule 6 = .ok (.iload_n 1, 1) := by decide +kernel
theorem dX11_dropRule_7 : decode cX11_dropRule 7 = .ok (.iload_n 2, 1) := by decide +kernel
theorem dX11_dropRule_8 : decode cX11_dropRule 8 = .ok (.invokevirtual 165, 3) := by decide +kernel
theorem dX11_dropRule_11 : decode cX11_dropRule 11 = .ok (.invokevirtual 154, 3) := by decide +kernel
theorem dX11_dropRule_14 : decode cX11_dropRule 14 = .ok (.ireturn, 1) := by decide +kernel
theorem dX11_event_0 : decode cX11_event 0 = .ok (.aload_n 0, 1) := by decide +kernel
theorem dX11_event_1 : decode cX11_event 1 = .ok (.dup, 1) := by decide +kernel
theorem dX11_event_2 : decode cX11_event 2 = .ok (.getfield 168, 3) := by decide +kernel
theorem dX11_event_5 : decode cX11_event 5 = .ok (.dup_x1, 1) := by decide +kernel
theorem dX11_event_6 : decode cX11_event 6 = .ok (.iconst 1, 1) := by decide +kernel
theorem dX11_event_7 : decode cX11_event 7 = .ok (.iadd, 1) := by decide +kernel
theorem dX11_event_8 : decode cX11_event 8 = .ok (.putfield 168, 3) := by decide +kernel
theorem dX11_event_11 : decode cX11_event 11 = .ok (.istore_n 3, 1) := by decide +kernel
theorem dX11_event_12 : decode cX11_event 12 = .ok (.iload_n 3, 1) := by decide +kernel
theorem dX11_event_13 : decode cX11_event 13 = .ok (.ifCond .le 79, 3) := by decide +kernel
theorem dX11_event_16 : decode cX11_event 16 = .ok (.aload_n 0, 1) := by decide +kernel
theorem dX11_event_17 : decode cX11_event 17 = .ok (.getfield 38, 3) := by decide +kernel
theorem dX11_event_20 : decode cX11_event 20 = .ok (.iload_n 3, 1) := by decide +kernel
theorem dX11_event_21 : decode cX11_event 21 = .ok (.iconst 1, 1) := by decide +kernel
theorem dX11_event_22 : decode cX11_event 22 = .ok (.isub, 1) := by decide +kernel
theorem dX11_event_23 : decode cX11_event 23 = .ok (.iaload, 1) := by decide +kernel
theorem dX11_event_24 : decode cX11_event 24 = .ok (.iload_n 1, 1) := by decide +kernel
theorem dX11_event_25 : decode cX11_event 25 = .ok (.if_icmp .gt 33, 3) := by decide +kernel
theorem dX11_event_28 : decode cX11_event 28 = .ok (.aload_n 0, 1) := by decide +kernel
theorem dX11_event_29 : decode cX11_event 29 = .ok (.getfield 38, 3) := by decide +kernel
theorem dX11_event_32 : decode cX11_event 32 = .ok (.iload_n 3, 1) := by decide +kernel
theorem dX11_event_33 : decode cX11_event 33 = .ok (.iconst 1, 1) := by decide +kernel
theorem dX11_event_34 : decode cX11_event 34 = .ok (.isub, 1) := by decide +kernel
theorem dX11_event_35 : decode cX11_event 35 = .ok (.iaload, 1) := by decide +kernel
theorem dX11_event_36 : decode cX11_event 36 = .ok (.iload_n 1, 1) := by decide +kernel
theorem dX11_event_37 : decode cX11_event 37 = .ok (.if_icmp .ne 55, 3) := by decide +kernel
theorem dX11_event_40 : decode cX11_event 40 = .ok (.aload_n 0, 1) := by decide +kernel
theorem dX11_event_41 : decode cX11_event 41 = .ok (.getfield 41, 3) := by decide +kernel
theorem dX11_event_44 : decode cX11_event 44 = .ok (.iload_n 3, 1) := by decide +kernel
theorem dX11_event_45 : decode cX11_event 45 = .ok (.iconst 1, 1) := by decide +kernel
theorem dX11_event_46 : decode cX11_event 46 = .ok (.isub, 1) := by decide +kernel
theorem dX11_event_47 : decode cX11_event 47 = .ok (.iaload, 1) := by decide +kernel
theorem dX11_event_48 : decode cX11_event 48 = .ok (.invokestatic 171, 3) := by decide +kernel
theorem dX11_event_51 : decode cX11_event 51 = .ok (.iload_n 2, 1) := by decide +kernel
theorem dX11_event_52 : decode cX11_event 52 = .ok (.invokestatic 171, 3) := by decide +kernel
theorem dX11_event_55 : decode cX11_event 55 = .ok (.if_icmp .le 37, 3) := by decide +kernel
theorem dX11_event_58 : decode cX11_event 58 = .ok (.aload_n 0, 1) := by decide +kernel
theorem dX11_event_59 : decode cX11_event 59 = .ok (.getfield 38, 3) := by decide +kernel
theorem dX11_event_62 : decode cX11_event 62 = .ok (.iload_n 3, 1) := by decide +kernel
theorem dX11_event_63 : decode cX11_event 63 = .ok (.aload_n 0, 1) := by decide +kernel
theorem dX11_event_64 : decode cX11_event 64 = .ok (.getfield 38, 3) := by decide +kernel
theorem dX11_event_67 : decode cX11_event 67 = .ok (.iload_n 3, 1) := by decide +kernel
theorem dX11_event_68 : decode cX11_event 68 = .ok (.iconst 1, 1) := by decide +kernel
theorem dX11_event_69 : decode cX11_event 69 = .ok (.isub, 1) := by decide +kernel
theorem dX11_event_70 : decode cX11_event 70 = .ok (.iaload, 1) := by decide +kernel
theorem dX11_event_71 : decode cX11_event 71 = .ok (.iastore, 1) := by decide +kernel
theorem dX11_event_72 : decode cX11_event 72 = .ok (.aload_n 0, 1) := by decide +kernel
theorem dX11_event_73 : decode cX11_event 73 = .ok (.getfield 41, 3) := by decide +kernel
theorem dX11_event_76 : decode cX11_event 76 = .ok (.iload_n 3, 1) := by decide +kernel
theorem dX11_event_77 : decode cX11_event 77 = .ok (.aload_n 0, 1) := by decide +kernel
theorem dX11_event_78 : decode cX11_event 78 = .ok (.getfield 41, 3) := by decide +kernel
theorem dX11_event_81 : decode cX11_event 81 = .ok (.iload_n 3, 1) := by decide +kernel
theorem dX11_event_82 : decode cX11_event 82 = .ok (.iconst 1, 1) := by decide +kernel
theorem dX11_event_83 : decode cX11_event 83 = .ok (.isub, 1) := by decide +kernel
theorem dX11_event_84 : decode cX11_event 84 = .ok (.iaload, 1) := by decide +kernel
theorem dX11_event_85 : decode cX11_event 85 = .ok (.iastore, 1) := by decide +kernel
theorem dX11_event_86 : decode cX11_event 86 = .ok (.iinc 3 (-1), 3) := by decide +kernel
theorem dX11_event_89 : decode cX11_event 89 = .ok (.goto (-77), 3) := by decide +kernel
theorem dX11_event_92 : decode cX11_event 92 = .ok (.aload_n 0, 1) := by decide +kernel
theorem dX11_event_93 : decode cX11_event 93 = .ok (.getfield 38, 3) := by decide +kernel
theorem dX11_event_96 : decode cX11_event 96 = .ok (.iload_n 3, 1) := by decide +kernel
theorem dX11_event_97 : decode cX11_event 97 = .ok (.iload_n 1, 1) := by decide +kernel
theorem dX11_event_98 : decode cX11_event 98 = .ok (.iastore, 1) := by decide +kernel
theorem dX11_event_99 : decode cX11_event 99 = .ok (.aload_n 0, 1) := by decide +kernel
theorem dX11_event_100 : decode cX11_event 100 = .ok (.getfield 41, 3) := by decide +kernel
theorem dX11_event_103 : decode cX11_event 103 = .ok (.iload_n 3, 1) := by decide +kernel
theorem dX11_event_104 : decode cX11_event 104 = .ok (.iload_n 2, 1) := by decide +kernel
theorem dX11_event_105 : decode cX11_event 105 = .ok (.iastore, 1) := by decide +kernel
theorem dX11_event_106 : decode cX11_event 106 = .ok (.return_, 1) := by decide +kernel
theorem dX11_rank_0 : decode cX11_rank 0 = .ok (.iload_n 0, 1) := by decide +kernel
theorem dX11_rank_1 : decode cX11_rank 1 = .ok (.bipush 100, 2) := by decide +kernel
theorem dX11_rank_3 : decode cX11_rank 3 = .ok (.if_icmp .lt 10, 3) := by decide +kernel
theorem dX11_rank_6 : decode cX11_rank 6 = .ok (.iload_n 0, 1) := by decide +kernel
theorem dX11_rank_7 : decode cX11_rank 7 = .ok (.bipush 100, 2) := by decide +kernel
theorem dX11_rank_9 : decode cX11_rank 9 = .ok (.isub, 1) := by decide +kernel
theorem dX11_rank_10 : decode cX11_rank 10 = .ok (.goto 7, 3) := by decide +kernel
theorem dX11_rank_13 : decode cX11_rank 13 = .ok (.iload_n 0, 1) := by decide +kernel
theorem dX11_rank_14 : decode cX11_rank 14 = .ok (.bipush 100, 2) := by decide +kernel
theorem dX11_rank_16 : decode cX11_rank 16 = .ok (.iadd, 1) := by decide +kernel
theorem dX11_rank_17 : decode cX11_rank 17 = .ok (.ireturn, 1) := by decide +kernel
theorem dX11_compiles_0 : decode cX11_compiles 0 = .ok (.aload_n 0, 1) := by decide +kernel
theorem dX11_compiles_1 : decode cX11_compiles 1 = .ok (.getfield 35, 3) := by decide +kernel
theorem dX11_compiles_4 : decode cX11_compiles 4 = .ok (.iload_n 1, 1) := by decide +kernel
theorem dX11_compiles_5 : decode cX11_compiles 5 = .ok (.if_icmp .ne 4, 3) := by decide +kernel
theorem dX11_compiles_8 : decode cX11_compiles 8 = .ok (.return_, 1) := by decide +kernel
theorem dX11_compiles_9 : decode cX11_compiles 9 = .ok (.aload_n 0, 1) := by decide +kernel
theorem dX11_compiles_10 : decode cX11_compiles 10 = .ok (.iload_n 1, 1) := by decide +kernel
theorem dX11_compiles_11 : decode cX11_compiles 11 = .ok (.putfield 35, 3) := by decide +kernel
theorem dX11_compiles_14 : decode cX11_compiles 14 = .ok (.iload_n 1, 1) := by decide +kernel
theorem dX11_compiles_15 : decode cX11_compiles 15 = .ok (.invokestatic 123, 3) := by decide +kernel
theorem dX11_compiles_18 : decode cX11_compiles 18 = .ok (.istore_n 2, 1) := by decide +kernel
theorem dX11_compiles_19 : decode cX11_compiles 19 = .ok (.aload_n 0, 1) := by decide +kernel
theorem dX11_compiles_20 : decode cX11_compiles 20 = .ok (.iconst 0, 1) := by decide +kernel
theorem dX11_compiles_21 : decode cX11_compiles 21 = .ok (.putfield 168, 3) := by decide +kernel
theorem dX11_compiles_24 : decode cX11_compiles 24 = .ok (.iconst 0, 1) := by decide +kernel
theorem dX11_compiles_25 : decode cX11_compiles 25 = .ok (.istore_n 3, 1) := by decide +kernel
theorem dX11_compiles_26 : decode cX11_compiles 26 = .ok (.iload_n 3, 1) := by decide +kernel
theorem dX11_compiles_27 : decode cX11_compiles 27 = .ok (.aload_n 0, 1) := by decide +kernel
theorem dX11_compiles_28 : decode cX11_compiles 28 = .ok (.getfield 9, 3) := by decide +kernel
theorem dX11_compiles_31 : decode cX11_compiles 31 = .ok (.iload_n 2, 1) := by decide +kernel
theorem dX11_compiles_32 : decode cX11_compiles 32 = .ok (.iconst 1, 1) := by decide +kernel
theorem dX11_compiles_33 : decode cX11_compiles 33 = .ok (.iadd, 1) := by decide +kernel
theorem dX11_compiles_34 : decode cX11_compiles 34 = .ok (.iaload, 1) := by decide +kernel
theorem dX11_compiles_35 : decode cX11_compiles 35 = .ok (.if_icmp .ge 96, 3) := by decide +kernel
theorem dX11_compiles_38 : decode cX11_compiles 38 = .ok (.iload_n 1, 1) := by decide +kernel
theorem dX11_compiles_39 : decode cX11_compiles 39 = .ok (.iload_n 3, 1) := by decide +kernel
theorem dX11_compiles_40 : decode cX11_compiles 40 = .ok (.invokestatic 135, 3) := by decide +kernel
theorem dX11_compiles_43 : decode cX11_compiles 43 = .ok (.istore 4, 2) := by decide +kernel
theorem dX11_compiles_45 : decode cX11_compiles 45 = .ok (.aload_n 0, 1) := by decide +kernel
theorem dX11_compiles_46 : decode cX11_compiles 46 = .ok (.getfield 9, 3) := by decide +kernel
theorem dX11_compiles_49 : decode cX11_compiles 49 = .ok (.iload 4, 2) := by decide +kernel
theorem dX11_compiles_51 : decode cX11_compiles 51 = .ok (.iaload, 1) := by decide +kernel
theorem dX11_compiles_52 : decode cX11_compiles 52 = .ok (.istore 5, 2) := by decide +kernel
theorem dX11_compiles_54 : decode cX11_compiles 54 = .ok (.iload 5, 2) := by decide +kernel
theorem dX11_compiles_56 : decode cX11_compiles 56 = .ok (.aload_n 0, 1) := by decide +kernel
theorem dX11_compiles_57 : decode cX11_compiles 57 = .ok (.getfield 9, 3) := by decide +kernel
theorem dX11_compiles_60 : decode cX11_compiles 60 = .ok (.iload 4, 2) := by decide +kernel
theorem dX11_compiles_62 : decode cX11_compiles 62 = .ok (.iconst 1, 1) := by decide +kernel
theorem dX11_compiles_63 : decode cX11_compiles 63 = .ok (.iadd, 1) := by decide +kernel
theorem dX11_compiles_64 : decode cX11_compiles 64 = .ok (.iaload, 1) := by decide +kernel
theorem dX11_compiles_65 : decode cX11_compiles 65 = .ok (.if_icmp .gt 60, 3) := by decide +kernel
theorem dX11_compiles_68 : decode cX11_compiles 68 = .ok (.aload_n 0, 1) := by decide +kernel
theorem dX11_compiles_69 : decode cX11_compiles 69 = .ok (.getfield 9, 3) := by decide +kernel
theorem dX11_compiles_72 : decode cX11_compiles 72 = .ok (.iload 4, 2) := by decide +kernel
theorem dX11_compiles_74 : decode cX11_compiles 74 = .ok (.iconst 3, 1) := by decide +kernel
theorem dX11_compiles_75 : decode cX11_compiles 75 = .ok (.iadd, 1) := by decide +kernel
theorem dX11_compiles_76 : decode cX11_compiles 76 = .ok (.iaload, 1) := by decide +kernel
theorem dX11_compiles_77 : decode cX11_compiles 77 = .ok (.iload 5, 2) := by decide +kernel
theorem dX11_compiles_79 : decode cX11_compiles 79 = .ok (.aload_n 0, 1) := by decide +kernel
theorem dX11_compiles_80 : decode cX11_compiles 80 = .ok (.getfield 9, 3) := by decide +kernel
theorem dX11_compiles_83 : decode cX11_compiles 83 = .ok (.iload 4, 2) := by decide +kernel
theorem dX11_compiles_85 : decode cX11_compiles 85 = .ok (.iconst 2, 1) := by decide +kernel
theorem dX11_compiles_86 : decode cX11_compiles 86 = .ok (.iadd, 1) := by decide +kernel
theorem dX11_compiles_87 : decode cX11_compiles 87 = .ok (.iaload, 1) := by decide +kernel
theorem dX11_compiles_88 : decode cX11_compiles 88 = .ok (.invokestatic 174, 3) := by decide +kernel
theorem dX11_compiles_91 : decode cX11_compiles 91 = .ok (.istore 6, 2) := by decide +kernel
theorem dX11_compiles_93 : decode cX11_compiles 93 = .ok (.iload 6, 2) := by decide +kernel
theorem dX11_compiles_95 : decode cX11_compiles 95 = .ok (.ifCond .lt 24, 3) := by decide +kernel
