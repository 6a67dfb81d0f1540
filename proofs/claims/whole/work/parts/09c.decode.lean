theorem dX11_append_0 : decode cX11_append 0 = .ok (.aload_n 0, 1) := by decide +kernel
theorem dX11_append_1 : decode cX11_append 1 = .ok (.iconst 0, 1) := by decide +kernel
theorem dX11_append_2 : decode cX11_append 2 = .ok (.putfield 80, 3) := by decide +kernel
theorem dX11_append_5 : decode cX11_append 5 = .ok (.iconst 0, 1) := by decide +kernel
theorem dX11_append_6 : decode cX11_append 6 = .ok (.istore_n 2, 1) := by decide +kernel
theorem dX11_append_7 : decode cX11_append 7 = .ok (.bipush 24, 2) := by decide +kernel
theorem dX11_append_9 : decode cX11_append 9 = .ok (.istore_n 3, 1) := by decide +kernel
theorem dX11_append_10 : decode cX11_append 10 = .ok (.iload_n 3, 1) := by decide +kernel
theorem dX11_append_11 : decode cX11_append 11 = .ok (.ifCond .lt 47, 3) := by decide +kernel
theorem dX11_append_14 : decode cX11_append 14 = .ok (.iload_n 1, 1) := by decide +kernel
theorem dX11_append_15 : decode cX11_append 15 = .ok (.iload_n 3, 1) := by decide +kernel
theorem dX11_append_16 : decode cX11_append 16 = .ok (.iushr, 1) := by decide +kernel
theorem dX11_append_17 : decode cX11_append 17 = .ok (.sipush 255, 3) := by decide +kernel
theorem dX11_append_20 : decode cX11_append 20 = .ok (.iand, 1) := by decide +kernel
theorem dX11_append_21 : decode cX11_append 21 = .ok (.istore 4, 2) := by decide +kernel
theorem dX11_append_23 : decode cX11_append 23 = .ok (.iload 4, 2) := by decide +kernel
theorem dX11_append_25 : decode cX11_append 25 = .ok (.ifCond .ne 6, 3) := by decide +kernel
theorem dX11_append_28 : decode cX11_append 28 = .ok (.goto 24, 3) := by decide +kernel
theorem dX11_append_31 : decode cX11_append 31 = .ok (.iload 4, 2) := by decide +kernel
theorem dX11_append_33 : decode cX11_append 33 = .ok (.bipush 33, 2) := by decide +kernel
theorem dX11_append_35 : decode cX11_append 35 = .ok (.bipush 126, 2) := by decide +kernel
theorem dX11_append_37 : decode cX11_append 37 = .ok (.invokestatic 106, 3) := by decide +kernel
theorem dX11_append_40 : decode cX11_append 40 = .ok (.ifCond .ne 9, 3) := by decide +kernel
theorem dX11_append_43 : decode cX11_append 43 = .ok (.aload_n 0, 1) := by decide +kernel
theorem dX11_append_44 : decode cX11_append 44 = .ok (.iconst 1, 1) := by decide +kernel
theorem dX11_append_45 : decode cX11_append 45 = .ok (.invokevirtual 110, 3) := by decide +kernel
theorem dX11_append_48 : decode cX11_append 48 = .ok (.ireturn, 1) := by decide +kernel
theorem dX11_append_49 : decode cX11_append 49 = .ok (.iinc 2 1, 3) := by decide +kernel
theorem dX11_append_52 : decode cX11_append 52 = .ok (.iinc 3 (-8), 3) := by decide +kernel
theorem dX11_append_55 : decode cX11_append 55 = .ok (.goto (-45), 3) := by decide +kernel
theorem dX11_append_58 : decode cX11_append 58 = .ok (.aload_n 0, 1) := by decide +kernel
theorem dX11_append_59 : decode cX11_append 59 = .ok (.getfield 283, 3) := by decide +kernel
theorem dX11_append_62 : decode cX11_append 62 = .ok (.iload_n 2, 1) := by decide +kernel
theorem dX11_append_63 : decode cX11_append 63 = .ok (.iadd, 1) := by decide +kernel
theorem dX11_append_64 : decode cX11_append 64 = .ok (.bipush 60, 2) := by decide +kernel
theorem dX11_append_66 : decode cX11_append 66 = .ok (.if_icmp .le 9, 3) := by decide +kernel
theorem dX11_append_69 : decode cX11_append 69 = .ok (.aload_n 0, 1) := by decide +kernel
theorem dX11_append_70 : decode cX11_append 70 = .ok (.iconst 2, 1) := by decide +kernel
theorem dX11_append_71 : decode cX11_append 71 = .ok (.invokevirtual 110, 3) := by decide +kernel
theorem dX11_append_74 : decode cX11_append 74 = .ok (.ireturn, 1) := by decide +kernel
theorem dX11_append_75 : decode cX11_append 75 = .ok (.bipush 24, 2) := by decide +kernel
theorem dX11_append_77 : decode cX11_append 77 = .ok (.istore_n 3, 1) := by decide +kernel
theorem dX11_append_78 : decode cX11_append 78 = .ok (.iload_n 3, 1) := by decide +kernel
theorem dX11_append_79 : decode cX11_append 79 = .ok (.ifCond .lt 41, 3) := by decide +kernel
theorem dX11_append_82 : decode cX11_append 82 = .ok (.iload_n 1, 1) := by decide +kernel
theorem dX11_append_83 : decode cX11_append 83 = .ok (.iload_n 3, 1) := by decide +kernel
theorem dX11_append_84 : decode cX11_append 84 = .ok (.iushr, 1) := by decide +kernel
theorem dX11_append_85 : decode cX11_append 85 = .ok (.sipush 255, 3) := by decide +kernel
theorem dX11_append_88 : decode cX11_append 88 = .ok (.iand, 1) := by decide +kernel
theorem dX11_append_89 : decode cX11_append 89 = .ok (.istore 4, 2) := by decide +kernel
theorem dX11_append_91 : decode cX11_append 91 = .ok (.iload 4, 2) := by decide +kernel
theorem dX11_append_93 : decode cX11_append 93 = .ok (.ifCond .le 21, 3) := by decide +kernel
theorem dX11_append_96 : decode cX11_append 96 = .ok (.aload_n 0, 1) := by decide +kernel
theorem dX11_append_97 : decode cX11_append 97 = .ok (.getfield 22, 3) := by decide +kernel
theorem dX11_append_100 : decode cX11_append 100 = .ok (.aload_n 0, 1) := by decide +kernel
theorem dX11_append_101 : decode cX11_append 101 = .ok (.dup, 1) := by decide +kernel
theorem dX11_append_102 : decode cX11_append 102 = .ok (.getfield 283, 3) := by decide +kernel
theorem dX11_append_105 : decode cX11_append 105 = .ok (.dup_x1, 1) := by decide +kernel
theorem dX11_append_106 : decode cX11_append 106 = .ok (.iconst 1, 1) := by decide +kernel
theorem dX11_append_107 : decode cX11_append 107 = .ok (.iadd, 1) := by decide +kernel
theorem dX11_append_108 : decode cX11_append 108 = .ok (.putfield 283, 3) := by decide +kernel
theorem dX11_append_111 : decode cX11_append 111 = .ok (.iload 4, 2) := by decide +kernel
theorem dX11_append_113 : decode cX11_append 113 = .ok (.iastore, 1) := by decide +kernel
theorem dX11_append_114 : decode cX11_append 114 = .ok (.iinc 3 (-8), 3) := by decide +kernel
theorem dX11_append_117 : decode cX11_append 117 = .ok (.goto (-39), 3) := by decide +kernel
theorem dX11_append_120 : decode cX11_append 120 = .ok (.aload_n 0, 1) := by decide +kernel
theorem dX11_append_121 : decode cX11_append 121 = .ok (.getfield 283, 3) := by decide +kernel
theorem dX11_append_124 : decode cX11_append 124 = .ok (.ireturn, 1) := by decide +kernel
theorem dX11_here_0 : decode cX11_here 0 = .ok (.aload_n 0, 1) := by decide +kernel
theorem dX11_here_1 : decode cX11_here 1 = .ok (.getfield 286, 3) := by decide +kernel
theorem dX11_here_4 : decode cX11_here 4 = .ok (.aload_n 0, 1) := by decide +kernel
theorem dX11_here_5 : decode cX11_here 5 = .ok (.getfield 283, 3) := by decide +kernel
theorem dX11_here_8 : decode cX11_here 8 = .ok (.if_icmp .ge 15, 3) := by decide +kernel
theorem dX11_here_11 : decode cX11_here 11 = .ok (.aload_n 0, 1) := by decide +kernel
theorem dX11_here_12 : decode cX11_here 12 = .ok (.getfield 22, 3) := by decide +kernel
theorem dX11_here_15 : decode cX11_here 15 = .ok (.aload_n 0, 1) := by decide +kernel
theorem dX11_here_16 : decode cX11_here 16 = .ok (.getfield 286, 3) := by decide +kernel
theorem dX11_here_19 : decode cX11_here 19 = .ok (.iaload, 1) := by decide +kernel
theorem dX11_here_20 : decode cX11_here 20 = .ok (.goto 4, 3) := by decide +kernel
theorem dX11_here_23 : decode cX11_here 23 = .ok (.iconst 0, 1) := by decide +kernel
theorem dX11_here_24 : decode cX11_here 24 = .ok (.ireturn, 1) := by decide +kernel
theorem dX11_takes_0 : decode cX11_takes 0 = .ok (.aload_n 0, 1) := by decide +kernel
theorem dX11_takes_1 : decode cX11_takes 1 = .ok (.invokevirtual 289, 3) := by decide +kernel
theorem dX11_takes_4 : decode cX11_takes 4 = .ok (.iload_n 1, 1) := by decide +kernel
theorem dX11_takes_5 : decode cX11_takes 5 = .ok (.if_icmp .eq 5, 3) := by decide +kernel
theorem dX11_takes_8 : decode cX11_takes 8 = .ok (.iconst 0, 1) := by decide +kernel
theorem dX11_takes_9 : decode cX11_takes 9 = .ok (.ireturn, 1) := by decide +kernel
theorem dX11_takes_10 : decode cX11_takes 10 = .ok (.aload_n 0, 1) := by decide +kernel
theorem dX11_takes_11 : decode cX11_takes 11 = .ok (.dup, 1) := by decide +kernel
theorem dX11_takes_12 : decode cX11_takes 12 = .ok (.getfield 286, 3) := by decide +kernel
theorem dX11_takes_15 : decode cX11_takes 15 = .ok (.iconst 1, 1) := by decide +kernel
theorem dX11_takes_16 : decode cX11_takes 16 = .ok (.iadd, 1) := by decide +kernel
theorem dX11_takes_17 : decode cX11_takes 17 = .ok (.putfield 286, 3) := by decide +kernel
theorem dX11_takes_20 : decode cX11_takes 20 = .ok (.iconst 1, 1) := by decide +kernel
theorem dX11_takes_21 : decode cX11_takes 21 = .ok (.ireturn, 1) := by decide +kernel
theorem dX11_isDigit_0 : decode cX11_isDigit 0 = .ok (.aload_n 0, 1) := by decide +kernel
theorem dX11_isDigit_1 : decode cX11_isDigit 1 = .ok (.invokevirtual 289, 3) := by decide +kernel
theorem dX11_isDigit_4 : decode cX11_isDigit 4 = .ok (.bipush 48, 2) := by decide +kernel
theorem dX11_isDigit_6 : decode cX11_isDigit 6 = .ok (.iload_n 1, 1) := by decide +kernel
theorem dX11_isDigit_7 : decode cX11_isDigit 7 = .ok (.iadd, 1) := by decide +kernel
theorem dX11_isDigit_8 : decode cX11_isDigit 8 = .ok (.bipush 48, 2) := by decide +kernel
theorem dX11_isDigit_10 : decode cX11_isDigit 10 = .ok (.iload_n 2, 1) := by decide +kernel
theorem dX11_isDigit_11 : decode cX11_isDigit 11 = .ok (.iadd, 1) := by decide +kernel
theorem dX11_isDigit_12 : decode cX11_isDigit 12 = .ok (.invokestatic 106, 3) := by decide +kernel
theorem dX11_isDigit_15 : decode cX11_isDigit 15 = .ok (.ireturn, 1) := by decide +kernel
theorem dX11_number_0 : decode cX11_number 0 = .ok (.aload_n 0, 1) := by decide +kernel
theorem dX11_number_1 : decode cX11_number 1 = .ok (.iconst 0, 1) := by decide +kernel
theorem dX11_number_2 : decode cX11_number 2 = .ok (.bipush 9, 2) := by decide +kernel
theorem dX11_number_4 : decode cX11_number 4 = .ok (.invokevirtual 293, 3) := by decide +kernel
theorem dX11_number_7 : decode cX11_number 7 = .ok (.ifCond .ne 5, 3) := by decide +kernel
theorem dX11_number_10 : decode cX11_number 10 = .ok (.iconst (-1), 1) := by decide +kernel
theorem dX11_number_11 : decode cX11_number 11 = .ok (.ireturn, 1) := by decide +kernel
theorem dX11_number_12 : decode cX11_number 12 = .ok (.aload_n 0, 1) := by decide +kernel
theorem dX11_number_13 : decode cX11_number 13 = .ok (.getfield 22, 3) := by decide +kernel
theorem dX11_number_16 : decode cX11_number 16 = .ok (.aload_n 0, 1) := by decide +kernel
theorem dX11_number_17 : decode cX11_number 17 = .ok (.dup, 1) := by decide +kernel
theorem dX11_number_18 : decode cX11_number 18 = .ok (.getfield 286, 3) := by decide +kernel
theorem dX11_number_21 : decode cX11_number 21 = .ok (.dup_x1, 1) := by decide +kernel
theorem dX11_number_22 : decode cX11_number 22 = .ok (.iconst 1, 1) := by decide +kernel
theorem dX11_number_23 : decode cX11_number 23 = .ok (.iadd, 1) := by decide +kernel
theorem dX11_number_24 : decode cX11_number 24 = .ok (.putfield 286, 3) := by decide +kernel
theorem dX11_number_27 : decode cX11_number 27 = .ok (.iaload, 1) := by decide +kernel
theorem dX11_number_28 : decode cX11_number 28 = .ok (.bipush 48, 2) := by decide +kernel
theorem dX11_number_30 : decode cX11_number 30 = .ok (.isub, 1) := by decide +kernel
theorem dX11_number_31 : decode cX11_number 31 = .ok (.istore_n 2, 1) := by decide +kernel
theorem dX11_number_32 : decode cX11_number 32 = .ok (.iconst 1, 1) := by decide +kernel
theorem dX11_number_33 : decode cX11_number 33 = .ok (.istore_n 3, 1) := by decide +kernel
theorem dX11_number_34 : decode cX11_number 34 = .ok (.iload_n 3, 1) := by decide +kernel
theorem dX11_number_35 : decode cX11_number 35 = .ok (.iload_n 1, 1) := by decide +kernel
theorem dX11_number_36 : decode cX11_number 36 = .ok (.if_icmp .ge 48, 3) := by decide +kernel
theorem dX11_number_39 : decode cX11_number 39 = .ok (.iload_n 2, 1) := by decide +kernel
theorem dX11_number_40 : decode cX11_number 40 = .ok (.ifCond .le 44, 3) := by decide +kernel
theorem dX11_number_43 : decode cX11_number 43 = .ok (.aload_n 0, 1) := by decide +kernel
theorem dX11_number_44 : decode cX11_number 44 = .ok (.iconst 0, 1) := by decide +kernel
theorem dX11_number_45 : decode cX11_number 45 = .ok (.bipush 9, 2) := by decide +kernel
theorem dX11_number_47 : decode cX11_number 47 = .ok (.invokevirtual 293, 3) := by decide +kernel
theorem dX11_number_50 : decode cX11_number 50 = .ok (.ifCond .eq 34, 3) := by decide +kernel
theorem dX11_number_53 : decode cX11_number 53 = .ok (.bipush 10, 2) := by decide +kernel
theorem dX11_number_55 : decode cX11_number 55 = .ok (.iload_n 2, 1) := by decide +kernel
theorem dX11_number_56 : decode cX11_number 56 = .ok (.imul, 1) := by decide +kernel
theorem dX11_number_57 : decode cX11_number 57 = .ok (.aload_n 0, 1) := by decide +kernel
theorem dX11_number_58 : decode cX11_number 58 = .ok (.getfield 22, 3) := by decide +kernel
theorem dX11_number_61 : decode cX11_number 61 = .ok (.aload_n 0, 1) := by decide +kernel
theorem dX11_number_62 : decode cX11_number 62 = .ok (.dup, 1) := by decide +kernel
theorem dX11_number_63 : decode cX11_number 63 = .ok (.getfield 286, 3) := by decide +kernel
theorem dX11_number_66 : decode cX11_number 66 = .ok (.dup_x1, 1) := by decide +kernel
theorem dX11_number_67 : decode cX11_number 67 = .ok (.iconst 1, 1) := by decide +kernel
theorem dX11_number_68 : decode cX11_number 68 = .ok (.iadd, 1) := by decide +kernel
theorem dX11_number_69 : decode cX11_number 69 = .ok (.putfield 286, 3) := by decide +kernel
theorem dX11_number_72 : decode cX11_number 72 = .ok (.iaload, 1) := by decide +kernel
theorem dX11_number_73 : decode cX11_number 73 = .ok (.iadd, 1) := by decide +kernel
theorem dX11_number_74 : decode cX11_number 74 = .ok (.bipush 48, 2) := by decide +kernel
theorem dX11_number_76 : decode cX11_number 76 = .ok (.isub, 1) := by decide +kernel
theorem dX11_number_77 : decode cX11_number 77 = .ok (.istore_n 2, 1) := by decide +kernel
theorem dX11_number_78 : decode cX11_number 78 = .ok (.iinc 3 1, 3) := by decide +kernel
theorem dX11_number_81 : decode cX11_number 81 = .ok (.goto (-47), 3) := by decide +kernel
theorem dX11_number_84 : decode cX11_number 84 = .ok (.iload_n 2, 1) := by decide +kernel
theorem dX11_number_85 : decode cX11_number 85 = .ok (.ireturn, 1) := by decide +kernel
theorem dX11_word_0 : decode cX11_word 0 = .ok (.aload_n 0, 1) := by decide +kernel
theorem dX11_word_1 : decode cX11_word 1 = .ok (.getfield 286, 3) := by decide +kernel
theorem dX11_word_4 : decode cX11_word 4 = .ok (.istore_n 1, 1) := by decide +kernel
theorem dX11_word_5 : decode cX11_word 5 = .ok (.aload_n 0, 1) := by decide +kernel
theorem dX11_word_6 : decode cX11_word 6 = .ok (.invokevirtual 289, 3) := by decide +kernel
theorem dX11_word_9 : decode cX11_word 9 = .ok (.bipush 97, 2) := by decide +kernel
theorem dX11_word_11 : decode cX11_word 11 = .ok (.bipush 122, 2) := by decide +kernel
theorem dX11_word_13 : decode cX11_word 13 = .ok (.invokestatic 106, 3) := by decide +kernel
theorem dX11_word_16 : decode cX11_word 16 = .ok (.ifCond .eq 16, 3) := by decide +kernel
theorem dX11_word_19 : decode cX11_word 19 = .ok (.aload_n 0, 1) := by decide +kernel
theorem dX11_word_20 : decode cX11_word 20 = .ok (.dup, 1) := by decide +kernel
theorem dX11_word_21 : decode cX11_word 21 = .ok (.getfield 286, 3) := by decide +kernel
theorem dX11_word_24 : decode cX11_word 24 = .ok (.iconst 1, 1) := by decide +kernel
theorem dX11_word_25 : decode cX11_word 25 = .ok (.iadd, 1) := by decide +kernel
theorem dX11_word_26 : decode cX11_word 26 = .ok (.putfield 286, 3) := by decide +kernel
theorem dX11_word_29 : decode cX11_word 29 = .ok (.goto (-24), 3) := by decide +kernel
theorem dX11_word_32 : decode cX11_word 32 = .ok (.iconst 0, 1) := by decide +kernel
theorem dX11_word_33 : decode cX11_word 33 = .ok (.istore_n 2, 1) := by decide +kernel
theorem dX11_word_34 : decode cX11_word 34 = .ok (.iconst 0, 1) := by decide +kernel
theorem dX11_word_35 : decode cX11_word 35 = .ok (.istore_n 3, 1) := by decide +kernel
theorem dX11_word_36 : decode cX11_word 36 = .ok (.iload_n 3, 1) := by decide +kernel
theorem dX11_word_37 : decode cX11_word 37 = .ok (.iconst 5, 1) := by decide +kernel
theorem dX11_word_38 : decode cX11_word 38 = .ok (.if_icmp .ge 124, 3) := by decide +kernel
theorem dX11_word_41 : decode cX11_word 41 = .ok (.iload_n 1, 1) := by decide +kernel
theorem dX11_word_42 : decode cX11_word 42 = .ok (.istore 4, 2) := by decide +kernel
theorem dX11_word_44 : decode cX11_word 44 = .ok (.ldc_w 296, 3) := by decide +kernel
theorem dX11_word_47 : decode cX11_word 47 = .ok (.iload_n 2, 1) := by decide +kernel
theorem dX11_word_48 : decode cX11_word 48 = .ok (.invokevirtual 298, 3) := by decide +kernel
theorem dX11_word_51 : decode cX11_word 51 = .ok (.bipush 58, 2) := by decide +kernel
theorem dX11_word_53 : decode cX11_word 53 = .ok (.if_icmp .eq 38, 3) := by decide +kernel
theorem dX11_word_56 : decode cX11_word 56 = .ok (.iload 4, 2) := by decide +kernel
theorem dX11_word_58 : decode cX11_word 58 = .ok (.aload_n 0, 1) := by decide +kernel
theorem dX11_word_59 : decode cX11_word 59 = .ok (.getfield 286, 3) := by decide +kernel
theorem dX11_word_62 : decode cX11_word 62 = .ok (.if_icmp .ge 29, 3) := by decide +kernel
theorem dX11_word_65 : decode cX11_word 65 = .ok (.aload_n 0, 1) := by decide +kernel
theorem dX11_word_66 : decode cX11_word 66 = .ok (.getfield 22, 3) := by decide +kernel
theorem dX11_word_69 : decode cX11_word 69 = .ok (.iload 4, 2) := by decide +kernel
theorem dX11_word_71 : decode cX11_word 71 = .ok (.iaload, 1) := by decide +kernel
theorem dX11_word_72 : decode cX11_word 72 = .ok (.ldc_w 296, 3) := by decide +kernel
theorem dX11_word_75 : decode cX11_word 75 = .ok (.iload_n 2, 1) := by decide +kernel
theorem dX11_word_76 : decode cX11_word 76 = .ok (.invokevirtual 298, 3) := by decide +kernel
theorem dX11_word_79 : decode cX11_word 79 = .ok (.if_icmp .ne 12, 3) := by decide +kernel
theorem dX11_word_82 : decode cX11_word 82 = .ok (.iinc 4 1, 3) := by decide +kernel
theorem dX11_word_85 : decode cX11_word 85 = .ok (.iinc 2 1, 3) := by decide +kernel
theorem dX11_word_88 : decode cX11_word 88 = .ok (.goto (-44), 3) := by decide +kernel
theorem dX11_word_91 : decode cX11_word 91 = .ok (.ldc_w 296, 3) := by decide +kernel
theorem dX11_word_94 : decode cX11_word 94 = .ok (.iload_n 2, 1) := by decide +kernel
theorem dX11_word_95 : decode cX11_word 95 = .ok (.invokevirtual 298, 3) := by decide +kernel
theorem dX11_word_98 : decode cX11_word 98 = .ok (.bipush 58, 2) := by decide +kernel
theorem dX11_word_100 : decode cX11_word 100 = .ok (.if_icmp .ne 35, 3) := by decide +kernel
theorem dX11_word_103 : decode cX11_word 103 = .ok (.iload 4, 2) := by decide +kernel
theorem dX11_word_105 : decode cX11_word 105 = .ok (.aload_n 0, 1) := by decide +kernel
theorem dX11_word_106 : decode cX11_word 106 = .ok (.getfield 286, 3) := by decide +kernel
theorem dX11_word_109 : decode cX11_word 109 = .ok (.if_icmp .ne 26, 3) := by decide +kernel
theorem dX11_word_112 : decode cX11_word 112 = .ok (.aload_n 0, 1) := by decide +kernel
theorem dX11_word_113 : decode cX11_word 113 = .ok (.getfield 286, 3) := by decide +kernel
theorem dX11_word_116 : decode cX11_word 116 = .ok (.iload_n 1, 1) := by decide +kernel
theorem dX11_word_117 : decode cX11_word 117 = .ok (.if_icmp .le 18, 3) := by decide +kernel
theorem dX11_word_120 : decode cX11_word 120 = .ok (.aload_n 0, 1) := by decide +kernel
theorem dX11_word_121 : decode cX11_word 121 = .ok (.bipush 58, 2) := by decide +kernel
theorem dX11_word_123 : decode cX11_word 123 = .ok (.invokevirtual 304, 3) := by decide +kernel
theorem dX11_word_126 : decode cX11_word 126 = .ok (.ifCond .eq 7, 3) := by decide +kernel
theorem dX11_word_129 : decode cX11_word 129 = .ok (.iload_n 3, 1) := by decide +kernel
theorem dX11_word_130 : decode cX11_word 130 = .ok (.goto 4, 3) := by decide +kernel
theorem dX11_word_133 : decode cX11_word 133 = .ok (.iconst (-1), 1) := by decide +kernel
theorem dX11_word_134 : decode cX11_word 134 = .ok (.ireturn, 1) := by decide +kernel
theorem dX11_word_135 : decode cX11_word 135 = .ok (.ldc_w 296, 3) := by decide +kernel
theorem dX11_word_138 : decode cX11_word 138 = .ok (.iload_n 2, 1) := by decide +kernel
theorem dX11_word_139 : decode cX11_word 139 = .ok (.invokevirtual 298, 3) := by decide +kernel
theorem dX11_word_142 : decode cX11_word 142 = .ok (.bipush 58, 2) := by decide +kernel
theorem dX11_word_144 : decode cX11_word 144 = .ok (.if_icmp .eq 9, 3) := by decide +kernel
theorem dX11_word_147 : decode cX11_word 147 = .ok (.iinc 2 1, 3) := by decide +kernel
theorem dX11_word_150 : decode cX11_word 150 = .ok (.goto (-15), 3) := by decide +kernel
theorem dX11_word_153 : decode cX11_word 153 = .ok (.iinc 2 1, 3) := by decide +kernel
theorem dX11_word_156 : decode cX11_word 156 = .ok (.iinc 3 1, 3) := by decide +kernel
theorem dX11_word_159 : decode cX11_word 159 = .ok (.goto (-123), 3) := by decide +kernel
theorem dX11_word_162 : decode cX11_word 162 = .ok (.aload_n 0, 1) := by decide +kernel
theorem dX11_word_163 : decode cX11_word 163 = .ok (.iload_n 1, 1) := by decide +kernel
theorem dX11_word_164 : decode cX11_word 164 = .ok (.putfield 286, 3) := by decide +kernel
theorem dX11_word_167 : decode cX11_word 167 = .ok (.iconst (-1), 1) := by decide +kernel
theorem dX11_word_168 : decode cX11_word 168 = .ok (.ireturn, 1) := by decide +kernel
theorem dX11_date__0 : decode cX11_date_ 0 = .ok (.aload_n 0, 1) := by decide +kernel
theorem dX11_date__1 : decode cX11_date_ 1 = .ok (.bipush 108, 2) := by decide +kernel
theorem dX11_date__3 : decode cX11_date_ 3 = .ok (.invokevirtual 304, 3) := by decide +kernel
theorem dX11_date__6 : decode cX11_date_ 6 = .ok (.ifCond .eq 46, 3) := by decide +kernel
theorem dX11_date__9 : decode cX11_date_ 9 = .ok (.aload_n 0, 1) := by decide +kernel
theorem dX11_date__10 : decode cX11_date_ 10 = .ok (.iconst 0, 1) := by decide +kernel
theorem dX11_date__11 : decode cX11_date_ 11 = .ok (.bipush 6, 2) := by decide +kernel
theorem dX11_date__13 : decode cX11_date_ 13 = .ok (.invokevirtual 293, 3) := by decide +kernel
theorem dX11_date__16 : decode cX11_date_ 16 = .ok (.ifCond .ne 5, 3) := by decide +kernel
theorem dX11_date__19 : decode cX11_date_ 19 = .ok (.iconst 0, 1) := by decide +kernel
theorem dX11_date__20 : decode cX11_date_ 20 = .ok (.ireturn, 1) := by decide +kernel
theorem dX11_date__21 : decode cX11_date_ 21 = .ok (.aload_n 0, 1) := by decide +kernel
theorem dX11_date__22 : decode cX11_date_ 22 = .ok (.getfield 32, 3) := by decide +kernel
theorem dX11_date__25 : decode cX11_date_ 25 = .ok (.iload_n 1, 1) := by decide +kernel
theorem dX11_date__26 : decode cX11_date_ 26 = .ok (.sipush 500, 3) := by decide +kernel
theorem dX11_date__29 : decode cX11_date_ 29 = .ok (.aload_n 0, 1) := by decide +kernel
theorem dX11_date__30 : decode cX11_date_ 30 = .ok (.getfield 22, 3) := by decide +kernel
theorem dX11_date__33 : decode cX11_date_ 33 = .ok (.aload_n 0, 1) := by decide +kernel
theorem dX11_date__34 : decode cX11_date_ 34 = .ok (.dup, 1) := by decide +kernel
theorem dX11_date__35 : decode cX11_date_ 35 = .ok (.getfield 286, 3) := by decide +kernel
theorem dX11_date__38 : decode cX11_date_ 38 = .ok (.dup_x1, 1) := by decide +kernel
theorem dX11_date__39 : decode cX11_date_ 39 = .ok (.iconst 1, 1) := by decide +kernel
theorem dX11_date__40 : decode cX11_date_ 40 = .ok (.iadd, 1) := by decide +kernel
theorem dX11_date__41 : decode cX11_date_ 41 = .ok (.putfield 286, 3) := by decide +kernel
theorem dX11_date__44 : decode cX11_date_ 44 = .ok (.iaload, 1) := by decide +kernel
theorem dX11_date__45 : decode cX11_date_ 45 = .ok (.iadd, 1) := by decide +kernel
theorem dX11_date__46 : decode cX11_date_ 46 = .ok (.bipush 48, 2) := by decide +kernel
theorem dX11_date__48 : decode cX11_date_ 48 = .ok (.isub, 1) := by decide +kernel
theorem dX11_date__49 : decode cX11_date_ 49 = .ok (.iastore, 1) := by decide +kernel
theorem dX11_date__50 : decode cX11_date_ 50 = .ok (.iconst 1, 1) := by decide +kernel
theorem dX11_date__51 : decode cX11_date_ 51 = .ok (.ireturn, 1) := by decide +kernel
theorem dX11_date__52 : decode cX11_date_ 52 = .ok (.aload_n 0, 1) := by decide +kernel
theorem dX11_date__53 : decode cX11_date_ 53 = .ok (.iconst 0, 1) := by decide +kernel
theorem dX11_date__54 : decode cX11_date_ 54 = .ok (.bipush 9, 2) := by decide +kernel
theorem dX11_date__56 : decode cX11_date_ 56 = .ok (.invokevirtual 293, 3) := by decide +kernel
theorem dX11_date__59 : decode cX11_date_ 59 = .ok (.ifCond .ne 5, 3) := by decide +kernel
theorem dX11_date__62 : decode cX11_date_ 62 = .ok (.iconst 0, 1) := by decide +kernel
theorem dX11_date__63 : decode cX11_date_ 63 = .ok (.ireturn, 1) := by decide +kernel
theorem dX11_date__64 : decode cX11_date_ 64 = .ok (.aload_n 0, 1) := by decide +kernel
theorem dX11_date__65 : decode cX11_date_ 65 = .ok (.invokevirtual 289, 3) := by decide +kernel
theorem dX11_date__68 : decode cX11_date_ 68 = .ok (.bipush 48, 2) := by decide +kernel
theorem dX11_date__70 : decode cX11_date_ 70 = .ok (.isub, 1) := by decide +kernel
theorem dX11_date__71 : decode cX11_date_ 71 = .ok (.istore_n 2, 1) := by decide +kernel
theorem dX11_date__72 : decode cX11_date_ 72 = .ok (.aload_n 0, 1) := by decide +kernel
theorem dX11_date__73 : decode cX11_date_ 73 = .ok (.getfield 286, 3) := by decide +kernel
theorem dX11_date__76 : decode cX11_date_ 76 = .ok (.iconst 1, 1) := by decide +kernel
theorem dX11_date__77 : decode cX11_date_ 77 = .ok (.iadd, 1) := by decide +kernel
theorem dX11_date__78 : decode cX11_date_ 78 = .ok (.aload_n 0, 1) := by decide +kernel
theorem dX11_date__79 : decode cX11_date_ 79 = .ok (.getfield 283, 3) := by decide +kernel
theorem dX11_date__82 : decode cX11_date_ 82 = .ok (.if_icmp .ge 17, 3) := by decide +kernel
theorem dX11_date__85 : decode cX11_date_ 85 = .ok (.aload_n 0, 1) := by decide +kernel
theorem dX11_date__86 : decode cX11_date_ 86 = .ok (.getfield 22, 3) := by decide +kernel
theorem dX11_date__89 : decode cX11_date_ 89 = .ok (.aload_n 0, 1) := by decide +kernel
theorem dX11_date__90 : decode cX11_date_ 90 = .ok (.getfield 286, 3) := by decide +kernel
theorem dX11_date__93 : decode cX11_date_ 93 = .ok (.iconst 1, 1) := by decide +kernel
theorem dX11_date__94 : decode cX11_date_ 94 = .ok (.iadd, 1) := by decide +kernel
theorem dX11_date__95 : decode cX11_date_ 95 = .ok (.iaload, 1) := by decide +kernel
theorem dX11_date__96 : decode cX11_date_ 96 = .ok (.goto 4, 3) := by decide +kernel
theorem dX11_date__99 : decode cX11_date_ 99 = .ok (.iconst 0, 1) := by decide +kernel
theorem dX11_date__100 : decode cX11_date_ 100 = .ok (.istore_n 3, 1) := by decide +kernel
theorem dX11_date__101 : decode cX11_date_ 101 = .ok (.iload_n 3, 1) := by decide +kernel
theorem dX11_date__102 : decode cX11_date_ 102 = .ok (.bipush 120, 2) := by decide +kernel
theorem dX11_date__104 : decode cX11_date_ 104 = .ok (.if_icmp .ne 66, 3) := by decide +kernel
theorem dX11_date__107 : decode cX11_date_ 107 = .ok (.iload_n 2, 1) := by decide +kernel
theorem dX11_date__108 : decode cX11_date_ 108 = .ok (.iconst 1, 1) := by decide +kernel
theorem dX11_date__109 : decode cX11_date_ 109 = .ok (.iconst 4, 1) := by decide +kernel
theorem dX11_date__110 : decode cX11_date_ 110 = .ok (.invokestatic 106, 3) := by decide +kernel
theorem dX11_date__113 : decode cX11_date_ 113 = .ok (.ifCond .eq 57, 3) := by decide +kernel
theorem dX11_date__116 : decode cX11_date_ 116 = .ok (.aload_n 0, 1) := by decide +kernel
theorem dX11_date__117 : decode cX11_date_ 117 = .ok (.dup, 1) := by decide +kernel
theorem dX11_date__118 : decode cX11_date_ 118 = .ok (.getfield 286, 3) := by decide +kernel
theorem dX11_date__121 : decode cX11_date_ 121 = .ok (.iconst 2, 1) := by decide +kernel
theorem dX11_date__122 : decode cX11_date_ 122 = .ok (.iadd, 1) := by decide +kernel
theorem dX11_date__123 : decode cX11_date_ 123 = .ok (.putfield 286, 3) := by decide +kernel
theorem dX11_date__126 : decode cX11_date_ 126 = .ok (.aload_n 0, 1) := by decide +kernel
theorem dX11_date__127 : decode cX11_date_ 127 = .ok (.iconst 0, 1) := by decide +kernel
theorem dX11_date__128 : decode cX11_date_ 128 = .ok (.bipush 6, 2) := by decide +kernel
theorem dX11_date__130 : decode cX11_date_ 130 = .ok (.invokevirtual 293, 3) := by decide +kernel
theorem dX11_date__133 : decode cX11_date_ 133 = .ok (.ifCond .ne 5, 3) := by decide +kernel
theorem dX11_date__136 : decode cX11_date_ 136 = .ok (.iconst 0, 1) := by decide +kernel
theorem dX11_date__137 : decode cX11_date_ 137 = .ok (.ireturn, 1) := by decide +kernel
theorem dX11_date__138 : decode cX11_date_ 138 = .ok (.aload_n 0, 1) := by decide +kernel
theorem dX11_date__139 : decode cX11_date_ 139 = .ok (.getfield 32, 3) := by decide +kernel
theorem dX11_date__142 : decode cX11_date_ 142 = .ok (.iload_n 1, 1) := by decide +kernel
theorem dX11_date__143 : decode cX11_date_ 143 = .ok (.bipush 100, 2) := by decide +kernel
theorem dX11_date__145 : decode cX11_date_ 145 = .ok (.iload_n 2, 1) := by decide +kernel
theorem dX11_date__146 : decode cX11_date_ 146 = .ok (.imul, 1) := by decide +kernel
theorem dX11_date__147 : decode cX11_date_ 147 = .ok (.aload_n 0, 1) := by decide +kernel
theorem dX11_date__148 : decode cX11_date_ 148 = .ok (.getfield 22, 3) := by decide +kernel
theorem dX11_date__151 : decode cX11_date_ 151 = .ok (.aload_n 0, 1) := by decide +kernel
theorem dX11_date__152 : decode cX11_date_ 152 = .ok (.dup, 1) := by decide +kernel
theorem dX11_date__153 : decode cX11_date_ 153 = .ok (.getfield 286, 3) := by decide +kernel
theorem dX11_date__156 : decode cX11_date_ 156 = .ok (.dup_x1, 1) := by decide +kernel
theorem dX11_date__157 : decode cX11_date_ 157 = .ok (.iconst 1, 1) := by decide +kernel
theorem dX11_date__158 : decode cX11_date_ 158 = .ok (.iadd, 1) := by decide +kernel
theorem dX11_date__159 : decode cX11_date_ 159 = .ok (.putfield 286, 3) := by decide +kernel
theorem dX11_date__162 : decode cX11_date_ 162 = .ok (.iaload, 1) := by decide +kernel
theorem dX11_date__163 : decode cX11_date_ 163 = .ok (.iadd, 1) := by decide +kernel
theorem dX11_date__164 : decode cX11_date_ 164 = .ok (.bipush 48, 2) := by decide +kernel
theorem dX11_date__166 : decode cX11_date_ 166 = .ok (.isub, 1) := by decide +kernel
theorem dX11_date__167 : decode cX11_date_ 167 = .ok (.iastore, 1) := by decide +kernel
theorem dX11_date__168 : decode cX11_date_ 168 = .ok (.iconst 1, 1) := by decide +kernel
theorem dX11_date__169 : decode cX11_date_ 169 = .ok (.ireturn, 1) := by decide +kernel
theorem dX11_date__170 : decode cX11_date_ 170 = .ok (.iload_n 3, 1) := by decide +kernel
theorem dX11_date__171 : decode cX11_date_ 171 = .ok (.bipush 62, 2) := by decide +kernel
theorem dX11_date__173 : decode cX11_date_ 173 = .ok (.if_icmp .ne 68, 3) := by decide +kernel
theorem dX11_date__176 : decode cX11_date_ 176 = .ok (.iload_n 2, 1) := by decide +kernel
theorem dX11_date__177 : decode cX11_date_ 177 = .ok (.bipush 6, 2) := by decide +kernel
theorem dX11_date__179 : decode cX11_date_ 179 = .ok (.if_icmp .gt 62, 3) := by decide +kernel
theorem dX11_date__182 : decode cX11_date_ 182 = .ok (.aload_n 0, 1) := by decide +kernel
theorem dX11_date__183 : decode cX11_date_ 183 = .ok (.dup, 1) := by decide +kernel
theorem dX11_date__184 : decode cX11_date_ 184 = .ok (.getfield 286, 3) := by decide +kernel
theorem dX11_date__187 : decode cX11_date_ 187 = .ok (.iconst 2, 1) := by decide +kernel
theorem dX11_date__188 : decode cX11_date_ 188 = .ok (.iadd, 1) := by decide +kernel
theorem dX11_date__189 : decode cX11_date_ 189 = .ok (.putfield 286, 3) := by decide +kernel
theorem dX11_date__192 : decode cX11_date_ 192 = .ok (.aload_n 0, 1) := by decide +kernel
theorem dX11_date__193 : decode cX11_date_ 193 = .ok (.iconst 2, 1) := by decide +kernel
theorem dX11_date__194 : decode cX11_date_ 194 = .ok (.invokevirtual 307, 3) := by decide +kernel
theorem dX11_date__197 : decode cX11_date_ 197 = .ok (.istore 4, 2) := by decide +kernel
theorem dX11_date__199 : decode cX11_date_ 199 = .ok (.iload 4, 2) := by decide +kernel
theorem dX11_date__201 : decode cX11_date_ 201 = .ok (.ifCond .ge 5, 3) := by decide +kernel
theorem dX11_date__204 : decode cX11_date_ 204 = .ok (.iconst 0, 1) := by decide +kernel
theorem dX11_date__205 : decode cX11_date_ 205 = .ok (.ireturn, 1) := by decide +kernel
theorem dX11_date__206 : decode cX11_date_ 206 = .ok (.aload_n 0, 1) := by decide +kernel
theorem dX11_date__207 : decode cX11_date_ 207 = .ok (.getfield 32, 3) := by decide +kernel
theorem dX11_date__210 : decode cX11_date_ 210 = .ok (.iload_n 1, 1) := by decide +kernel
theorem dX11_date__211 : decode cX11_date_ 211 = .ok (.iload 4, 2) := by decide +kernel
theorem dX11_date__213 : decode cX11_date_ 213 = .ok (.ifCond .eq 10, 3) := by decide +kernel
theorem dX11_date__216 : decode cX11_date_ 216 = .ok (.iload 4, 2) := by decide +kernel
theorem dX11_date__218 : decode cX11_date_ 218 = .ok (.bipush 31, 2) := by decide +kernel
theorem dX11_date__220 : decode cX11_date_ 220 = .ok (.if_icmp .le 7, 3) := by decide +kernel
theorem dX11_date__223 : decode cX11_date_ 223 = .ok (.iconst 0, 1) := by decide +kernel
theorem dX11_date__224 : decode cX11_date_ 224 = .ok (.goto 14, 3) := by decide +kernel
theorem dX11_date__227 : decode cX11_date_ 227 = .ok (.sipush 1000, 3) := by decide +kernel
theorem dX11_date__230 : decode cX11_date_ 230 = .ok (.bipush 10, 2) := by decide +kernel
theorem dX11_date__232 : decode cX11_date_ 232 = .ok (.iload 4, 2) := by decide +kernel
theorem dX11_date__234 : decode cX11_date_ 234 = .ok (.imul, 1) := by decide +kernel
theorem dX11_date__235 : decode cX11_date_ 235 = .ok (.iadd, 1) := by decide +kernel
theorem dX11_date__236 : decode cX11_date_ 236 = .ok (.iload_n 2, 1) := by decide +kernel
theorem dX11_date__237 : decode cX11_date_ 237 = .ok (.iadd, 1) := by decide +kernel
theorem dX11_date__238 : decode cX11_date_ 238 = .ok (.iastore, 1) := by decide +kernel
theorem dX11_date__239 : decode cX11_date_ 239 = .ok (.iconst 1, 1) := by decide +kernel
theorem dX11_date__240 : decode cX11_date_ 240 = .ok (.ireturn, 1) := by decide +kernel
theorem dX11_date__241 : decode cX11_date_ 241 = .ok (.aload_n 0, 1) := by decide +kernel
theorem dX11_date__242 : decode cX11_date_ 242 = .ok (.iconst 5, 1) := by decide +kernel
theorem dX11_date__243 : decode cX11_date_ 243 = .ok (.invokevirtual 307, 3) := by decide +kernel
theorem dX11_date__246 : decode cX11_date_ 246 = .ok (.istore 4, 2) := by decide +kernel
theorem dX11_date__248 : decode cX11_date_ 248 = .ok (.aload_n 0, 1) := by decide +kernel
theorem dX11_date__249 : decode cX11_date_ 249 = .ok (.getfield 32, 3) := by decide +kernel
theorem dX11_date__252 : decode cX11_date_ 252 = .ok (.iload_n 1, 1) := by decide +kernel
theorem dX11_date__253 : decode cX11_date_ 253 = .ok (.iload 4, 2) := by decide +kernel
theorem dX11_date__255 : decode cX11_date_ 255 = .ok (.bipush 31, 2) := by decide +kernel
theorem dX11_date__257 : decode cX11_date_ 257 = .ok (.if_icmp .le 7, 3) := by decide +kernel
theorem dX11_date__260 : decode cX11_date_ 260 = .ok (.iconst 0, 1) := by decide +kernel
theorem dX11_date__261 : decode cX11_date_ 261 = .ok (.goto 5, 3) := by decide +kernel
theorem dX11_date__264 : decode cX11_date_ 264 = .ok (.iload 4, 2) := by decide +kernel
theorem dX11_date__266 : decode cX11_date_ 266 = .ok (.iastore, 1) := by decide +kernel
theorem dX11_date__267 : decode cX11_date_ 267 = .ok (.iconst 1, 1) := by decide +kernel
theorem dX11_date__268 : decode cX11_date_ 268 = .ok (.ireturn, 1) := by decide +kernel
theorem dX11_clock_0 : decode cX11_clock 0 = .ok (.aload_n 0, 1) := by decide +kernel
theorem dX11_clock_1 : decode cX11_clock 1 = .ok (.getfield 32, 3) := by decide +kernel
theorem dX11_clock_4 : decode cX11_clock 4 = .ok (.iload_n 1, 1) := by decide +kernel
theorem dX11_clock_5 : decode cX11_clock 5 = .ok (.aload_n 0, 1) := by decide +kernel
theorem dX11_clock_6 : decode cX11_clock 6 = .ok (.invokevirtual 289, 3) := by decide +kernel
theorem dX11_clock_9 : decode cX11_clock 9 = .ok (.bipush 119, 2) := by decide +kernel
theorem dX11_clock_11 : decode cX11_clock 11 = .ok (.if_icmp .ne 7, 3) := by decide +kernel
theorem dX11_clock_14 : decode cX11_clock 14 = .ok (.iconst 0, 1) := by decide +kernel
theorem dX11_clock_15 : decode cX11_clock 15 = .ok (.goto 30, 3) := by decide +kernel
theorem dX11_clock_18 : decode cX11_clock 18 = .ok (.aload_n 0, 1) := by decide +kernel
theorem dX11_clock_19 : decode cX11_clock 19 = .ok (.invokevirtual 289, 3) := by decide +kernel
theorem dX11_clock_22 : decode cX11_clock 22 = .ok (.bipush 98, 2) := by decide +kernel
theorem dX11_clock_24 : decode cX11_clock 24 = .ok (.if_icmp .ne 7, 3) := by decide +kernel
theorem dX11_clock_27 : decode cX11_clock 27 = .ok (.iconst 1, 1) := by decide +kernel
theorem dX11_clock_28 : decode cX11_clock 28 = .ok (.goto 17, 3) := by decide +kernel
theorem dX11_clock_31 : decode cX11_clock 31 = .ok (.aload_n 0, 1) := by decide +kernel
theorem dX11_clock_32 : decode cX11_clock 32 = .ok (.invokevirtual 289, 3) := by decide +kernel
theorem dX11_clock_35 : decode cX11_clock 35 = .ok (.bipush 105, 2) := by decide +kernel
theorem dX11_clock_37 : decode cX11_clock 37 = .ok (.if_icmp .ne 7, 3) := by decide +kernel
theorem dX11_clock_40 : decode cX11_clock 40 = .ok (.iconst 2, 1) := by decide +kernel
theorem dX11_clock_41 : decode cX11_clock 41 = .ok (.goto 4, 3) := by decide +kernel
theorem dX11_clock_44 : decode cX11_clock 44 = .ok (.iconst (-1), 1) := by decide +kernel
theorem dX11_clock_45 : decode cX11_clock 45 = .ok (.iastore, 1) := by decide +kernel
theorem dX11_clock_46 : decode cX11_clock 46 = .ok (.aload_n 0, 1) := by decide +kernel
theorem dX11_clock_47 : decode cX11_clock 47 = .ok (.getfield 32, 3) := by decide +kernel
theorem dX11_clock_50 : decode cX11_clock 50 = .ok (.iload_n 1, 1) := by decide +kernel
theorem dX11_clock_51 : decode cX11_clock 51 = .ok (.iaload, 1) := by decide +kernel
theorem dX11_clock_52 : decode cX11_clock 52 = .ok (.ifCond .lt 13, 3) := by decide +kernel
theorem dX11_clock_55 : decode cX11_clock 55 = .ok (.aload_n 0, 1) := by decide +kernel
theorem dX11_clock_56 : decode cX11_clock 56 = .ok (.dup, 1) := by decide +kernel
theorem dX11_clock_57 : decode cX11_clock 57 = .ok (.getfield 286, 3) := by decide +kernel
theorem dX11_clock_60 : decode cX11_clock 60 = .ok (.iconst 1, 1) := by decide +kernel
theorem dX11_clock_61 : decode cX11_clock 61 = .ok (.iadd, 1) := by decide +kernel
theorem dX11_clock_62 : decode cX11_clock 62 = .ok (.putfield 286, 3) := by decide +kernel
theorem dX11_clock_65 : decode cX11_clock 65 = .ok (.aload_n 0, 1) := by decide +kernel
theorem dX11_clock_66 : decode cX11_clock 66 = .ok (.getfield 32, 3) := by decide +kernel
theorem dX11_clock_69 : decode cX11_clock 69 = .ok (.iload_n 1, 1) := by decide +kernel
theorem dX11_clock_70 : decode cX11_clock 70 = .ok (.iaload, 1) := by decide +kernel
theorem dX11_clock_71 : decode cX11_clock 71 = .ok (.ifCond .lt 7, 3) := by decide +kernel
theorem dX11_clock_74 : decode cX11_clock 74 = .ok (.iconst 1, 1) := by decide +kernel
theorem dX11_clock_75 : decode cX11_clock 75 = .ok (.goto 4, 3) := by decide +kernel
theorem dX11_clock_78 : decode cX11_clock 78 = .ok (.iconst 0, 1) := by decide +kernel
theorem dX11_clock_79 : decode cX11_clock 79 = .ok (.ireturn, 1) := by decide +kernel
theorem dX11_plain_0 : decode cX11_plain 0 = .ok (.iload_n 2, 1) := by decide +kernel
theorem dX11_plain_1 : decode cX11_plain 1 = .ok (.ifCond .eq 16, 3) := by decide +kernel
theorem dX11_plain_4 : decode cX11_plain 4 = .ok (.aload_n 0, 1) := by decide +kernel
theorem dX11_plain_5 : decode cX11_plain 5 = .ok (.bipush 45, 2) := by decide +kernel
theorem dX11_plain_7 : decode cX11_plain 7 = .ok (.invokevirtual 304, 3) := by decide +kernel
theorem dX11_plain_10 : decode cX11_plain 10 = .ok (.ifCond .eq 7, 3) := by decide +kernel
theorem dX11_plain_13 : decode cX11_plain 13 = .ok (.iconst 1, 1) := by decide +kernel
theorem dX11_plain_14 : decode cX11_plain 14 = .ok (.goto 4, 3) := by decide +kernel
theorem dX11_plain_17 : decode cX11_plain 17 = .ok (.iconst 0, 1) := by decide +kernel
theorem dX11_plain_18 : decode cX11_plain 18 = .ok (.istore_n 3, 1) := by decide +kernel
theorem dX11_plain_19 : decode cX11_plain 19 = .ok (.aload_n 0, 1) := by decide +kernel
theorem dX11_plain_20 : decode cX11_plain 20 = .ok (.getfield 32, 3) := by decide +kernel
theorem dX11_plain_23 : decode cX11_plain 23 = .ok (.iload_n 1, 1) := by decide +kernel
theorem dX11_plain_24 : decode cX11_plain 24 = .ok (.aload_n 0, 1) := by decide +kernel
theorem dX11_plain_25 : decode cX11_plain 25 = .ok (.iconst 5, 1) := by decide +kernel
theorem dX11_plain_26 : decode cX11_plain 26 = .ok (.invokevirtual 307, 3) := by decide +kernel
theorem dX11_plain_29 : decode cX11_plain 29 = .ok (.iastore, 1) := by decide +kernel
theorem dX11_plain_30 : decode cX11_plain 30 = .ok (.aload_n 0, 1) := by decide +kernel
theorem dX11_plain_31 : decode cX11_plain 31 = .ok (.getfield 32, 3) := by decide +kernel
theorem dX11_plain_34 : decode cX11_plain 34 = .ok (.iload_n 1, 1) := by decide +kernel
theorem dX11_plain_35 : decode cX11_plain 35 = .ok (.iaload, 1) := by decide +kernel
theorem dX11_plain_36 : decode cX11_plain 36 = .ok (.ifCond .ge 5, 3) := by decide +kernel
theorem dX11_plain_39 : decode cX11_plain 39 = .ok (.iconst 0, 1) := by decide +kernel
theorem dX11_plain_40 : decode cX11_plain 40 = .ok (.ireturn, 1) := by decide +kernel
theorem dX11_plain_41 : decode cX11_plain 41 = .ok (.iload_n 3, 1) := by decide +kernel
theorem dX11_plain_42 : decode cX11_plain 42 = .ok (.ifCond .eq 16, 3) := by decide +kernel
theorem dX11_plain_45 : decode cX11_plain 45 = .ok (.aload_n 0, 1) := by decide +kernel
theorem dX11_plain_46 : decode cX11_plain 46 = .ok (.getfield 32, 3) := by decide +kernel
theorem dX11_plain_49 : decode cX11_plain 49 = .ok (.iload_n 1, 1) := by decide +kernel
theorem dX11_plain_50 : decode cX11_plain 50 = .ok (.aload_n 0, 1) := by decide +kernel
theorem dX11_plain_51 : decode cX11_plain 51 = .ok (.getfield 32, 3) := by decide +kernel
theorem dX11_plain_54 : decode cX11_plain 54 = .ok (.iload_n 1, 1) := by decide +kernel
theorem dX11_plain_55 : decode cX11_plain 55 = .ok (.iaload, 1) := by decide +kernel
theorem dX11_plain_56 : decode cX11_plain 56 = .ok (.ineg, 1) := by decide +kernel
theorem dX11_plain_57 : decode cX11_plain 57 = .ok (.iastore, 1) := by decide +kernel
theorem dX11_plain_58 : decode cX11_plain 58 = .ok (.iconst 1, 1) := by decide +kernel
theorem dX11_plain_59 : decode cX11_plain 59 = .ok (.ireturn, 1) := by decide +kernel
theorem dX11_items_0 : decode cX11_items 0 = .ok (.iload_n 1, 1) := by decide +kernel
theorem dX11_items_1 : decode cX11_items 1 = .ok (.ifCond .ne 7, 3) := by decide +kernel
theorem dX11_items_4 : decode cX11_items 4 = .ok (.iconst 1, 1) := by decide +kernel
theorem dX11_items_5 : decode cX11_items 5 = .ok (.goto 23, 3) := by decide +kernel
theorem dX11_items_8 : decode cX11_items 8 = .ok (.iload_n 1, 1) := by decide +kernel
theorem dX11_items_9 : decode cX11_items 9 = .ok (.iconst 1, 1) := by decide +kernel
theorem dX11_items_10 : decode cX11_items 10 = .ok (.if_icmp .ne 7, 3) := by decide +kernel
theorem dX11_items_13 : decode cX11_items 13 = .ok (.iconst 3, 1) := by decide +kernel
theorem dX11_items_14 : decode cX11_items 14 = .ok (.goto 14, 3) := by decide +kernel
theorem dX11_items_17 : decode cX11_items 17 = .ok (.iload_n 1, 1) := by decide +kernel
theorem dX11_items_18 : decode cX11_items 18 = .ok (.iconst 2, 1) := by decide +kernel
theorem dX11_items_19 : decode cX11_items 19 = .ok (.if_icmp .ne 8, 3) := by decide +kernel
theorem dX11_items_22 : decode cX11_items 22 = .ok (.bipush 8, 2) := by decide +kernel
theorem dX11_items_24 : decode cX11_items 24 = .ok (.goto 4, 3) := by decide +kernel
theorem dX11_items_27 : decode cX11_items 27 = .ok (.iconst 2, 1) := by decide +kernel
theorem dX11_items_28 : decode cX11_items 28 = .ok (.istore_n 2, 1) := by decide +kernel
theorem dX11_items_29 : decode cX11_items 29 = .ok (.iconst 0, 1) := by decide +kernel
theorem dX11_items_30 : decode cX11_items 30 = .ok (.istore_n 3, 1) := by decide +kernel
theorem dX11_items_31 : decode cX11_items 31 = .ok (.iload_n 3, 1) := by decide +kernel
theorem dX11_items_32 : decode cX11_items 32 = .ok (.iload_n 2, 1) := by decide +kernel
theorem dX11_items_33 : decode cX11_items 33 = .ok (.if_icmp .ge 94, 3) := by decide +kernel
theorem dX11_items_36 : decode cX11_items 36 = .ok (.iload_n 3, 1) := by decide +kernel
theorem dX11_items_37 : decode cX11_items 37 = .ok (.ifCond .le 14, 3) := by decide +kernel
theorem dX11_items_40 : decode cX11_items 40 = .ok (.aload_n 0, 1) := by decide +kernel
theorem dX11_items_41 : decode cX11_items 41 = .ok (.bipush 44, 2) := by decide +kernel
theorem dX11_items_43 : decode cX11_items 43 = .ok (.invokevirtual 304, 3) := by decide +kernel
theorem dX11_items_46 : decode cX11_items 46 = .ok (.ifCond .ne 5, 3) := by decide +kernel
theorem dX11_items_49 : decode cX11_items 49 = .ok (.iconst 0, 1) := by decide +kernel
theorem dX11_items_50 : decode cX11_items 50 = .ok (.ireturn, 1) := by decide +kernel
theorem dX11_items_51 : decode cX11_items 51 = .ok (.iload_n 1, 1) := by decide +kernel
theorem dX11_items_52 : decode cX11_items 52 = .ok (.iconst 2, 1) := by decide +kernel
theorem dX11_items_53 : decode cX11_items 53 = .ok (.if_icmp .ne 16, 3) := by decide +kernel
theorem dX11_items_56 : decode cX11_items 56 = .ok (.iload_n 3, 1) := by decide +kernel
theorem dX11_items_57 : decode cX11_items 57 = .ok (.iconst 4, 1) := by decide +kernel
theorem dX11_items_58 : decode cX11_items 58 = .ok (.if_icmp .ne 11, 3) := by decide +kernel
theorem dX11_items_61 : decode cX11_items 61 = .ok (.aload_n 0, 1) := by decide +kernel
theorem dX11_items_62 : decode cX11_items 62 = .ok (.iload_n 3, 1) := by decide +kernel
theorem dX11_items_63 : decode cX11_items 63 = .ok (.invokevirtual 310, 3) := by decide +kernel
theorem dX11_items_66 : decode cX11_items 66 = .ok (.goto 46, 3) := by decide +kernel
theorem dX11_items_69 : decode cX11_items 69 = .ok (.iload_n 1, 1) := by decide +kernel
theorem dX11_items_70 : decode cX11_items 70 = .ok (.iconst 2, 1) := by decide +kernel
theorem dX11_items_71 : decode cX11_items 71 = .ok (.if_icmp .ne 17, 3) := by decide +kernel
theorem dX11_items_74 : decode cX11_items 74 = .ok (.iload_n 3, 1) := by decide +kernel
theorem dX11_items_75 : decode cX11_items 75 = .ok (.bipush 6, 2) := by decide +kernel
theorem dX11_items_77 : decode cX11_items 77 = .ok (.if_icmp .ne 11, 3) := by decide +kernel
theorem dX11_items_80 : decode cX11_items 80 = .ok (.aload_n 0, 1) := by decide +kernel
theorem dX11_items_81 : decode cX11_items 81 = .ok (.iload_n 3, 1) := by decide +kernel
theorem dX11_items_82 : decode cX11_items 82 = .ok (.invokevirtual 313, 3) := by decide +kernel
theorem dX11_items_85 : decode cX11_items 85 = .ok (.goto 27, 3) := by decide +kernel
theorem dX11_items_88 : decode cX11_items 88 = .ok (.aload_n 0, 1) := by decide +kernel
theorem dX11_items_89 : decode cX11_items 89 = .ok (.iload_n 3, 1) := by decide +kernel
theorem dX11_items_90 : decode cX11_items 90 = .ok (.iload_n 1, 1) := by decide +kernel
theorem dX11_items_91 : decode cX11_items 91 = .ok (.ifCond .eq 13, 3) := by decide +kernel
theorem dX11_items_94 : decode cX11_items 94 = .ok (.iload_n 1, 1) := by decide +kernel
theorem dX11_items_95 : decode cX11_items 95 = .ok (.iconst 1, 1) := by decide +kernel
theorem dX11_items_96 : decode cX11_items 96 = .ok (.if_icmp .ne 12, 3) := by decide +kernel
theorem dX11_items_99 : decode cX11_items 99 = .ok (.iload_n 3, 1) := by decide +kernel
theorem dX11_items_100 : decode cX11_items 100 = .ok (.iconst 2, 1) := by decide +kernel
theorem dX11_items_101 : decode cX11_items 101 = .ok (.if_icmp .ne 7, 3) := by decide +kernel
theorem dX11_items_104 : decode cX11_items 104 = .ok (.iconst 1, 1) := by decide +kernel
theorem dX11_items_105 : decode cX11_items 105 = .ok (.goto 4, 3) := by decide +kernel
theorem dX11_items_108 : decode cX11_items 108 = .ok (.iconst 0, 1) := by decide +kernel
theorem dX11_items_109 : decode cX11_items 109 = .ok (.invokevirtual 316, 3) := by decide +kernel
theorem dX11_items_112 : decode cX11_items 112 = .ok (.istore 4, 2) := by decide +kernel
theorem dX11_items_114 : decode cX11_items 114 = .ok (.iload 4, 2) := by decide +kernel
theorem dX11_items_116 : decode cX11_items 116 = .ok (.ifCond .ne 5, 3) := by decide +kernel
theorem dX11_items_119 : decode cX11_items 119 = .ok (.iconst 0, 1) := by decide +kernel
theorem dX11_items_120 : decode cX11_items 120 = .ok (.ireturn, 1) := by decide +kernel
theorem dX11_items_121 : decode cX11_items 121 = .ok (.iinc 3 1, 3) := by decide +kernel
theorem dX11_items_124 : decode cX11_items 124 = .ok (.goto (-93), 3) := by decide +kernel
theorem dX11_items_127 : decode cX11_items 127 = .ok (.aload_n 0, 1) := by decide +kernel
theorem dX11_items_128 : decode cX11_items 128 = .ok (.bipush 59, 2) := by decide +kernel
theorem dX11_items_130 : decode cX11_items 130 = .ok (.invokevirtual 304, 3) := by decide +kernel
theorem dX11_items_133 : decode cX11_items 133 = .ok (.ireturn, 1) := by decide +kernel
theorem dX11_does_0 : decode cX11_does 0 = .ok (.iload_n 1, 1) := by decide +kernel
theorem dX11_does_1 : decode cX11_does 1 = .ok (.tableswitch 192 0 3 #[31, 42, 65, 175], 31) := by decide +kernel
theorem dX11_does_32 : decode cX11_does 32 = .ok (.aload_n 0, 1) := by decide +kernel
theorem dX11_does_33 : decode cX11_does 33 = .ok (.aload_n 0, 1) := by decide +kernel
theorem dX11_does_34 : decode cX11_does 34 = .ok (.getfield 32, 3) := by decide +kernel
theorem dX11_does_37 : decode cX11_does 37 = .ok (.iconst 0, 1) := by decide +kernel
theorem dX11_does_38 : decode cX11_does 38 = .ok (.iaload, 1) := by decide +kernel
theorem dX11_does_39 : decode cX11_does 39 = .ok (.invokevirtual 151, 3) := by decide +kernel
theorem dX11_does_42 : decode cX11_does 42 = .ok (.ireturn, 1) := by decide +kernel
theorem dX11_does_43 : decode cX11_does 43 = .ok (.aload_n 0, 1) := by decide +kernel
theorem dX11_does_44 : decode cX11_does 44 = .ok (.aload_n 0, 1) := by decide +kernel
theorem dX11_does_45 : decode cX11_does 45 = .ok (.getfield 32, 3) := by decide +kernel
theorem dX11_does_48 : decode cX11_does 48 = .ok (.iconst 0, 1) := by decide +kernel
theorem dX11_does_49 : decode cX11_does 49 = .ok (.iaload, 1) := by decide +kernel
theorem dX11_does_50 : decode cX11_does 50 = .ok (.aload_n 0, 1) := by decide +kernel
theorem dX11_does_51 : decode cX11_does 51 = .ok (.getfield 32, 3) := by decide +kernel
theorem dX11_does_54 : decode cX11_does 54 = .ok (.iconst 1, 1) := by decide +kernel
theorem dX11_does_55 : decode cX11_does 55 = .ok (.iaload, 1) := by decide +kernel
theorem dX11_does_56 : decode cX11_does 56 = .ok (.aload_n 0, 1) := by decide +kernel
theorem dX11_does_57 : decode cX11_does 57 = .ok (.getfield 32, 3) := by decide +kernel
theorem dX11_does_60 : decode cX11_does 60 = .ok (.iconst 2, 1) := by decide +kernel
theorem dX11_does_61 : decode cX11_does 61 = .ok (.iaload, 1) := by decide +kernel
theorem dX11_does_62 : decode cX11_does 62 = .ok (.invokevirtual 157, 3) := by decide +kernel
theorem dX11_does_65 : decode cX11_does 65 = .ok (.ireturn, 1) := by decide +kernel
theorem dX11_does_66 : decode cX11_does 66 = .ok (.aload_n 0, 1) := by decide +kernel
theorem dX11_does_67 : decode cX11_does 67 = .ok (.getfield 32, 3) := by decide +kernel
theorem dX11_does_70 : decode cX11_does 70 = .ok (.iconst 1, 1) := by decide +kernel
theorem dX11_does_71 : decode cX11_does 71 = .ok (.iaload, 1) := by decide +kernel
theorem dX11_does_72 : decode cX11_does 72 = .ok (.sipush 2000, 3) := by decide +kernel
theorem dX11_does_75 : decode cX11_does 75 = .ok (.sipush 2031, 3) := by decide +kernel
theorem dX11_does_78 : decode cX11_does 78 = .ok (.invokestatic 106, 3) := by decide +kernel
theorem dX11_does_81 : decode cX11_does 81 = .ok (.ifCond .eq 21, 3) := by decide +kernel
theorem dX11_does_84 : decode cX11_does 84 = .ok (.aload_n 0, 1) := by decide +kernel
theorem dX11_does_85 : decode cX11_does 85 = .ok (.getfield 32, 3) := by decide +kernel
theorem dX11_does_88 : decode cX11_does 88 = .ok (.iconst 2, 1) := by decide +kernel
theorem dX11_does_89 : decode cX11_does 89 = .ok (.iaload, 1) := by decide +kernel
theorem dX11_does_90 : decode cX11_does 90 = .ok (.sipush 2000, 3) := by decide +kernel
theorem dX11_does_93 : decode cX11_does 93 = .ok (.sipush 2031, 3) := by decide +kernel
theorem dX11_does_96 : decode cX11_does 96 = .ok (.invokestatic 106, 3) := by decide +kernel
theorem dX11_does_99 : decode cX11_does 99 = .ok (.ifCond .ne 6, 3) := by decide +kernel
theorem dX11_does_102 : decode cX11_does 102 = .ok (.bipush (-2), 2) := by decide +kernel
theorem dX11_does_104 : decode cX11_does 104 = .ok (.ireturn, 1) := by decide +kernel
theorem dX11_does_105 : decode cX11_does 105 = .ok (.aload_n 0, 1) := by decide +kernel
theorem dX11_does_106 : decode cX11_does 106 = .ok (.aload_n 0, 1) := by decide +kernel
theorem dX11_does_107 : decode cX11_does 107 = .ok (.getfield 32, 3) := by decide +kernel
theorem dX11_does_110 : decode cX11_does 110 = .ok (.iconst 0, 1) := by decide +kernel
theorem dX11_does_111 : decode cX11_does 111 = .ok (.iaload, 1) := by decide +kernel
theorem dX11_does_112 : decode cX11_does 112 = .ok (.bipush 100, 2) := by decide +kernel
theorem dX11_does_114 : decode cX11_does 114 = .ok (.aload_n 0, 1) := by decide +kernel
theorem dX11_does_115 : decode cX11_does 115 = .ok (.getfield 32, 3) := by decide +kernel
theorem dX11_does_118 : decode cX11_does 118 = .ok (.iconst 1, 1) := by decide +kernel
theorem dX11_does_119 : decode cX11_does 119 = .ok (.iaload, 1) := by decide +kernel
theorem dX11_does_120 : decode cX11_does 120 = .ok (.sipush 2000, 3) := by decide +kernel
theorem dX11_does_123 : decode cX11_does 123 = .ok (.isub, 1) := by decide +kernel
theorem dX11_does_124 : decode cX11_does 124 = .ok (.imul, 1) := by decide +kernel
theorem dX11_does_125 : decode cX11_does 125 = .ok (.aload_n 0, 1) := by decide +kernel
theorem dX11_does_126 : decode cX11_does 126 = .ok (.getfield 32, 3) := by decide +kernel
theorem dX11_does_129 : decode cX11_does 129 = .ok (.iconst 2, 1) := by decide +kernel
theorem dX11_does_130 : decode cX11_does 130 = .ok (.iaload, 1) := by decide +kernel
theorem dX11_does_131 : decode cX11_does 131 = .ok (.iadd, 1) := by decide +kernel
theorem dX11_does_132 : decode cX11_does 132 = .ok (.sipush 2000, 3) := by decide +kernel
theorem dX11_does_135 : decode cX11_does 135 = .ok (.isub, 1) := by decide +kernel
theorem dX11_does_136 : decode cX11_does 136 = .ok (.aload_n 0, 1) := by decide +kernel
theorem dX11_does_137 : decode cX11_does 137 = .ok (.getfield 32, 3) := by decide +kernel
theorem dX11_does_140 : decode cX11_does 140 = .ok (.iconst 3, 1) := by decide +kernel
theorem dX11_does_141 : decode cX11_does 141 = .ok (.iaload, 1) := by decide +kernel
theorem dX11_does_142 : decode cX11_does 142 = .ok (.aload_n 0, 1) := by decide +kernel
theorem dX11_does_143 : decode cX11_does 143 = .ok (.getfield 32, 3) := by decide +kernel
theorem dX11_does_146 : decode cX11_does 146 = .ok (.iconst 4, 1) := by decide +kernel
theorem dX11_does_147 : decode cX11_does 147 = .ok (.iaload, 1) := by decide +kernel
theorem dX11_does_148 : decode cX11_does 148 = .ok (.bipush 10, 2) := by decide +kernel
theorem dX11_does_150 : decode cX11_does 150 = .ok (.aload_n 0, 1) := by decide +kernel
theorem dX11_does_151 : decode cX11_does 151 = .ok (.getfield 32, 3) := by decide +kernel
theorem dX11_does_154 : decode cX11_does 154 = .ok (.iconst 5, 1) := by decide +kernel
theorem dX11_does_155 : decode cX11_does 155 = .ok (.iaload, 1) := by decide +kernel
theorem dX11_does_156 : decode cX11_does 156 = .ok (.imul, 1) := by decide +kernel
theorem dX11_does_157 : decode cX11_does 157 = .ok (.aload_n 0, 1) := by decide +kernel
theorem dX11_does_158 : decode cX11_does 158 = .ok (.getfield 32, 3) := by decide +kernel
theorem dX11_does_161 : decode cX11_does 161 = .ok (.bipush 6, 2) := by decide +kernel
theorem dX11_does_163 : decode cX11_does 163 = .ok (.iaload, 1) := by decide +kernel
theorem dX11_does_164 : decode cX11_does 164 = .ok (.iadd, 1) := by decide +kernel
theorem dX11_does_165 : decode cX11_does 165 = .ok (.aload_n 0, 1) := by decide +kernel
theorem dX11_does_166 : decode cX11_does 166 = .ok (.getfield 32, 3) := by decide +kernel
theorem dX11_does_169 : decode cX11_does 169 = .ok (.bipush 7, 2) := by decide +kernel
theorem dX11_does_171 : decode cX11_does 171 = .ok (.iaload, 1) := by decide +kernel
theorem dX11_does_172 : decode cX11_does 172 = .ok (.invokevirtual 161, 3) := by decide +kernel
theorem dX11_does_175 : decode cX11_does 175 = .ok (.ireturn, 1) := by decide +kernel
theorem dX11_does_176 : decode cX11_does 176 = .ok (.aload_n 0, 1) := by decide +kernel
theorem dX11_does_177 : decode cX11_does 177 = .ok (.aload_n 0, 1) := by decide +kernel
theorem dX11_does_178 : decode cX11_does 178 = .ok (.getfield 32, 3) := by decide +kernel
theorem dX11_does_181 : decode cX11_does 181 = .ok (.iconst 0, 1) := by decide +kernel
theorem dX11_does_182 : decode cX11_does 182 = .ok (.iaload, 1) := by decide +kernel
theorem dX11_does_183 : decode cX11_does 183 = .ok (.aload_n 0, 1) := by decide +kernel
theorem dX11_does_184 : decode cX11_does 184 = .ok (.getfield 32, 3) := by decide +kernel
theorem dX11_does_187 : decode cX11_does 187 = .ok (.iconst 1, 1) := by decide +kernel
theorem dX11_does_188 : decode cX11_does 188 = .ok (.iaload, 1) := by decide +kernel
theorem dX11_does_189 : decode cX11_does 189 = .ok (.invokevirtual 165, 3) := by decide +kernel
theorem dX11_does_192 : decode cX11_does 192 = .ok (.ireturn, 1) := by decide +kernel
theorem dX11_does_193 : decode cX11_does 193 = .ok (.aload_n 0, 1) := by decide +kernel
theorem dX11_does_194 : decode cX11_does 194 = .ok (.aload_n 0, 1) := by decide +kernel
theorem dX11_does_195 : decode cX11_does 195 = .ok (.getfield 32, 3) := by decide +kernel
theorem dX11_does_198 : decode cX11_does 198 = .ok (.iconst 0, 1) := by decide +kernel
theorem dX11_does_199 : decode cX11_does 199 = .ok (.iaload, 1) := by decide +kernel
theorem dX11_does_200 : decode cX11_does 200 = .ok (.aload_n 0, 1) := by decide +kernel
theorem dX11_does_201 : decode cX11_does 201 = .ok (.getfield 32, 3) := by decide +kernel
theorem dX11_does_204 : decode cX11_does 204 = .ok (.iconst 1, 1) := by decide +kernel
theorem dX11_does_205 : decode cX11_does 205 = .ok (.iaload, 1) := by decide +kernel
theorem dX11_does_206 : decode cX11_does 206 = .ok (.invokevirtual 262, 3) := by decide +kernel
theorem dX11_does_209 : decode cX11_does 209 = .ok (.ireturn, 1) := by decide +kernel
theorem dX11_run_0 : decode cX11_run 0 = .ok (.aload_n 0, 1) := by decide +kernel
theorem dX11_run_1 : decode cX11_run 1 = .ok (.invokevirtual 148, 3) := by decide +kernel
theorem dX11_run_4 : decode cX11_run 4 = .ok (.aload_n 0, 1) := by decide +kernel
theorem dX11_run_5 : decode cX11_run 5 = .ok (.iconst 0, 1) := by decide +kernel
theorem dX11_run_6 : decode cX11_run 6 = .ok (.putfield 286, 3) := by decide +kernel
theorem dX11_run_9 : decode cX11_run 9 = .ok (.iconst 0, 1) := by decide +kernel
theorem dX11_run_10 : decode cX11_run 10 = .ok (.istore_n 1, 1) := by decide +kernel
theorem dX11_run_11 : decode cX11_run 11 = .ok (.iconst (-1), 1) := by decide +kernel
theorem dX11_run_12 : decode cX11_run 12 = .ok (.istore_n 2, 1) := by decide +kernel
theorem dX11_run_13 : decode cX11_run 13 = .ok (.iconst 1, 1) := by decide +kernel
theorem dX11_run_14 : decode cX11_run 14 = .ok (.istore_n 3, 1) := by decide +kernel
theorem dX11_run_15 : decode cX11_run 15 = .ok (.iload_n 3, 1) := by decide +kernel
theorem dX11_run_16 : decode cX11_run 16 = .ok (.ifCond .eq 97, 3) := by decide +kernel
theorem dX11_run_19 : decode cX11_run 19 = .ok (.aload_n 0, 1) := by decide +kernel
theorem dX11_run_20 : decode cX11_run 20 = .ok (.getfield 286, 3) := by decide +kernel
theorem dX11_run_23 : decode cX11_run 23 = .ok (.istore 4, 2) := by decide +kernel
theorem dX11_run_25 : decode cX11_run 25 = .ok (.aload_n 0, 1) := by decide +kernel
theorem dX11_run_26 : decode cX11_run 26 = .ok (.invokevirtual 320, 3) := by decide +kernel
theorem dX11_run_29 : decode cX11_run 29 = .ok (.istore 5, 2) := by decide +kernel
theorem dX11_run_31 : decode cX11_run 31 = .ok (.iload 5, 2) := by decide +kernel
theorem dX11_run_33 : decode cX11_run 33 = .ok (.ifCond .lt 12, 3) := by decide +kernel
theorem dX11_run_36 : decode cX11_run 36 = .ok (.aload_n 0, 1) := by decide +kernel
theorem dX11_run_37 : decode cX11_run 37 = .ok (.iload 5, 2) := by decide +kernel
theorem dX11_run_39 : decode cX11_run 39 = .ok (.invokevirtual 323, 3) := by decide +kernel
theorem dX11_run_42 : decode cX11_run 42 = .ok (.ifCond .ne 27, 3) := by decide +kernel
theorem dX11_run_45 : decode cX11_run 45 = .ok (.aload_n 0, 1) := by decide +kernel
theorem dX11_run_46 : decode cX11_run 46 = .ok (.aload_n 0, 1) := by decide +kernel
theorem dX11_run_47 : decode cX11_run 47 = .ok (.getfield 286, 3) := by decide +kernel
theorem dX11_run_50 : decode cX11_run 50 = .ok (.putfield 25, 3) := by decide +kernel
theorem dX11_run_53 : decode cX11_run 53 = .ok (.aload_n 0, 1) := by decide +kernel
theorem dX11_run_54 : decode cX11_run 54 = .ok (.iconst 0, 1) := by decide +kernel
theorem dX11_run_55 : decode cX11_run 55 = .ok (.putfield 283, 3) := by decide +kernel
theorem dX11_run_58 : decode cX11_run 58 = .ok (.aload_n 0, 1) := by decide +kernel
theorem dX11_run_59 : decode cX11_run 59 = .ok (.iconst (-1), 1) := by decide +kernel
theorem dX11_run_60 : decode cX11_run 60 = .ok (.putfield 35, 3) := by decide +kernel
theorem dX11_run_63 : decode cX11_run 63 = .ok (.aload_n 0, 1) := by decide +kernel
theorem dX11_run_64 : decode cX11_run 64 = .ok (.iconst (-1), 1) := by decide +kernel
theorem dX11_run_65 : decode cX11_run 65 = .ok (.invokevirtual 154, 3) := by decide +kernel
theorem dX11_run_68 : decode cX11_run 68 = .ok (.ireturn, 1) := by decide +kernel
theorem dX11_run_69 : decode cX11_run 69 = .ok (.iload_n 2, 1) := by decide +kernel
theorem dX11_run_70 : decode cX11_run 70 = .ok (.ifCond .ge 15, 3) := by decide +kernel
theorem dX11_run_73 : decode cX11_run 73 = .ok (.aload_n 0, 1) := by decide +kernel
theorem dX11_run_74 : decode cX11_run 74 = .ok (.iload 5, 2) := by decide +kernel
theorem dX11_run_76 : decode cX11_run 76 = .ok (.invokevirtual 326, 3) := by decide +kernel
theorem dX11_run_79 : decode cX11_run 79 = .ok (.ifCond .ge 6, 3) := by decide +kernel
theorem dX11_run_82 : decode cX11_run 82 = .ok (.iload 4, 2) := by decide +kernel
theorem dX11_run_84 : decode cX11_run 84 = .ok (.istore_n 2, 1) := by decide +kernel
theorem dX11_run_85 : decode cX11_run 85 = .ok (.aload_n 0, 1) := by decide +kernel
theorem dX11_run_86 : decode cX11_run 86 = .ok (.iconst (-1), 1) := by decide +kernel
theorem dX11_run_87 : decode cX11_run 87 = .ok (.putfield 35, 3) := by decide +kernel
theorem dX11_run_90 : decode cX11_run 90 = .ok (.iinc 1 1, 3) := by decide +kernel
theorem dX11_run_93 : decode cX11_run 93 = .ok (.aload_n 0, 1) := by decide +kernel
theorem dX11_run_94 : decode cX11_run 94 = .ok (.getfield 286, 3) := by decide +kernel
theorem dX11_run_97 : decode cX11_run 97 = .ok (.aload_n 0, 1) := by decide +kernel
theorem dX11_run_98 : decode cX11_run 98 = .ok (.getfield 283, 3) := by decide +kernel
theorem dX11_run_101 : decode cX11_run 101 = .ok (.if_icmp .ge 7, 3) := by decide +kernel
theorem dX11_run_104 : decode cX11_run 104 = .ok (.iconst 1, 1) := by decide +kernel
theorem dX11_run_105 : decode cX11_run 105 = .ok (.goto 4, 3) := by decide +kernel
theorem dX11_run_108 : decode cX11_run 108 = .ok (.iconst 0, 1) := by decide +kernel
theorem dX11_run_109 : decode cX11_run 109 = .ok (.istore_n 3, 1) := by decide +kernel
theorem dX11_run_110 : decode cX11_run 110 = .ok (.goto (-95), 3) := by decide +kernel
theorem dX11_run_113 : decode cX11_run 113 = .ok (.aload_n 0, 1) := by decide +kernel
theorem dX11_run_114 : decode cX11_run 114 = .ok (.iload_n 2, 1) := by decide +kernel
theorem dX11_run_115 : decode cX11_run 115 = .ok (.putfield 25, 3) := by decide +kernel
theorem dX11_run_118 : decode cX11_run 118 = .ok (.aload_n 0, 1) := by decide +kernel
theorem dX11_run_119 : decode cX11_run 119 = .ok (.iconst 0, 1) := by decide +kernel
theorem dX11_run_120 : decode cX11_run 120 = .ok (.putfield 283, 3) := by decide +kernel
theorem dX11_run_123 : decode cX11_run 123 = .ok (.aload_n 0, 1) := by decide +kernel
theorem dX11_run_124 : decode cX11_run 124 = .ok (.iload_n 2, 1) := by decide +kernel
theorem dX11_run_125 : decode cX11_run 125 = .ok (.ifCond .ge 7, 3) := by decide +kernel
theorem dX11_run_128 : decode cX11_run 128 = .ok (.iload_n 1, 1) := by decide +kernel
theorem dX11_run_129 : decode cX11_run 129 = .ok (.goto 5, 3) := by decide +kernel
theorem dX11_run_132 : decode cX11_run 132 = .ok (.bipush (-2), 2) := by decide +kernel
theorem dX11_run_134 : decode cX11_run 134 = .ok (.invokevirtual 154, 3) := by decide +kernel
theorem dX11_run_137 : decode cX11_run 137 = .ok (.ireturn, 1) := by decide +kernel
theorem dX11_errorPosition_0 : decode cX11_errorPosition 0 = .ok (.aload_n 0, 1) := by decide +kernel
theorem dX11_errorPosition_1 : decode cX11_errorPosition 1 = .ok (.iconst 0, 1) := by decide +kernel
theorem dX11_errorPosition_2 : decode cX11_errorPosition 2 = .ok (.putfield 80, 3) := by decide +kernel
theorem dX11_errorPosition_5 : decode cX11_errorPosition 5 = .ok (.aload_n 0, 1) := by decide +kernel
theorem dX11_errorPosition_6 : decode cX11_errorPosition 6 = .ok (.getfield 25, 3) := by decide +kernel
theorem dX11_errorPosition_9 : decode cX11_errorPosition 9 = .ok (.ireturn, 1) := by decide +kernel
theorem dX11_writes_0 : decode cX11_writes 0 = .ok (.iload_n 1, 1) := by decide +kernel
theorem dX11_writes_1 : decode cX11_writes 1 = .ok (.bipush 9, 2) := by decide +kernel
theorem dX11_writes_3 : decode cX11_writes 3 = .ok (.if_icmp .le 11, 3) := by decide +kernel
theorem dX11_writes_6 : decode cX11_writes 6 = .ok (.aload_n 0, 1) := by decide +kernel
theorem dX11_writes_7 : decode cX11_writes 7 = .ok (.iload_n 1, 1) := by decide +kernel
theorem dX11_writes_8 : decode cX11_writes 8 = .ok (.bipush 10, 2) := by decide +kernel
theorem dX11_writes_10 : decode cX11_writes 10 = .ok (.idiv, 1) := by decide +kernel
theorem dX11_writes_11 : decode cX11_writes 11 = .ok (.invokevirtual 329, 3) := by decide +kernel
theorem dX11_writes_14 : decode cX11_writes 14 = .ok (.aload_n 0, 1) := by decide +kernel
theorem dX11_writes_15 : decode cX11_writes 15 = .ok (.getfield 29, 3) := by decide +kernel
theorem dX11_writes_18 : decode cX11_writes 18 = .ok (.aload_n 0, 1) := by decide +kernel
theorem dX11_writes_19 : decode cX11_writes 19 = .ok (.dup, 1) := by decide +kernel
theorem dX11_writes_20 : decode cX11_writes 20 = .ok (.getfield 332, 3) := by decide +kernel
theorem dX11_writes_23 : decode cX11_writes 23 = .ok (.dup_x1, 1) := by decide +kernel
theorem dX11_writes_24 : decode cX11_writes 24 = .ok (.iconst 1, 1) := by decide +kernel
theorem dX11_writes_25 : decode cX11_writes 25 = .ok (.iadd, 1) := by decide +kernel
theorem dX11_writes_26 : decode cX11_writes 26 = .ok (.putfield 332, 3) := by decide +kernel
theorem dX11_writes_29 : decode cX11_writes 29 = .ok (.bipush 48, 2) := by decide +kernel
theorem dX11_writes_31 : decode cX11_writes 31 = .ok (.iload_n 1, 1) := by decide +kernel
theorem dX11_writes_32 : decode cX11_writes 32 = .ok (.bipush 10, 2) := by decide +kernel
theorem dX11_writes_34 : decode cX11_writes 34 = .ok (.irem, 1) := by decide +kernel
theorem dX11_writes_35 : decode cX11_writes 35 = .ok (.iadd, 1) := by decide +kernel
theorem dX11_writes_36 : decode cX11_writes 36 = .ok (.iastore, 1) := by decide +kernel
theorem dX11_writes_37 : decode cX11_writes 37 = .ok (.return_, 1) := by decide +kernel
theorem dX11_write_0 : decode cX11_write 0 = .ok (.aload_n 0, 1) := by decide +kernel
theorem dX11_write_1 : decode cX11_write 1 = .ok (.iconst 0, 1) := by decide +kernel
theorem dX11_write_2 : decode cX11_write 2 = .ok (.putfield 80, 3) := by decide +kernel
theorem dX11_write_5 : decode cX11_write 5 = .ok (.aload_n 0, 1) := by decide +kernel
theorem dX11_write_6 : decode cX11_write 6 = .ok (.iload_n 1, 1) := by decide +kernel
theorem dX11_write_7 : decode cX11_write 7 = .ok (.iload_n 2, 1) := by decide +kernel
theorem dX11_write_8 : decode cX11_write 8 = .ok (.invokevirtual 138, 3) := by decide +kernel
theorem dX11_write_11 : decode cX11_write 11 = .ok (.ifCond .ne 9, 3) := by decide +kernel
theorem dX11_write_14 : decode cX11_write 14 = .ok (.aload_n 0, 1) := by decide +kernel
theorem dX11_write_15 : decode cX11_write 15 = .ok (.iconst 1, 1) := by decide +kernel
theorem dX11_write_16 : decode cX11_write 16 = .ok (.invokevirtual 110, 3) := by decide +kernel
theorem dX11_write_19 : decode cX11_write 19 = .ok (.ireturn, 1) := by decide +kernel
theorem dX11_write_20 : decode cX11_write 20 = .ok (.aload_n 0, 1) := by decide +kernel
theorem dX11_write_21 : decode cX11_write 21 = .ok (.iconst 0, 1) := by decide +kernel
theorem dX11_write_22 : decode cX11_write 22 = .ok (.putfield 332, 3) := by decide +kernel
theorem dX11_write_25 : decode cX11_write 25 = .ok (.iload_n 1, 1) := by decide +kernel
theorem dX11_write_26 : decode cX11_write 26 = .ok (.iload_n 2, 1) := by decide +kernel
theorem dX11_write_27 : decode cX11_write 27 = .ok (.invokestatic 135, 3) := by decide +kernel
theorem dX11_write_30 : decode cX11_write 30 = .ok (.istore_n 3, 1) := by decide +kernel
theorem dX11_write_31 : decode cX11_write 31 = .ok (.iconst 0, 1) := by decide +kernel
theorem dX11_write_32 : decode cX11_write 32 = .ok (.istore 4, 2) := by decide +kernel
theorem dX11_write_34 : decode cX11_write 34 = .ok (.iload 4, 2) := by decide +kernel
theorem dX11_write_36 : decode cX11_write 36 = .ok (.bipush 7, 2) := by decide +kernel
theorem dX11_write_38 : decode cX11_write 38 = .ok (.if_icmp .ge 255, 3) := by decide +kernel
theorem dX11_write_41 : decode cX11_write 41 = .ok (.iload 4, 2) := by decide +kernel
theorem dX11_write_43 : decode cX11_write 43 = .ok (.ifCond .le 21, 3) := by decide +kernel
theorem dX11_write_46 : decode cX11_write 46 = .ok (.aload_n 0, 1) := by decide +kernel
theorem dX11_write_47 : decode cX11_write 47 = .ok (.getfield 29, 3) := by decide +kernel
theorem dX11_write_50 : decode cX11_write 50 = .ok (.aload_n 0, 1) := by decide +kernel
theorem dX11_write_51 : decode cX11_write 51 = .ok (.dup, 1) := by decide +kernel
theorem dX11_write_52 : decode cX11_write 52 = .ok (.getfield 332, 3) := by decide +kernel
theorem dX11_write_55 : decode cX11_write 55 = .ok (.dup_x1, 1) := by decide +kernel
theorem dX11_write_56 : decode cX11_write 56 = .ok (.iconst 1, 1) := by decide +kernel
theorem dX11_write_57 : decode cX11_write 57 = .ok (.iadd, 1) := by decide +kernel
theorem dX11_write_58 : decode cX11_write 58 = .ok (.putfield 332, 3) := by decide +kernel
theorem dX11_write_61 : decode cX11_write 61 = .ok (.bipush 44, 2) := by decide +kernel
theorem dX11_write_63 : decode cX11_write 63 = .ok (.iastore, 1) := by decide +kernel
theorem dX11_write_64 : decode cX11_write 64 = .ok (.aload_n 0, 1) := by decide +kernel
theorem dX11_write_65 : decode cX11_write 65 = .ok (.getfield 9, 3) := by decide +kernel
theorem dX11_write_68 : decode cX11_write 68 = .ok (.iload_n 3, 1) := by decide +kernel
theorem dX11_write_69 : decode cX11_write 69 = .ok (.iload 4, 2) := by decide +kernel
theorem dX11_write_71 : decode cX11_write 71 = .ok (.iadd, 1) := by decide +kernel
theorem dX11_write_72 : decode cX11_write 72 = .ok (.iaload, 1) := by decide +kernel
theorem dX11_write_73 : decode cX11_write 73 = .ok (.istore 5, 2) := by decide +kernel
theorem dX11_write_75 : decode cX11_write 75 = .ok (.iload 4, 2) := by decide +kernel
theorem dX11_write_77 : decode cX11_write 77 = .ok (.iconst 5, 1) := by decide +kernel
theorem dX11_write_78 : decode cX11_write 78 = .ok (.if_icmp .ne 45, 3) := by decide +kernel
theorem dX11_write_81 : decode cX11_write 81 = .ok (.aload_n 0, 1) := by decide +kernel
theorem dX11_write_82 : decode cX11_write 82 = .ok (.getfield 29, 3) := by decide +kernel
theorem dX11_write_85 : decode cX11_write 85 = .ok (.aload_n 0, 1) := by decide +kernel
theorem dX11_write_86 : decode cX11_write 86 = .ok (.dup, 1) := by decide +kernel
theorem dX11_write_87 : decode cX11_write 87 = .ok (.getfield 332, 3) := by decide +kernel
theorem dX11_write_90 : decode cX11_write 90 = .ok (.dup_x1, 1) := by decide +kernel
theorem dX11_write_91 : decode cX11_write 91 = .ok (.iconst 1, 1) := by decide +kernel
theorem dX11_write_92 : decode cX11_write 92 = .ok (.iadd, 1) := by decide +kernel
theorem dX11_write_93 : decode cX11_write 93 = .ok (.putfield 332, 3) := by decide +kernel
theorem dX11_write_96 : decode cX11_write 96 = .ok (.iload 5, 2) := by decide +kernel
theorem dX11_write_98 : decode cX11_write 98 = .ok (.ifCond .ne 8, 3) := by decide +kernel
theorem dX11_write_101 : decode cX11_write 101 = .ok (.bipush 119, 2) := by decide +kernel
theorem dX11_write_103 : decode cX11_write 103 = .ok (.goto 16, 3) := by decide +kernel
theorem dX11_write_106 : decode cX11_write 106 = .ok (.iload 5, 2) := by decide +kernel
theorem dX11_write_108 : decode cX11_write 108 = .ok (.iconst 1, 1) := by decide +kernel
theorem dX11_write_109 : decode cX11_write 109 = .ok (.if_icmp .ne 8, 3) := by decide +kernel
theorem dX11_write_112 : decode cX11_write 112 = .ok (.bipush 98, 2) := by decide +kernel
theorem dX11_write_114 : decode cX11_write 114 = .ok (.goto 5, 3) := by decide +kernel
theorem dX11_write_117 : decode cX11_write 117 = .ok (.bipush 105, 2) := by decide +kernel
theorem dX11_write_119 : decode cX11_write 119 = .ok (.iastore, 1) := by decide +kernel
theorem dX11_write_120 : decode cX11_write 120 = .ok (.goto 167, 3) := by decide +kernel
theorem dX11_write_123 : decode cX11_write 123 = .ok (.iload 4, 2) := by decide +kernel
theorem dX11_write_125 : decode cX11_write 125 = .ok (.iconst 2, 1) := by decide +kernel
theorem dX11_write_126 : decode cX11_write 126 = .ok (.if_icmp .ge 16, 3) := by decide +kernel
theorem dX11_write_129 : decode cX11_write 129 = .ok (.aload_n 0, 1) := by decide +kernel
theorem dX11_write_130 : decode cX11_write 130 = .ok (.sipush 2000, 3) := by decide +kernel
theorem dX11_write_133 : decode cX11_write 133 = .ok (.iload 5, 2) := by decide +kernel
theorem dX11_write_135 : decode cX11_write 135 = .ok (.iadd, 1) := by decide +kernel
theorem dX11_write_136 : decode cX11_write 136 = .ok (.invokevirtual 329, 3) := by decide +kernel
theorem dX11_write_139 : decode cX11_write 139 = .ok (.goto 148, 3) := by decide +kernel
theorem dX11_write_142 : decode cX11_write 142 = .ok (.iload 4, 2) := by decide +kernel
theorem dX11_write_144 : decode cX11_write 144 = .ok (.iconst 3, 1) := by decide +kernel
theorem dX11_write_145 : decode cX11_write 145 = .ok (.if_icmp .ne 10, 3) := by decide +kernel
theorem dX11_write_148 : decode cX11_write 148 = .ok (.iload 5, 2) := by decide +kernel
theorem dX11_write_150 : decode cX11_write 150 = .ok (.bipush 31, 2) := by decide +kernel
theorem dX11_write_152 : decode cX11_write 152 = .ok (.if_icmp .gt 12, 3) := by decide +kernel
theorem dX11_write_155 : decode cX11_write 155 = .ok (.aload_n 0, 1) := by decide +kernel
theorem dX11_write_156 : decode cX11_write 156 = .ok (.iload 5, 2) := by decide +kernel
theorem dX11_write_158 : decode cX11_write 158 = .ok (.invokevirtual 329, 3) := by decide +kernel
theorem dX11_write_161 : decode cX11_write 161 = .ok (.goto 126, 3) := by decide +kernel
theorem dX11_write_164 : decode cX11_write 164 = .ok (.iload 5, 2) := by decide +kernel
theorem dX11_write_166 : decode cX11_write 166 = .ok (.sipush 1000, 3) := by decide +kernel
theorem dX11_write_169 : decode cX11_write 169 = .ok (.if_icmp .lt 46, 3) := by decide +kernel
theorem dX11_write_172 : decode cX11_write 172 = .ok (.aload_n 0, 1) := by decide +kernel
theorem dX11_write_173 : decode cX11_write 173 = .ok (.iload 5, 2) := by decide +kernel
theorem dX11_write_175 : decode cX11_write 175 = .ok (.bipush 10, 2) := by decide +kernel
theorem dX11_write_177 : decode cX11_write 177 = .ok (.irem, 1) := by decide +kernel
theorem dX11_write_178 : decode cX11_write 178 = .ok (.invokevirtual 329, 3) := by decide +kernel
theorem dX11_write_181 : decode cX11_write 181 = .ok (.aload_n 0, 1) := by decide +kernel
theorem dX11_write_182 : decode cX11_write 182 = .ok (.getfield 29, 3) := by decide +kernel
theorem dX11_write_185 : decode cX11_write 185 = .ok (.aload_n 0, 1) := by decide +kernel
theorem dX11_write_186 : decode cX11_write 186 = .ok (.dup, 1) := by decide +kernel
theorem dX11_write_187 : decode cX11_write 187 = .ok (.getfield 332, 3) := by decide +kernel
theorem dX11_write_190 : decode cX11_write 190 = .ok (.dup_x1, 1) := by decide +kernel
theorem dX11_write_191 : decode cX11_write 191 = .ok (.iconst 1, 1) := by decide +kernel
theorem dX11_write_192 : decode cX11_write 192 = .ok (.iadd, 1) := by decide +kernel
theorem dX11_write_193 : decode cX11_write 193 = .ok (.putfield 332, 3) := by decide +kernel
theorem dX11_write_196 : decode cX11_write 196 = .ok (.bipush 62, 2) := by decide +kernel
theorem dX11_write_198 : decode cX11_write 198 = .ok (.iastore, 1) := by decide +kernel
theorem dX11_write_199 : decode cX11_write 199 = .ok (.aload_n 0, 1) := by decide +kernel
theorem dX11_write_200 : decode cX11_write 200 = .ok (.iload 5, 2) := by decide +kernel
theorem dX11_write_202 : decode cX11_write 202 = .ok (.sipush 1000, 3) := by decide +kernel
theorem dX11_write_205 : decode cX11_write 205 = .ok (.isub, 1) := by decide +kernel
theorem dX11_write_206 : decode cX11_write 206 = .ok (.bipush 10, 2) := by decide +kernel
theorem dX11_write_208 : decode cX11_write 208 = .ok (.idiv, 1) := by decide +kernel
theorem dX11_write_209 : decode cX11_write 209 = .ok (.invokevirtual 329, 3) := by decide +kernel
theorem dX11_write_212 : decode cX11_write 212 = .ok (.goto 75, 3) := by decide +kernel
theorem dX11_write_215 : decode cX11_write 215 = .ok (.aload_n 0, 1) := by decide +kernel
theorem dX11_write_216 : decode cX11_write 216 = .ok (.getfield 29, 3) := by decide +kernel
theorem dX11_write_219 : decode cX11_write 219 = .ok (.aload_n 0, 1) := by decide +kernel
theorem dX11_write_220 : decode cX11_write 220 = .ok (.dup, 1) := by decide +kernel
theorem dX11_write_221 : decode cX11_write 221 = .ok (.getfield 332, 3) := by decide +kernel
theorem dX11_write_224 : decode cX11_write 224 = .ok (.dup_x1, 1) := by decide +kernel
theorem dX11_write_225 : decode cX11_write 225 = .ok (.iconst 1, 1) := by decide +kernel
theorem dX11_write_226 : decode cX11_write 226 = .ok (.iadd, 1) := by decide +kernel
theorem dX11_write_227 : decode cX11_write 227 = .ok (.putfield 332, 3) := by decide +kernel
theorem dX11_write_230 : decode cX11_write 230 = .ok (.iload 5, 2) := by decide +kernel
theorem dX11_write_232 : decode cX11_write 232 = .ok (.sipush 500, 3) := by decide +kernel
theorem dX11_write_235 : decode cX11_write 235 = .ok (.if_icmp .lt 8, 3) := by decide +kernel
theorem dX11_write_238 : decode cX11_write 238 = .ok (.bipush 108, 2) := by decide +kernel
theorem dX11_write_240 : decode cX11_write 240 = .ok (.goto 11, 3) := by decide +kernel
theorem dX11_write_243 : decode cX11_write 243 = .ok (.bipush 48, 2) := by decide +kernel
theorem dX11_write_245 : decode cX11_write 245 = .ok (.iload 5, 2) := by decide +kernel
theorem dX11_write_247 : decode cX11_write 247 = .ok (.bipush 100, 2) := by decide +kernel
theorem dX11_write_249 : decode cX11_write 249 = .ok (.idiv, 1) := by decide +kernel
theorem dX11_write_250 : decode cX11_write 250 = .ok (.iadd, 1) := by decide +kernel
theorem dX11_write_251 : decode cX11_write 251 = .ok (.iastore, 1) := by decide +kernel
theorem dX11_write_252 : decode cX11_write 252 = .ok (.iload 5, 2) := by decide +kernel
theorem dX11_write_254 : decode cX11_write 254 = .ok (.sipush 500, 3) := by decide +kernel
theorem dX11_write_257 : decode cX11_write 257 = .ok (.if_icmp .ge 21, 3) := by decide +kernel
theorem dX11_write_260 : decode cX11_write 260 = .ok (.aload_n 0, 1) := by decide +kernel
theorem dX11_write_261 : decode cX11_write 261 = .ok (.getfield 29, 3) := by decide +kernel
theorem dX11_write_264 : decode cX11_write 264 = .ok (.aload_n 0, 1) := by decide +kernel
theorem dX11_write_265 : decode cX11_write 265 = .ok (.dup, 1) := by decide +kernel
theorem dX11_write_266 : decode cX11_write 266 = .ok (.getfield 332, 3) := by decide +kernel
theorem dX11_write_269 : decode cX11_write 269 = .ok (.dup_x1, 1) := by decide +kernel
theorem dX11_write_270 : decode cX11_write 270 = .ok (.iconst 1, 1) := by decide +kernel
theorem dX11_write_271 : decode cX11_write 271 = .ok (.iadd, 1) := by decide +kernel
theorem dX11_write_272 : decode cX11_write 272 = .ok (.putfield 332, 3) := by decide +kernel
theorem dX11_write_275 : decode cX11_write 275 = .ok (.bipush 120, 2) := by decide +kernel
theorem dX11_write_277 : decode cX11_write 277 = .ok (.iastore, 1) := by decide +kernel
theorem dX11_write_278 : decode cX11_write 278 = .ok (.aload_n 0, 1) := by decide +kernel
theorem dX11_write_279 : decode cX11_write 279 = .ok (.iload 5, 2) := by decide +kernel
theorem dX11_write_281 : decode cX11_write 281 = .ok (.bipush 100, 2) := by decide +kernel
theorem dX11_write_283 : decode cX11_write 283 = .ok (.irem, 1) := by decide +kernel
theorem dX11_write_284 : decode cX11_write 284 = .ok (.invokevirtual 329, 3) := by decide +kernel
theorem dX11_write_287 : decode cX11_write 287 = .ok (.iinc 4 1, 3) := by decide +kernel
theorem dX11_write_290 : decode cX11_write 290 = .ok (.goto (-256), 3) := by decide +kernel
theorem dX11_write_293 : decode cX11_write 293 = .ok (.aload_n 0, 1) := by decide +kernel
theorem dX11_write_294 : decode cX11_write 294 = .ok (.getfield 332, 3) := by decide +kernel
theorem dX11_write_297 : decode cX11_write 297 = .ok (.ireturn, 1) := by decide +kernel
theorem dX11_character_0 : decode cX11_character 0 = .ok (.aload_n 0, 1) := by decide +kernel
theorem dX11_character_1 : decode cX11_character 1 = .ok (.iload_n 1, 1) := by decide +kernel
theorem dX11_character_2 : decode cX11_character 2 = .ok (.iconst 0, 1) := by decide +kernel
theorem dX11_character_3 : decode cX11_character 3 = .ok (.aload_n 0, 1) := by decide +kernel
theorem dX11_character_4 : decode cX11_character 4 = .ok (.getfield 332, 3) := by decide +kernel
theorem dX11_character_7 : decode cX11_character 7 = .ok (.iconst 1, 1) := by decide +kernel
theorem dX11_character_8 : decode cX11_character 8 = .ok (.isub, 1) := by decide +kernel
theorem dX11_character_9 : decode cX11_character 9 = .ok (.invokestatic 106, 3) := by decide +kernel
theorem dX11_character_12 : decode cX11_character 12 = .ok (.ifCond .eq 7, 3) := by decide +kernel
theorem dX11_character_15 : decode cX11_character 15 = .ok (.iconst 0, 1) := by decide +kernel
theorem dX11_character_16 : decode cX11_character 16 = .ok (.goto 4, 3) := by decide +kernel
theorem dX11_character_19 : decode cX11_character 19 = .ok (.iconst 1, 1) := by decide +kernel
theorem dX11_character_20 : decode cX11_character 20 = .ok (.putfield 80, 3) := by decide +kernel
theorem dX11_character_23 : decode cX11_character 23 = .ok (.aload_n 0, 1) := by decide +kernel
theorem dX11_character_24 : decode cX11_character 24 = .ok (.getfield 80, 3) := by decide +kernel
theorem dX11_character_27 : decode cX11_character 27 = .ok (.ifCond .le 7, 3) := by decide +kernel
theorem dX11_character_30 : decode cX11_character 30 = .ok (.iconst 0, 1) := by decide +kernel
theorem dX11_character_31 : decode cX11_character 31 = .ok (.goto 10, 3) := by decide +kernel
theorem dX11_character_34 : decode cX11_character 34 = .ok (.aload_n 0, 1) := by decide +kernel
theorem dX11_character_35 : decode cX11_character 35 = .ok (.getfield 29, 3) := by decide +kernel
theorem dX11_character_38 : decode cX11_character 38 = .ok (.iload_n 1, 1) := by decide +kernel
theorem dX11_character_39 : decode cX11_character 39 = .ok (.iaload, 1) := by decide +kernel
theorem dX11_character_40 : decode cX11_character 40 = .ok (.i2c, 1) := by decide +kernel
theorem dX11_character_41 : decode cX11_character 41 = .ok (.ireturn, 1) := by decide +kernel
theorem dX11_undo_0 : decode cX11_undo 0 = .ok (.aload_n 0, 1) := by decide +kernel
theorem dX11_undo_1 : decode cX11_undo 1 = .ok (.iconst 0, 1) := by decide +kernel
theorem dX11_undo_2 : decode cX11_undo 2 = .ok (.putfield 80, 3) := by decide +kernel
theorem dX11_undo_5 : decode cX11_undo 5 = .ok (.aload_n 0, 1) := by decide +kernel
theorem dX11_undo_6 : decode cX11_undo 6 = .ok (.getfield 86, 3) := by decide +kernel
theorem dX11_undo_9 : decode cX11_undo 9 = .ok (.ifCond .ne 9, 3) := by decide +kernel
theorem dX11_undo_12 : decode cX11_undo 12 = .ok (.aload_n 0, 1) := by decide +kernel
theorem dX11_undo_13 : decode cX11_undo 13 = .ok (.iconst 1, 1) := by decide +kernel
theorem dX11_undo_14 : decode cX11_undo 14 = .ok (.invokevirtual 110, 3) := by decide +kernel
theorem dX11_undo_17 : decode cX11_undo 17 = .ok (.ireturn, 1) := by decide +kernel
theorem dX11_undo_18 : decode cX11_undo 18 = .ok (.aload_n 0, 1) := by decide +kernel
theorem dX11_undo_19 : decode cX11_undo 19 = .ok (.dup, 1) := by decide +kernel
theorem dX11_undo_20 : decode cX11_undo 20 = .ok (.getfield 86, 3) := by decide +kernel
theorem dX11_undo_23 : decode cX11_undo 23 = .ok (.iconst 1, 1) := by decide +kernel
theorem dX11_undo_24 : decode cX11_undo 24 = .ok (.isub, 1) := by decide +kernel
theorem dX11_undo_25 : decode cX11_undo 25 = .ok (.putfield 86, 3) := by decide +kernel
theorem dX11_undo_28 : decode cX11_undo 28 = .ok (.iconst 0, 1) := by decide +kernel
theorem dX11_undo_29 : decode cX11_undo 29 = .ok (.istore_n 1, 1) := by decide +kernel
theorem dX11_undo_30 : decode cX11_undo 30 = .ok (.iload_n 1, 1) := by decide +kernel
theorem dX11_undo_31 : decode cX11_undo 31 = .ok (.sipush 1294, 3) := by decide +kernel
theorem dX11_undo_34 : decode cX11_undo 34 = .ok (.if_icmp .ge 30, 3) := by decide +kernel
theorem dX11_undo_37 : decode cX11_undo 37 = .ok (.aload_n 0, 1) := by decide +kernel
theorem dX11_undo_38 : decode cX11_undo 38 = .ok (.getfield 9, 3) := by decide +kernel
theorem dX11_undo_41 : decode cX11_undo 41 = .ok (.iload_n 1, 1) := by decide +kernel
theorem dX11_undo_42 : decode cX11_undo 42 = .ok (.aload_n 0, 1) := by decide +kernel
theorem dX11_undo_43 : decode cX11_undo 43 = .ok (.getfield 13, 3) := by decide +kernel
theorem dX11_undo_46 : decode cX11_undo 46 = .ok (.sipush 1294, 3) := by decide +kernel
theorem dX11_undo_49 : decode cX11_undo 49 = .ok (.aload_n 0, 1) := by decide +kernel
theorem dX11_undo_50 : decode cX11_undo 50 = .ok (.getfield 86, 3) := by decide +kernel
theorem dX11_undo_53 : decode cX11_undo 53 = .ok (.imul, 1) := by decide +kernel
theorem dX11_undo_54 : decode cX11_undo 54 = .ok (.iload_n 1, 1) := by decide +kernel
theorem dX11_undo_55 : decode cX11_undo 55 = .ok (.iadd, 1) := by decide +kernel
theorem dX11_undo_56 : decode cX11_undo 56 = .ok (.iaload, 1) := by decide +kernel
theorem dX11_undo_57 : decode cX11_undo 57 = .ok (.iastore, 1) := by decide +kernel
theorem dX11_undo_58 : decode cX11_undo 58 = .ok (.iinc 1 1, 3) := by decide +kernel
theorem dX11_undo_61 : decode cX11_undo 61 = .ok (.goto (-31), 3) := by decide +kernel
theorem dX11_undo_64 : decode cX11_undo 64 = .ok (.aload_n 0, 1) := by decide +kernel
theorem dX11_undo_65 : decode cX11_undo 65 = .ok (.iconst (-1), 1) := by decide +kernel
theorem dX11_undo_66 : decode cX11_undo 66 = .ok (.putfield 35, 3) := by decide +kernel
theorem dX11_undo_69 : decode cX11_undo 69 = .ok (.aload_n 0, 1) := by decide +kernel
theorem dX11_undo_70 : decode cX11_undo 70 = .ok (.getfield 86, 3) := by decide +kernel
theorem dX11_undo_73 : decode cX11_undo 73 = .ok (.ireturn, 1) := by decide +kernel
theorem dX11_save_0 : decode cX11_save 0 = .ok (.aload_n 0, 1) := by decide +kernel
theorem dX11_save_1 : decode cX11_save 1 = .ok (.iconst 0, 1) := by decide +kernel
theorem dX11_save_2 : decode cX11_save 2 = .ok (.putfield 80, 3) := by decide +kernel
theorem dX11_save_5 : decode cX11_save 5 = .ok (.aload_n 0, 1) := by decide +kernel
theorem dX11_save_6 : decode cX11_save 6 = .ok (.iconst 1, 1) := by decide +kernel
theorem dX11_save_7 : decode cX11_save 7 = .ok (.putfield 335, 3) := by decide +kernel
theorem dX11_save_10 : decode cX11_save 10 = .ok (.iconst 0, 1) := by decide +kernel
theorem dX11_save_11 : decode cX11_save 11 = .ok (.istore_n 1, 1) := by decide +kernel
theorem dX11_save_12 : decode cX11_save 12 = .ok (.iload_n 1, 1) := by decide +kernel
theorem dX11_save_13 : decode cX11_save 13 = .ok (.sipush 1294, 3) := by decide +kernel
theorem dX11_save_16 : decode cX11_save 16 = .ok (.if_icmp .ge 21, 3) := by decide +kernel
theorem dX11_save_19 : decode cX11_save 19 = .ok (.aload_n 0, 1) := by decide +kernel
theorem dX11_save_20 : decode cX11_save 20 = .ok (.getfield 16, 3) := by decide +kernel
theorem dX11_save_23 : decode cX11_save 23 = .ok (.iload_n 1, 1) := by decide +kernel
theorem dX11_save_24 : decode cX11_save 24 = .ok (.aload_n 0, 1) := by decide +kernel
theorem dX11_save_25 : decode cX11_save 25 = .ok (.getfield 9, 3) := by decide +kernel
theorem dX11_save_28 : decode cX11_save 28 = .ok (.iload_n 1, 1) := by decide +kernel
theorem dX11_save_29 : decode cX11_save 29 = .ok (.iaload, 1) := by decide +kernel
theorem dX11_save_30 : decode cX11_save 30 = .ok (.iastore, 1) := by decide +kernel
theorem dX11_save_31 : decode cX11_save 31 = .ok (.iinc 1 1, 3) := by decide +kernel
theorem dX11_save_34 : decode cX11_save 34 = .ok (.goto (-22), 3) := by decide +kernel
theorem dX11_save_37 : decode cX11_save 37 = .ok (.aload_n 0, 1) := by decide +kernel
theorem dX11_save_38 : decode cX11_save 38 = .ok (.getfield 9, 3) := by decide +kernel
theorem dX11_save_41 : decode cX11_save 41 = .ok (.iconst 0, 1) := by decide +kernel
theorem dX11_save_42 : decode cX11_save 42 = .ok (.iaload, 1) := by decide +kernel
theorem dX11_save_43 : decode cX11_save 43 = .ok (.ireturn, 1) := by decide +kernel
theorem dX11_restore_0 : decode cX11_restore 0 = .ok (.aload_n 0, 1) := by decide +kernel
theorem dX11_restore_1 : decode cX11_restore 1 = .ok (.iconst 0, 1) := by decide +kernel
theorem dX11_restore_2 : decode cX11_restore 2 = .ok (.putfield 80, 3) := by decide +kernel
theorem dX11_restore_5 : decode cX11_restore 5 = .ok (.aload_n 0, 1) := by decide +kernel
theorem dX11_restore_6 : decode cX11_restore 6 = .ok (.getfield 335, 3) := by decide +kernel
theorem dX11_restore_9 : decode cX11_restore 9 = .ok (.ifCond .ne 9, 3) := by decide +kernel
theorem dX11_restore_12 : decode cX11_restore 12 = .ok (.aload_n 0, 1) := by decide +kernel
theorem dX11_restore_13 : decode cX11_restore 13 = .ok (.iconst 1, 1) := by decide +kernel
theorem dX11_restore_14 : decode cX11_restore 14 = .ok (.invokevirtual 110, 3) := by decide +kernel
theorem dX11_restore_17 : decode cX11_restore 17 = .ok (.ireturn, 1) := by decide +kernel
theorem dX11_restore_18 : decode cX11_restore 18 = .ok (.iconst 0, 1) := by decide +kernel
theorem dX11_restore_19 : decode cX11_restore 19 = .ok (.istore_n 1, 1) := by decide +kernel
theorem dX11_restore_20 : decode cX11_restore 20 = .ok (.iload_n 1, 1) := by decide +kernel
theorem dX11_restore_21 : decode cX11_restore 21 = .ok (.sipush 1294, 3) := by decide +kernel
theorem dX11_restore_24 : decode cX11_restore 24 = .ok (.if_icmp .ge 21, 3) := by decide +kernel
theorem dX11_restore_27 : decode cX11_restore 27 = .ok (.aload_n 0, 1) := by decide +kernel
theorem dX11_restore_28 : decode cX11_restore 28 = .ok (.getfield 9, 3) := by decide +kernel
theorem dX11_restore_31 : decode cX11_restore 31 = .ok (.iload_n 1, 1) := by decide +kernel
theorem dX11_restore_32 : decode cX11_restore 32 = .ok (.aload_n 0, 1) := by decide +kernel
theorem dX11_restore_33 : decode cX11_restore 33 = .ok (.getfield 16, 3) := by decide +kernel
theorem dX11_restore_36 : decode cX11_restore 36 = .ok (.iload_n 1, 1) := by decide +kernel
theorem dX11_restore_37 : decode cX11_restore 37 = .ok (.iaload, 1) := by decide +kernel
theorem dX11_restore_38 : decode cX11_restore 38 = .ok (.iastore, 1) := by decide +kernel
theorem dX11_restore_39 : decode cX11_restore 39 = .ok (.iinc 1 1, 3) := by decide +kernel
theorem dX11_restore_42 : decode cX11_restore 42 = .ok (.goto (-22), 3) := by decide +kernel
theorem dX11_restore_45 : decode cX11_restore 45 = .ok (.aload_n 0, 1) := by decide +kernel
theorem dX11_restore_46 : decode cX11_restore 46 = .ok (.iconst 0, 1) := by decide +kernel
theorem dX11_restore_47 : decode cX11_restore 47 = .ok (.putfield 86, 3) := by decide +kernel
theorem dX11_restore_50 : decode cX11_restore 50 = .ok (.aload_n 0, 1) := by decide +kernel
theorem dX11_restore_51 : decode cX11_restore 51 = .ok (.iconst (-1), 1) := by decide +kernel
theorem dX11_restore_52 : decode cX11_restore 52 = .ok (.putfield 35, 3) := by decide +kernel
theorem dX11_restore_55 : decode cX11_restore 55 = .ok (.aload_n 0, 1) := by decide +kernel
theorem dX11_restore_56 : decode cX11_restore 56 = .ok (.getfield 9, 3) := by decide +kernel
theorem dX11_restore_59 : decode cX11_restore 59 = .ok (.iconst 0, 1) := by decide +kernel
theorem dX11_restore_60 : decode cX11_restore 60 = .ok (.iaload, 1) := by decide +kernel
theorem dX11_restore_61 : decode cX11_restore 61 = .ok (.ireturn, 1) := by decide +kernel
theorem dX11_count_0 : decode cX11_count 0 = .ok (.aload_n 0, 1) := by decide +kernel
theorem dX11_count_1 : decode cX11_count 1 = .ok (.iconst 0, 1) := by decide +kernel
theorem dX11_count_2 : decode cX11_count 2 = .ok (.putfield 80, 3) := by decide +kernel
theorem dX11_count_5 : decode cX11_count 5 = .ok (.iconst 0, 1) := by decide +kernel
theorem dX11_count_6 : decode cX11_count 6 = .ok (.istore_n 2, 1) := by decide +kernel
theorem dX11_count_7 : decode cX11_count 7 = .ok (.iload_n 1, 1) := by decide +kernel
theorem dX11_count_8 : decode cX11_count 8 = .ok (.tableswitch 117 0 5 #[40, 40, 47, 79, 107, 112], 40) := by decide +kernel
theorem dX11_count_48 : decode cX11_count 48 = .ok (.aload_n 0, 1) := by decide +kernel
theorem dX11_count_49 : decode cX11_count 49 = .ok (.getfield 9, 3) := by decide +kernel
theorem dX11_count_52 : decode cX11_count 52 = .ok (.iload_n 1, 1) := by decide +kernel
theorem dX11_count_53 : decode cX11_count 53 = .ok (.iaload, 1) := by decide +kernel
theorem dX11_count_54 : decode cX11_count 54 = .ok (.ireturn, 1) := by decide +kernel
theorem dX11_count_55 : decode cX11_count 55 = .ok (.iconst 0, 1) := by decide +kernel
theorem dX11_count_56 : decode cX11_count 56 = .ok (.istore_n 3, 1) := by decide +kernel
theorem dX11_count_57 : decode cX11_count 57 = .ok (.iload_n 3, 1) := by decide +kernel
theorem dX11_count_58 : decode cX11_count 58 = .ok (.aload_n 0, 1) := by decide +kernel
theorem dX11_count_59 : decode cX11_count 59 = .ok (.getfield 9, 3) := by decide +kernel
theorem dX11_count_62 : decode cX11_count 62 = .ok (.iconst 1, 1) := by decide +kernel
theorem dX11_count_63 : decode cX11_count 63 = .ok (.iaload, 1) := by decide +kernel
theorem dX11_count_64 : decode cX11_count 64 = .ok (.if_icmp .ge 21, 3) := by decide +kernel
theorem dX11_count_67 : decode cX11_count 67 = .ok (.aload_n 0, 1) := by decide +kernel
theorem dX11_count_68 : decode cX11_count 68 = .ok (.iload_n 3, 1) := by decide +kernel
theorem dX11_count_69 : decode cX11_count 69 = .ok (.invokevirtual 241, 3) := by decide +kernel
theorem dX11_count_72 : decode cX11_count 72 = .ok (.iload_n 2, 1) := by decide +kernel
theorem dX11_count_73 : decode cX11_count 73 = .ok (.aload_n 0, 1) := by decide +kernel
theorem dX11_count_74 : decode cX11_count 74 = .ok (.getfield 244, 3) := by decide +kernel
theorem dX11_count_77 : decode cX11_count 77 = .ok (.iadd, 1) := by decide +kernel
theorem dX11_count_78 : decode cX11_count 78 = .ok (.istore_n 2, 1) := by decide +kernel
theorem dX11_count_79 : decode cX11_count 79 = .ok (.iinc 3 1, 3) := by decide +kernel
theorem dX11_count_82 : decode cX11_count 82 = .ok (.goto (-25), 3) := by decide +kernel
theorem dX11_count_85 : decode cX11_count 85 = .ok (.iload_n 2, 1) := by decide +kernel
theorem dX11_count_86 : decode cX11_count 86 = .ok (.ireturn, 1) := by decide +kernel
theorem dX11_count_87 : decode cX11_count 87 = .ok (.iconst 0, 1) := by decide +kernel
theorem dX11_count_88 : decode cX11_count 88 = .ok (.istore_n 3, 1) := by decide +kernel
theorem dX11_count_89 : decode cX11_count 89 = .ok (.iload_n 3, 1) := by decide +kernel
theorem dX11_count_90 : decode cX11_count 90 = .ok (.aload_n 0, 1) := by decide +kernel
theorem dX11_count_91 : decode cX11_count 91 = .ok (.getfield 9, 3) := by decide +kernel
theorem dX11_count_94 : decode cX11_count 94 = .ok (.iconst 1, 1) := by decide +kernel
theorem dX11_count_95 : decode cX11_count 95 = .ok (.iaload, 1) := by decide +kernel
theorem dX11_count_96 : decode cX11_count 96 = .ok (.if_icmp .ge 17, 3) := by decide +kernel
theorem dX11_count_99 : decode cX11_count 99 = .ok (.iload_n 2, 1) := by decide +kernel
theorem dX11_count_100 : decode cX11_count 100 = .ok (.aload_n 0, 1) := by decide +kernel
theorem dX11_count_101 : decode cX11_count 101 = .ok (.iload_n 3, 1) := by decide +kernel
theorem dX11_count_102 : decode cX11_count 102 = .ok (.invokevirtual 265, 3) := by decide +kernel
theorem dX11_count_105 : decode cX11_count 105 = .ok (.iadd, 1) := by decide +kernel
theorem dX11_count_106 : decode cX11_count 106 = .ok (.istore_n 2, 1) := by decide +kernel
theorem dX11_count_107 : decode cX11_count 107 = .ok (.iinc 3 1, 3) := by decide +kernel
theorem dX11_count_110 : decode cX11_count 110 = .ok (.goto (-21), 3) := by decide +kernel
theorem dX11_count_113 : decode cX11_count 113 = .ok (.iload_n 2, 1) := by decide +kernel
theorem dX11_count_114 : decode cX11_count 114 = .ok (.ireturn, 1) := by decide +kernel
theorem dX11_count_115 : decode cX11_count 115 = .ok (.aload_n 0, 1) := by decide +kernel
theorem dX11_count_116 : decode cX11_count 116 = .ok (.getfield 86, 3) := by decide +kernel
theorem dX11_count_119 : decode cX11_count 119 = .ok (.ireturn, 1) := by decide +kernel
theorem dX11_count_120 : decode cX11_count 120 = .ok (.aload_n 0, 1) := by decide +kernel
theorem dX11_count_121 : decode cX11_count 121 = .ok (.getfield 283, 3) := by decide +kernel
theorem dX11_count_124 : decode cX11_count 124 = .ok (.ireturn, 1) := by decide +kernel
theorem dX11_count_125 : decode cX11_count 125 = .ok (.aload_n 0, 1) := by decide +kernel
theorem dX11_count_126 : decode cX11_count 126 = .ok (.iconst 1, 1) := by decide +kernel
theorem dX11_count_127 : decode cX11_count 127 = .ok (.invokevirtual 110, 3) := by decide +kernel
theorem dX11_count_130 : decode cX11_count 130 = .ok (.ireturn, 1) := by decide +kernel
theorem dJ9_floorMod_7cf53_0 : decode cJ9_floorMod_7cf53 0 = .ok (.iload_n 0, 1) := by decide +kernel
theorem dJ9_floorMod_7cf53_1 : decode cJ9_floorMod_7cf53 1 = .ok (.iload_n 1, 1) := by decide +kernel
theorem dJ9_floorMod_7cf53_2 : decode cJ9_floorMod_7cf53 2 = .ok (.irem, 1) := by decide +kernel
theorem dJ9_floorMod_7cf53_3 : decode cJ9_floorMod_7cf53 3 = .ok (.istore_n 2, 1) := by decide +kernel
theorem dJ9_floorMod_7cf53_4 : decode cJ9_floorMod_7cf53 4 = .ok (.iload_n 0, 1) := by decide +kernel
theorem dJ9_floorMod_7cf53_5 : decode cJ9_floorMod_7cf53 5 = .ok (.iload_n 1, 1) := by decide +kernel
theorem dJ9_floorMod_7cf53_6 : decode cJ9_floorMod_7cf53 6 = .ok (.ixor, 1) := by decide +kernel
theorem dJ9_floorMod_7cf53_7 : decode cJ9_floorMod_7cf53 7 = .ok (.ifCond .ge 11, 3) := by decide +kernel
theorem dJ9_floorMod_7cf53_10 : decode cJ9_floorMod_7cf53 10 = .ok (.iload_n 2, 1) := by decide +kernel
theorem dJ9_floorMod_7cf53_11 : decode cJ9_floorMod_7cf53 11 = .ok (.ifCond .eq 7, 3) := by decide +kernel
theorem dJ9_floorMod_7cf53_14 : decode cJ9_floorMod_7cf53 14 = .ok (.iload_n 2, 1) := by decide +kernel
theorem dJ9_floorMod_7cf53_15 : decode cJ9_floorMod_7cf53 15 = .ok (.iload_n 1, 1) := by decide +kernel
theorem dJ9_floorMod_7cf53_16 : decode cJ9_floorMod_7cf53 16 = .ok (.iadd, 1) := by decide +kernel
theorem dJ9_floorMod_7cf53_17 : decode cJ9_floorMod_7cf53 17 = .ok (.ireturn, 1) := by decide +kernel
theorem dJ9_floorMod_7cf53_18 : decode cJ9_floorMod_7cf53 18 = .ok (.iload_n 2, 1) := by decide +kernel
theorem dJ9_floorMod_7cf53_19 : decode cJ9_floorMod_7cf53 19 = .ok (.ireturn, 1) := by decide +kernel
theorem dJ9_max_7cf53_0 : decode cJ9_max_7cf53 0 = .ok (.iload_n 0, 1) := by decide +kernel
theorem dJ9_max_7cf53_1 : decode cJ9_max_7cf53 1 = .ok (.iload_n 1, 1) := by decide +kernel
theorem dJ9_max_7cf53_2 : decode cJ9_max_7cf53 2 = .ok (.if_icmp .lt 7, 3) := by decide +kernel
theorem dJ9_max_7cf53_5 : decode cJ9_max_7cf53 5 = .ok (.iload_n 0, 1) := by decide +kernel
theorem dJ9_max_7cf53_6 : decode cJ9_max_7cf53 6 = .ok (.goto 4, 3) := by decide +kernel
theorem dJ9_max_7cf53_9 : decode cJ9_max_7cf53 9 = .ok (.iload_n 1, 1) := by decide +kernel
theorem dJ9_max_7cf53_10 : decode cJ9_max_7cf53 10 = .ok (.ireturn, 1) := by decide +kernel
theorem dJ9_min_7cf53_0 : decode cJ9_min_7cf53 0 = .ok (.iload_n 0, 1) := by decide +kernel
theorem dJ9_min_7cf53_1 : decode cJ9_min_7cf53 1 = .ok (.iload_n 1, 1) := by decide +kernel
theorem dJ9_min_7cf53_2 : decode cJ9_min_7cf53 2 = .ok (.if_icmp .gt 7, 3) := by decide +kernel
theorem dJ9_min_7cf53_5 : decode cJ9_min_7cf53 5 = .ok (.iload_n 0, 1) := by decide +kernel
theorem dJ9_min_7cf53_6 : decode cJ9_min_7cf53 6 = .ok (.goto 4, 3) := by decide +kernel
theorem dJ9_min_7cf53_9 : decode cJ9_min_7cf53 9 = .ok (.iload_n 1, 1) := by decide +kernel
theorem dJ9_min_7cf53_10 : decode cJ9_min_7cf53 10 = .ok (.ireturn, 1) := by decide +kernel
theorem dJ0_length_8abf5_0 : decode cJ0_length_8abf5 0 = .ok (.aload_n 0, 1) := by decide +kernel
theorem dJ0_length_8abf5_1 : decode cJ0_length_8abf5 1 = .ok (.getfield 9, 3) := by decide +kernel
theorem dJ0_length_8abf5_4 : decode cJ0_length_8abf5 4 = .ok (.arraylength, 1) := by decide +kernel
theorem dJ0_length_8abf5_5 : decode cJ0_length_8abf5 5 = .ok (.aload_n 0, 1) := by decide +kernel
theorem dJ0_length_8abf5_6 : decode cJ0_length_8abf5 6 = .ok (.invokevirtual 335, 3) := by decide +kernel
theorem dJ0_length_8abf5_9 : decode cJ0_length_8abf5 9 = .ok (.ishr, 1) := by decide +kernel
theorem dJ0_length_8abf5_10 : decode cJ0_length_8abf5 10 = .ok (.ireturn, 1) := by decide +kernel
theorem dJ0_charAt_5068e_0 : decode cJ0_charAt_5068e 0 = .ok (.aload_n 0, 1) := by decide +kernel
theorem dJ0_charAt_5068e_1 : decode cJ0_charAt_5068e 1 = .ok (.invokevirtual 492, 3) := by decide +kernel
theorem dJ0_charAt_5068e_4 : decode cJ0_charAt_5068e 4 = .ok (.ifCond .eq 12, 3) := by decide +kernel
theorem dJ0_charAt_5068e_7 : decode cJ0_charAt_5068e 7 = .ok (.aload_n 0, 1) := by decide +kernel
theorem dJ0_charAt_5068e_8 : decode cJ0_charAt_5068e 8 = .ok (.getfield 9, 3) := by decide +kernel
theorem dJ0_charAt_5068e_11 : decode cJ0_charAt_5068e 11 = .ok (.iload_n 1, 1) := by decide +kernel
theorem dJ0_charAt_5068e_12 : decode cJ0_charAt_5068e 12 = .ok (.invokestatic 495, 3) := by decide +kernel
theorem dJ0_charAt_5068e_15 : decode cJ0_charAt_5068e 15 = .ok (.ireturn, 1) := by decide +kernel
theorem dJ0_charAt_5068e_16 : decode cJ0_charAt_5068e 16 = .ok (.aload_n 0, 1) := by decide +kernel
theorem dJ0_charAt_5068e_17 : decode cJ0_charAt_5068e 17 = .ok (.getfield 9, 3) := by decide +kernel
theorem dJ0_charAt_5068e_20 : decode cJ0_charAt_5068e 20 = .ok (.iload_n 1, 1) := by decide +kernel
theorem dJ0_charAt_5068e_21 : decode cJ0_charAt_5068e 21 = .ok (.invokestatic 498, 3) := by decide +kernel
theorem dJ0_charAt_5068e_24 : decode cJ0_charAt_5068e 24 = .ok (.ireturn, 1) := by decide +kernel
theorem dJ0_coder_7d493_0 : decode cJ0_coder_7d493 0 = .ok (.getstatic 38, 3) := by decide +kernel
theorem dJ0_coder_7d493_3 : decode cJ0_coder_7d493 3 = .ok (.ifCond .eq 10, 3) := by decide +kernel
theorem dJ0_coder_7d493_6 : decode cJ0_coder_7d493 6 = .ok (.aload_n 0, 1) := by decide +kernel
theorem dJ0_coder_7d493_7 : decode cJ0_coder_7d493 7 = .ok (.getfield 15, 3) := by decide +kernel
theorem dJ0_coder_7d493_10 : decode cJ0_coder_7d493 10 = .ok (.goto 4, 3) := by decide +kernel
theorem dJ0_coder_7d493_13 : decode cJ0_coder_7d493 13 = .ok (.iconst 1, 1) := by decide +kernel
theorem dJ0_coder_7d493_14 : decode cJ0_coder_7d493 14 = .ok (.ireturn, 1) := by decide +kernel
theorem dJ0_isLatin1_aae02_0 : decode cJ0_isLatin1_aae02 0 = .ok (.getstatic 38, 3) := by decide +kernel
theorem dJ0_isLatin1_aae02_3 : decode cJ0_isLatin1_aae02 3 = .ok (.ifCond .eq 14, 3) := by decide +kernel
theorem dJ0_isLatin1_aae02_6 : decode cJ0_isLatin1_aae02 6 = .ok (.aload_n 0, 1) := by decide +kernel
theorem dJ0_isLatin1_aae02_7 : decode cJ0_isLatin1_aae02 7 = .ok (.getfield 15, 3) := by decide +kernel
theorem dJ0_isLatin1_aae02_10 : decode cJ0_isLatin1_aae02 10 = .ok (.ifCond .ne 7, 3) := by decide +kernel
theorem dJ0_isLatin1_aae02_13 : decode cJ0_isLatin1_aae02 13 = .ok (.iconst 1, 1) := by decide +kernel
theorem dJ0_isLatin1_aae02_14 : decode cJ0_isLatin1_aae02 14 = .ok (.goto 4, 3) := by decide +kernel
theorem dJ0_isLatin1_aae02_17 : decode cJ0_isLatin1_aae02 17 = .ok (.iconst 0, 1) := by decide +kernel
theorem dJ0_isLatin1_aae02_18 : decode cJ0_isLatin1_aae02 18 = .ok (.ireturn, 1) := by decide +kernel
theorem dJ0_checkIndex_df160_0 : decode cJ0_checkIndex_df160 0 = .ok (.iload_n 0, 1) := by decide +kernel
theorem dJ0_checkIndex_df160_1 : decode cJ0_checkIndex_df160 1 = .ok (.iload_n 1, 1) := by decide +kernel
theorem dJ0_checkIndex_df160_2 : decode cJ0_checkIndex_df160 2 = .ok (.getstatic 1053, 3) := by decide +kernel
theorem dJ0_checkIndex_df160_5 : decode cJ0_checkIndex_df160 5 = .ok (.invokestatic 1059, 3) := by decide +kernel
theorem dJ0_checkIndex_df160_8 : decode cJ0_checkIndex_df160 8 = .ok (.pop, 1) := by decide +kernel
theorem dJ0_checkIndex_df160_9 : decode cJ0_checkIndex_df160 9 = .ok (.return_, 1) := by decide +kernel
theorem dJ1_charAt_3b067_0 : decode cJ1_charAt_3b067 0 = .ok (.iload_n 1, 1) := by decide +kernel
theorem dJ1_charAt_3b067_1 : decode cJ1_charAt_3b067 1 = .ok (.aload_n 0, 1) := by decide +kernel
theorem dJ1_charAt_3b067_2 : decode cJ1_charAt_3b067 2 = .ok (.arraylength, 1) := by decide +kernel
theorem dJ1_charAt_3b067_3 : decode cJ1_charAt_3b067 3 = .ok (.invokestatic 9, 3) := by decide +kernel
theorem dJ1_charAt_3b067_6 : decode cJ1_charAt_3b067 6 = .ok (.aload_n 0, 1) := by decide +kernel
theorem dJ1_charAt_3b067_7 : decode cJ1_charAt_3b067 7 = .ok (.iload_n 1, 1) := by decide +kernel
theorem dJ1_charAt_3b067_8 : decode cJ1_charAt_3b067 8 = .ok (.baload, 1) := by decide +kernel
theorem dJ1_charAt_3b067_9 : decode cJ1_charAt_3b067 9 = .ok (.sipush 255, 3) := by decide +kernel
theorem dJ1_charAt_3b067_12 : decode cJ1_charAt_3b067 12 = .ok (.iand, 1) := by decide +kernel
theorem dJ1_charAt_3b067_13 : decode cJ1_charAt_3b067 13 = .ok (.i2c, 1) := by decide +kernel
theorem dJ1_charAt_3b067_14 : decode cJ1_charAt_3b067 14 = .ok (.ireturn, 1) := by decide +kernel
theorem dJ2_getChar_3b067_0 : decode cJ2_getChar_3b067 0 = .ok (.getstatic 44, 3) := by decide +kernel
theorem dJ2_getChar_3b067_3 : decode cJ2_getChar_3b067 3 = .ok (.ifCond .ne 25, 3) := by decide +kernel
theorem dJ2_getChar_3b067_6 : decode cJ2_getChar_3b067 6 = .ok (.iload_n 1, 1) := by decide +kernel
theorem dJ2_getChar_3b067_7 : decode cJ2_getChar_3b067 7 = .ok (.ifCond .lt 11, 3) := by decide +kernel
theorem dJ2_getChar_3b067_10 : decode cJ2_getChar_3b067 10 = .ok (.iload_n 1, 1) := by decide +kernel
theorem dJ2_getChar_3b067_11 : decode cJ2_getChar_3b067 11 = .ok (.aload_n 0, 1) := by decide +kernel
theorem dJ2_getChar_3b067_12 : decode cJ2_getChar_3b067 12 = .ok (.invokestatic 48, 3) := by decide +kernel
theorem dJ2_getChar_3b067_15 : decode cJ2_getChar_3b067 15 = .ok (.if_icmp .lt 13, 3) := by decide +kernel
theorem dJ2_getChar_3b067_18 : decode cJ2_getChar_3b067 18 = .ok (.new 52, 3) := by decide +kernel
theorem dJ2_getChar_3b067_21 : decode cJ2_getChar_3b067 21 = .ok (.dup, 1) := by decide +kernel
theorem dJ2_getChar_3b067_22 : decode cJ2_getChar_3b067 22 = .ok (.ldc 54, 2) := by decide +kernel
theorem dJ2_getChar_3b067_24 : decode cJ2_getChar_3b067 24 = .ok (.invokespecial 56, 3) := by decide +kernel
theorem dJ2_getChar_3b067_27 : decode cJ2_getChar_3b067 27 = .ok (.athrow, 1) := by decide +kernel
theorem dJ2_getChar_3b067_28 : decode cJ2_getChar_3b067 28 = .ok (.iload_n 1, 1) := by decide +kernel
theorem dJ2_getChar_3b067_29 : decode cJ2_getChar_3b067 29 = .ok (.iconst 1, 1) := by decide +kernel
theorem dJ2_getChar_3b067_30 : decode cJ2_getChar_3b067 30 = .ok (.ishl, 1) := by decide +kernel
theorem dJ2_getChar_3b067_31 : decode cJ2_getChar_3b067 31 = .ok (.istore_n 1, 1) := by decide +kernel
theorem dJ2_getChar_3b067_32 : decode cJ2_getChar_3b067 32 = .ok (.aload_n 0, 1) := by decide +kernel
theorem dJ2_getChar_3b067_33 : decode cJ2_getChar_3b067 33 = .ok (.iload_n 1, 1) := by decide +kernel
theorem dJ2_getChar_3b067_34 : decode cJ2_getChar_3b067 34 = .ok (.iinc 1 1, 3) := by decide +kernel
theorem dJ2_getChar_3b067_37 : decode cJ2_getChar_3b067 37 = .ok (.baload, 1) := by decide +kernel
theorem dJ2_getChar_3b067_38 : decode cJ2_getChar_3b067 38 = .ok (.sipush 255, 3) := by decide +kernel
theorem dJ2_getChar_3b067_41 : decode cJ2_getChar_3b067 41 = .ok (.iand, 1) := by decide +kernel
theorem dJ2_getChar_3b067_42 : decode cJ2_getChar_3b067 42 = .ok (.getstatic 59, 3) := by decide +kernel
theorem dJ2_getChar_3b067_45 : decode cJ2_getChar_3b067 45 = .ok (.ishl, 1) := by decide +kernel
theorem dJ2_getChar_3b067_46 : decode cJ2_getChar_3b067 46 = .ok (.aload_n 0, 1) := by decide +kernel
theorem dJ2_getChar_3b067_47 : decode cJ2_getChar_3b067 47 = .ok (.iload_n 1, 1) := by decide +kernel
theorem dJ2_getChar_3b067_48 : decode cJ2_getChar_3b067 48 = .ok (.baload, 1) := by decide +kernel
theorem dJ2_getChar_3b067_49 : decode cJ2_getChar_3b067 49 = .ok (.sipush 255, 3) := by decide +kernel
theorem dJ2_getChar_3b067_52 : decode cJ2_getChar_3b067 52 = .ok (.iand, 1) := by decide +kernel
theorem dJ2_getChar_3b067_53 : decode cJ2_getChar_3b067 53 = .ok (.getstatic 63, 3) := by decide +kernel
theorem dJ2_getChar_3b067_56 : decode cJ2_getChar_3b067 56 = .ok (.ishl, 1) := by decide +kernel
theorem dJ2_getChar_3b067_57 : decode cJ2_getChar_3b067 57 = .ok (.ior, 1) := by decide +kernel
theorem dJ2_getChar_3b067_58 : decode cJ2_getChar_3b067 58 = .ok (.i2c, 1) := by decide +kernel
theorem dJ2_getChar_3b067_59 : decode cJ2_getChar_3b067 59 = .ok (.ireturn, 1) := by decide +kernel
theorem dJ2_length_9d52b_0 : decode cJ2_length_9d52b 0 = .ok (.aload_n 0, 1) := by decide +kernel
theorem dJ2_length_9d52b_1 : decode cJ2_length_9d52b 1 = .ok (.arraylength, 1) := by decide +kernel
theorem dJ2_length_9d52b_2 : decode cJ2_length_9d52b 2 = .ok (.iconst 1, 1) := by decide +kernel
theorem dJ2_length_9d52b_3 : decode cJ2_length_9d52b 3 = .ok (.ishr, 1) := by decide +kernel
theorem dJ2_length_9d52b_4 : decode cJ2_length_9d52b 4 = .ok (.ireturn, 1) := by decide +kernel
theorem dJ2_charAt_3b067_0 : decode cJ2_charAt_3b067 0 = .ok (.iload_n 1, 1) := by decide +kernel
theorem dJ2_charAt_3b067_1 : decode cJ2_charAt_3b067 1 = .ok (.aload_n 0, 1) := by decide +kernel
theorem dJ2_charAt_3b067_2 : decode cJ2_charAt_3b067 2 = .ok (.invokestatic 67, 3) := by decide +kernel
theorem dJ2_charAt_3b067_5 : decode cJ2_charAt_3b067 5 = .ok (.aload_n 0, 1) := by decide +kernel
theorem dJ2_charAt_3b067_6 : decode cJ2_charAt_3b067 6 = .ok (.iload_n 1, 1) := by decide +kernel
theorem dJ2_charAt_3b067_7 : decode cJ2_charAt_3b067 7 = .ok (.invokestatic 71, 3) := by decide +kernel
theorem dJ2_charAt_3b067_10 : decode cJ2_charAt_3b067 10 = .ok (.ireturn, 1) := by decide +kernel
theorem dJ2_checkIndex_2214a_0 : decode cJ2_checkIndex_2214a 0 = .ok (.iload_n 0, 1) := by decide +kernel
theorem dJ2_checkIndex_2214a_1 : decode cJ2_checkIndex_2214a 1 = .ok (.aload_n 1, 1) := by decide +kernel
theorem dJ2_checkIndex_2214a_2 : decode cJ2_checkIndex_2214a 2 = .ok (.invokestatic 48, 3) := by decide +kernel
theorem dJ2_checkIndex_2214a_5 : decode cJ2_checkIndex_2214a 5 = .ok (.invokestatic 414, 3) := by decide +kernel
theorem dJ2_checkIndex_2214a_8 : decode cJ2_checkIndex_2214a 8 = .ok (.return_, 1) := by decide +kernel
theorem dJ3_checkIndex_8e157_0 : decode cJ3_checkIndex_8e157 0 = .ok (.iload_n 0, 1) := by decide +kernel
theorem dJ3_checkIndex_8e157_1 : decode cJ3_checkIndex_8e157 1 = .ok (.ifCond .lt 8, 3) := by decide +kernel
theorem dJ3_checkIndex_8e157_4 : decode cJ3_checkIndex_8e157 4 = .ok (.iload_n 0, 1) := by decide +kernel
theorem dJ3_checkIndex_8e157_5 : decode cJ3_checkIndex_8e157 5 = .ok (.iload_n 1, 1) := by decide +kernel
theorem dJ3_checkIndex_8e157_6 : decode cJ3_checkIndex_8e157 6 = .ok (.if_icmp .lt 10, 3) := by decide +kernel
theorem dJ3_checkIndex_8e157_9 : decode cJ3_checkIndex_8e157 9 = .ok (.aload_n 2, 1) := by decide +kernel
theorem dJ3_checkIndex_8e157_10 : decode cJ3_checkIndex_8e157 10 = .ok (.iload_n 0, 1) := by decide +kernel
theorem dJ3_checkIndex_8e157_11 : decode cJ3_checkIndex_8e157 11 = .ok (.iload_n 1, 1) := by decide +kernel
theorem dJ3_checkIndex_8e157_12 : decode cJ3_checkIndex_8e157 12 = .ok (.invokestatic 95, 3) := by decide +kernel
theorem dJ3_checkIndex_8e157_15 : decode cJ3_checkIndex_8e157 15 = .ok (.athrow, 1) := by decide +kernel
theorem dJ3_checkIndex_8e157_16 : decode cJ3_checkIndex_8e157 16 = .ok (.iload_n 0, 1) := by decide +kernel
theorem dJ3_checkIndex_8e157_17 : decode cJ3_checkIndex_8e157 17 = .ok (.ireturn, 1) := by decide +kernel
