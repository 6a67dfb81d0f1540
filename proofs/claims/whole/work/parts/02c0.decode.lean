theorem dX0_init_0 : decode cX0_init 0 = .ok (.aload_n 0, 1) := by decide +kernel
theorem dX0_init_1 : decode cX0_init 1 = .ok (.invokespecial 3, 3) := by decide +kernel
theorem dX0_init_4 : decode cX0_init 4 = .ok (.aload_n 0, 1) := by decide +kernel
theorem dX0_init_5 : decode cX0_init 5 = .ok (.bipush 6, 2) := by decide +kernel
theorem dX0_init_7 : decode cX0_init 7 = .ok (.anewarray 9, 3) := by decide +kernel
theorem dX0_init_10 : decode cX0_init 10 = .ok (.putfield 11, 3) := by decide +kernel
theorem dX0_init_13 : decode cX0_init 13 = .ok (.aload_n 0, 1) := by decide +kernel
theorem dX0_init_14 : decode cX0_init 14 = .ok (.bipush 10, 2) := by decide +kernel
theorem dX0_init_16 : decode cX0_init 16 = .ok (.anewarray 17, 3) := by decide +kernel
theorem dX0_init_19 : decode cX0_init 19 = .ok (.putfield 19, 3) := by decide +kernel
theorem dX0_init_22 : decode cX0_init 22 = .ok (.iconst 0, 1) := by decide +kernel
theorem dX0_init_23 : decode cX0_init 23 = .ok (.istore_n 1, 1) := by decide +kernel
theorem dX0_init_24 : decode cX0_init 24 = .ok (.iload_n 1, 1) := by decide +kernel
theorem dX0_init_25 : decode cX0_init 25 = .ok (.bipush 6, 2) := by decide +kernel
theorem dX0_init_27 : decode cX0_init 27 = .ok (.if_icmp .ge 22, 3) := by decide +kernel
theorem dX0_init_30 : decode cX0_init 30 = .ok (.aload_n 0, 1) := by decide +kernel
theorem dX0_init_31 : decode cX0_init 31 = .ok (.getfield 11, 3) := by decide +kernel
theorem dX0_init_34 : decode cX0_init 34 = .ok (.iload_n 1, 1) := by decide +kernel
theorem dX0_init_35 : decode cX0_init 35 = .ok (.new 9, 3) := by decide +kernel
theorem dX0_init_38 : decode cX0_init 38 = .ok (.dup, 1) := by decide +kernel
theorem dX0_init_39 : decode cX0_init 39 = .ok (.invokespecial 23, 3) := by decide +kernel
theorem dX0_init_42 : decode cX0_init 42 = .ok (.aastore, 1) := by decide +kernel
theorem dX0_init_43 : decode cX0_init 43 = .ok (.iinc 1 1, 3) := by decide +kernel
theorem dX0_init_46 : decode cX0_init 46 = .ok (.goto (-22), 3) := by decide +kernel
theorem dX0_init_49 : decode cX0_init 49 = .ok (.iconst 0, 1) := by decide +kernel
theorem dX0_init_50 : decode cX0_init 50 = .ok (.istore_n 1, 1) := by decide +kernel
theorem dX0_init_51 : decode cX0_init 51 = .ok (.iload_n 1, 1) := by decide +kernel
theorem dX0_init_52 : decode cX0_init 52 = .ok (.bipush 10, 2) := by decide +kernel
theorem dX0_init_54 : decode cX0_init 54 = .ok (.if_icmp .ge 22, 3) := by decide +kernel
theorem dX0_init_57 : decode cX0_init 57 = .ok (.aload_n 0, 1) := by decide +kernel
theorem dX0_init_58 : decode cX0_init 58 = .ok (.getfield 19, 3) := by decide +kernel
theorem dX0_init_61 : decode cX0_init 61 = .ok (.iload_n 1, 1) := by decide +kernel
theorem dX0_init_62 : decode cX0_init 62 = .ok (.new 17, 3) := by decide +kernel
theorem dX0_init_65 : decode cX0_init 65 = .ok (.dup, 1) := by decide +kernel
theorem dX0_init_66 : decode cX0_init 66 = .ok (.invokespecial 24, 3) := by decide +kernel
theorem dX0_init_69 : decode cX0_init 69 = .ok (.aastore, 1) := by decide +kernel
theorem dX0_init_70 : decode cX0_init 70 = .ok (.iinc 1 1, 3) := by decide +kernel
theorem dX0_init_73 : decode cX0_init 73 = .ok (.goto (-22), 3) := by decide +kernel
theorem dX0_init_76 : decode cX0_init 76 = .ok (.return_, 1) := by decide +kernel
theorem dX0_copyFrom_0 : decode cX0_copyFrom 0 = .ok (.aload_n 0, 1) := by decide +kernel
theorem dX0_copyFrom_1 : decode cX0_copyFrom 1 = .ok (.aload_n 1, 1) := by decide +kernel
theorem dX0_copyFrom_2 : decode cX0_copyFrom 2 = .ok (.getfield 25, 3) := by decide +kernel
theorem dX0_copyFrom_5 : decode cX0_copyFrom 5 = .ok (.putfield 25, 3) := by decide +kernel
theorem dX0_copyFrom_8 : decode cX0_copyFrom 8 = .ok (.aload_n 0, 1) := by decide +kernel
theorem dX0_copyFrom_9 : decode cX0_copyFrom 9 = .ok (.aload_n 1, 1) := by decide +kernel
theorem dX0_copyFrom_10 : decode cX0_copyFrom 10 = .ok (.getfield 29, 3) := by decide +kernel
theorem dX0_copyFrom_13 : decode cX0_copyFrom 13 = .ok (.putfield 29, 3) := by decide +kernel
theorem dX0_copyFrom_16 : decode cX0_copyFrom 16 = .ok (.iconst 0, 1) := by decide +kernel
theorem dX0_copyFrom_17 : decode cX0_copyFrom 17 = .ok (.istore_n 2, 1) := by decide +kernel
theorem dX0_copyFrom_18 : decode cX0_copyFrom 18 = .ok (.iload_n 2, 1) := by decide +kernel
theorem dX0_copyFrom_19 : decode cX0_copyFrom 19 = .ok (.aload_n 0, 1) := by decide +kernel
theorem dX0_copyFrom_20 : decode cX0_copyFrom 20 = .ok (.getfield 25, 3) := by decide +kernel
theorem dX0_copyFrom_23 : decode cX0_copyFrom 23 = .ok (.if_icmp .ge 24, 3) := by decide +kernel
theorem dX0_copyFrom_26 : decode cX0_copyFrom 26 = .ok (.aload_n 0, 1) := by decide +kernel
theorem dX0_copyFrom_27 : decode cX0_copyFrom 27 = .ok (.getfield 11, 3) := by decide +kernel
theorem dX0_copyFrom_30 : decode cX0_copyFrom 30 = .ok (.iload_n 2, 1) := by decide +kernel
theorem dX0_copyFrom_31 : decode cX0_copyFrom 31 = .ok (.aaload, 1) := by decide +kernel
theorem dX0_copyFrom_32 : decode cX0_copyFrom 32 = .ok (.aload_n 1, 1) := by decide +kernel
theorem dX0_copyFrom_33 : decode cX0_copyFrom 33 = .ok (.getfield 11, 3) := by decide +kernel
theorem dX0_copyFrom_36 : decode cX0_copyFrom 36 = .ok (.iload_n 2, 1) := by decide +kernel
theorem dX0_copyFrom_37 : decode cX0_copyFrom 37 = .ok (.aaload, 1) := by decide +kernel
theorem dX0_copyFrom_38 : decode cX0_copyFrom 38 = .ok (.invokevirtual 32, 3) := by decide +kernel
theorem dX0_copyFrom_41 : decode cX0_copyFrom 41 = .ok (.iinc 2 1, 3) := by decide +kernel
theorem dX0_copyFrom_44 : decode cX0_copyFrom 44 = .ok (.goto (-26), 3) := by decide +kernel
theorem dX0_copyFrom_47 : decode cX0_copyFrom 47 = .ok (.iconst 0, 1) := by decide +kernel
theorem dX0_copyFrom_48 : decode cX0_copyFrom 48 = .ok (.istore_n 2, 1) := by decide +kernel
theorem dX0_copyFrom_49 : decode cX0_copyFrom 49 = .ok (.iload_n 2, 1) := by decide +kernel
theorem dX0_copyFrom_50 : decode cX0_copyFrom 50 = .ok (.aload_n 0, 1) := by decide +kernel
theorem dX0_copyFrom_51 : decode cX0_copyFrom 51 = .ok (.getfield 29, 3) := by decide +kernel
theorem dX0_copyFrom_54 : decode cX0_copyFrom 54 = .ok (.if_icmp .ge 24, 3) := by decide +kernel
theorem dX0_copyFrom_57 : decode cX0_copyFrom 57 = .ok (.aload_n 0, 1) := by decide +kernel
theorem dX0_copyFrom_58 : decode cX0_copyFrom 58 = .ok (.getfield 19, 3) := by decide +kernel
theorem dX0_copyFrom_61 : decode cX0_copyFrom 61 = .ok (.iload_n 2, 1) := by decide +kernel
theorem dX0_copyFrom_62 : decode cX0_copyFrom 62 = .ok (.aaload, 1) := by decide +kernel
theorem dX0_copyFrom_63 : decode cX0_copyFrom 63 = .ok (.aload_n 1, 1) := by decide +kernel
theorem dX0_copyFrom_64 : decode cX0_copyFrom 64 = .ok (.getfield 19, 3) := by decide +kernel
theorem dX0_copyFrom_67 : decode cX0_copyFrom 67 = .ok (.iload_n 2, 1) := by decide +kernel
theorem dX0_copyFrom_68 : decode cX0_copyFrom 68 = .ok (.aaload, 1) := by decide +kernel
theorem dX0_copyFrom_69 : decode cX0_copyFrom 69 = .ok (.invokevirtual 36, 3) := by decide +kernel
theorem dX0_copyFrom_72 : decode cX0_copyFrom 72 = .ok (.iinc 2 1, 3) := by decide +kernel
theorem dX0_copyFrom_75 : decode cX0_copyFrom 75 = .ok (.goto (-26), 3) := by decide +kernel
theorem dX0_copyFrom_78 : decode cX0_copyFrom 78 = .ok (.return_, 1) := by decide +kernel
theorem dX1_yearStart_0 : decode cX1_yearStart 0 = .ok (.sipush 365, 3) := by decide +kernel
theorem dX1_yearStart_3 : decode cX1_yearStart 3 = .ok (.iload_n 0, 1) := by decide +kernel
theorem dX1_yearStart_4 : decode cX1_yearStart 4 = .ok (.imul, 1) := by decide +kernel
theorem dX1_yearStart_5 : decode cX1_yearStart 5 = .ok (.iload_n 0, 1) := by decide +kernel
theorem dX1_yearStart_6 : decode cX1_yearStart 6 = .ok (.iconst 3, 1) := by decide +kernel
theorem dX1_yearStart_7 : decode cX1_yearStart 7 = .ok (.iadd, 1) := by decide +kernel
theorem dX1_yearStart_8 : decode cX1_yearStart 8 = .ok (.iconst 4, 1) := by decide +kernel
theorem dX1_yearStart_9 : decode cX1_yearStart 9 = .ok (.idiv, 1) := by decide +kernel
theorem dX1_yearStart_10 : decode cX1_yearStart 10 = .ok (.iadd, 1) := by decide +kernel
theorem dX1_yearStart_11 : decode cX1_yearStart 11 = .ok (.ireturn, 1) := by decide +kernel
theorem dX1_yearOf_0 : decode cX1_yearOf 0 = .ok (.iload_n 0, 1) := by decide +kernel
theorem dX1_yearOf_1 : decode cX1_yearOf 1 = .ok (.sipush 1461, 3) := by decide +kernel
theorem dX1_yearOf_4 : decode cX1_yearOf 4 = .ok (.irem, 1) := by decide +kernel
theorem dX1_yearOf_5 : decode cX1_yearOf 5 = .ok (.istore_n 1, 1) := by decide +kernel
theorem dX1_yearOf_6 : decode cX1_yearOf 6 = .ok (.iload_n 0, 1) := by decide +kernel
theorem dX1_yearOf_7 : decode cX1_yearOf 7 = .ok (.sipush 1461, 3) := by decide +kernel
theorem dX1_yearOf_10 : decode cX1_yearOf 10 = .ok (.idiv, 1) := by decide +kernel
theorem dX1_yearOf_11 : decode cX1_yearOf 11 = .ok (.iconst 4, 1) := by decide +kernel
theorem dX1_yearOf_12 : decode cX1_yearOf 12 = .ok (.imul, 1) := by decide +kernel
theorem dX1_yearOf_13 : decode cX1_yearOf 13 = .ok (.iload_n 1, 1) := by decide +kernel
theorem dX1_yearOf_14 : decode cX1_yearOf 14 = .ok (.sipush 366, 3) := by decide +kernel
theorem dX1_yearOf_17 : decode cX1_yearOf 17 = .ok (.if_icmp .ge 7, 3) := by decide +kernel
theorem dX1_yearOf_20 : decode cX1_yearOf 20 = .ok (.iconst 0, 1) := by decide +kernel
theorem dX1_yearOf_21 : decode cX1_yearOf 21 = .ok (.goto 10, 3) := by decide +kernel
theorem dX1_yearOf_24 : decode cX1_yearOf 24 = .ok (.iload_n 1, 1) := by decide +kernel
theorem dX1_yearOf_25 : decode cX1_yearOf 25 = .ok (.iconst 1, 1) := by decide +kernel
theorem dX1_yearOf_26 : decode cX1_yearOf 26 = .ok (.isub, 1) := by decide +kernel
theorem dX1_yearOf_27 : decode cX1_yearOf 27 = .ok (.sipush 365, 3) := by decide +kernel
theorem dX1_yearOf_30 : decode cX1_yearOf 30 = .ok (.idiv, 1) := by decide +kernel
theorem dX1_yearOf_31 : decode cX1_yearOf 31 = .ok (.iadd, 1) := by decide +kernel
theorem dX1_yearOf_32 : decode cX1_yearOf 32 = .ok (.ireturn, 1) := by decide +kernel
theorem dX1_monthOf_0 : decode cX1_monthOf 0 = .ok (.iload_n 1, 1) := by decide +kernel
theorem dX1_monthOf_1 : decode cX1_monthOf 1 = .ok (.sipush 365, 3) := by decide +kernel
theorem dX1_monthOf_4 : decode cX1_monthOf 4 = .ok (.iload_n 0, 1) := by decide +kernel
theorem dX1_monthOf_5 : decode cX1_monthOf 5 = .ok (.imul, 1) := by decide +kernel
theorem dX1_monthOf_6 : decode cX1_monthOf 6 = .ok (.isub, 1) := by decide +kernel
theorem dX1_monthOf_7 : decode cX1_monthOf 7 = .ok (.iload_n 0, 1) := by decide +kernel
theorem dX1_monthOf_8 : decode cX1_monthOf 8 = .ok (.iconst 3, 1) := by decide +kernel
theorem dX1_monthOf_9 : decode cX1_monthOf 9 = .ok (.iadd, 1) := by decide +kernel
theorem dX1_monthOf_10 : decode cX1_monthOf 10 = .ok (.iconst 4, 1) := by decide +kernel
theorem dX1_monthOf_11 : decode cX1_monthOf 11 = .ok (.idiv, 1) := by decide +kernel
theorem dX1_monthOf_12 : decode cX1_monthOf 12 = .ok (.isub, 1) := by decide +kernel
theorem dX1_monthOf_13 : decode cX1_monthOf 13 = .ok (.istore_n 2, 1) := by decide +kernel
theorem dX1_monthOf_14 : decode cX1_monthOf 14 = .ok (.iconst 1, 1) := by decide +kernel
theorem dX1_monthOf_15 : decode cX1_monthOf 15 = .ok (.istore_n 3, 1) := by decide +kernel
theorem dX1_monthOf_16 : decode cX1_monthOf 16 = .ok (.iconst 1, 1) := by decide +kernel
theorem dX1_monthOf_17 : decode cX1_monthOf 17 = .ok (.istore 4, 2) := by decide +kernel
theorem dX1_monthOf_19 : decode cX1_monthOf 19 = .ok (.iload 4, 2) := by decide +kernel
theorem dX1_monthOf_21 : decode cX1_monthOf 21 = .ok (.bipush 12, 2) := by decide +kernel
theorem dX1_monthOf_23 : decode cX1_monthOf 23 = .ok (.if_icmp .ge 49, 3) := by decide +kernel
theorem dX1_monthOf_26 : decode cX1_monthOf 26 = .ok (.iload_n 0, 1) := by decide +kernel
theorem dX1_monthOf_27 : decode cX1_monthOf 27 = .ok (.iconst 4, 1) := by decide +kernel
theorem dX1_monthOf_28 : decode cX1_monthOf 28 = .ok (.irem, 1) := by decide +kernel
theorem dX1_monthOf_29 : decode cX1_monthOf 29 = .ok (.ifCond .ne 13, 3) := by decide +kernel
theorem dX1_monthOf_32 : decode cX1_monthOf 32 = .ok (.iload 4, 2) := by decide +kernel
theorem dX1_monthOf_34 : decode cX1_monthOf 34 = .ok (.iconst 1, 1) := by decide +kernel
theorem dX1_monthOf_35 : decode cX1_monthOf 35 = .ok (.if_icmp .le 7, 3) := by decide +kernel
theorem dX1_monthOf_38 : decode cX1_monthOf 38 = .ok (.iconst 1, 1) := by decide +kernel
theorem dX1_monthOf_39 : decode cX1_monthOf 39 = .ok (.goto 4, 3) := by decide +kernel
theorem dX1_monthOf_42 : decode cX1_monthOf 42 = .ok (.iconst 0, 1) := by decide +kernel
theorem dX1_monthOf_43 : decode cX1_monthOf 43 = .ok (.istore 5, 2) := by decide +kernel
theorem dX1_monthOf_45 : decode cX1_monthOf 45 = .ok (.iload_n 3, 1) := by decide +kernel
theorem dX1_monthOf_46 : decode cX1_monthOf 46 = .ok (.iload_n 2, 1) := by decide +kernel
theorem dX1_monthOf_47 : decode cX1_monthOf 47 = .ok (.getstatic 7, 3) := by decide +kernel
theorem dX1_monthOf_50 : decode cX1_monthOf 50 = .ok (.iload 4, 2) := by decide +kernel
theorem dX1_monthOf_52 : decode cX1_monthOf 52 = .ok (.iaload, 1) := by decide +kernel
theorem dX1_monthOf_53 : decode cX1_monthOf 53 = .ok (.iload 5, 2) := by decide +kernel
theorem dX1_monthOf_55 : decode cX1_monthOf 55 = .ok (.iadd, 1) := by decide +kernel
theorem dX1_monthOf_56 : decode cX1_monthOf 56 = .ok (.if_icmp .lt 7, 3) := by decide +kernel
theorem dX1_monthOf_59 : decode cX1_monthOf 59 = .ok (.iconst 1, 1) := by decide +kernel
theorem dX1_monthOf_60 : decode cX1_monthOf 60 = .ok (.goto 4, 3) := by decide +kernel
theorem dX1_monthOf_63 : decode cX1_monthOf 63 = .ok (.iconst 0, 1) := by decide +kernel
theorem dX1_monthOf_64 : decode cX1_monthOf 64 = .ok (.iadd, 1) := by decide +kernel
theorem dX1_monthOf_65 : decode cX1_monthOf 65 = .ok (.istore_n 3, 1) := by decide +kernel
theorem dX1_monthOf_66 : decode cX1_monthOf 66 = .ok (.iinc 4 1, 3) := by decide +kernel
theorem dX1_monthOf_69 : decode cX1_monthOf 69 = .ok (.goto (-50), 3) := by decide +kernel
theorem dX1_monthOf_72 : decode cX1_monthOf 72 = .ok (.iload_n 3, 1) := by decide +kernel
theorem dX1_monthOf_73 : decode cX1_monthOf 73 = .ok (.ireturn, 1) := by decide +kernel
theorem dX1_monthStart_0 : decode cX1_monthStart 0 = .ok (.iload_n 0, 1) := by decide +kernel
theorem dX1_monthStart_1 : decode cX1_monthStart 1 = .ok (.iconst 4, 1) := by decide +kernel
theorem dX1_monthStart_2 : decode cX1_monthStart 2 = .ok (.irem, 1) := by decide +kernel
theorem dX1_monthStart_3 : decode cX1_monthStart 3 = .ok (.ifCond .ne 12, 3) := by decide +kernel
theorem dX1_monthStart_6 : decode cX1_monthStart 6 = .ok (.iload_n 1, 1) := by decide +kernel
theorem dX1_monthStart_7 : decode cX1_monthStart 7 = .ok (.iconst 2, 1) := by decide +kernel
theorem dX1_monthStart_8 : decode cX1_monthStart 8 = .ok (.if_icmp .le 7, 3) := by decide +kernel
theorem dX1_monthStart_11 : decode cX1_monthStart 11 = .ok (.iconst 1, 1) := by decide +kernel
theorem dX1_monthStart_12 : decode cX1_monthStart 12 = .ok (.goto 4, 3) := by decide +kernel
theorem dX1_monthStart_15 : decode cX1_monthStart 15 = .ok (.iconst 0, 1) := by decide +kernel
theorem dX1_monthStart_16 : decode cX1_monthStart 16 = .ok (.istore_n 2, 1) := by decide +kernel
theorem dX1_monthStart_17 : decode cX1_monthStart 17 = .ok (.sipush 365, 3) := by decide +kernel
theorem dX1_monthStart_20 : decode cX1_monthStart 20 = .ok (.iload_n 0, 1) := by decide +kernel
theorem dX1_monthStart_21 : decode cX1_monthStart 21 = .ok (.imul, 1) := by decide +kernel
theorem dX1_monthStart_22 : decode cX1_monthStart 22 = .ok (.iload_n 0, 1) := by decide +kernel
theorem dX1_monthStart_23 : decode cX1_monthStart 23 = .ok (.iconst 3, 1) := by decide +kernel
theorem dX1_monthStart_24 : decode cX1_monthStart 24 = .ok (.iadd, 1) := by decide +kernel
theorem dX1_monthStart_25 : decode cX1_monthStart 25 = .ok (.iconst 4, 1) := by decide +kernel
theorem dX1_monthStart_26 : decode cX1_monthStart 26 = .ok (.idiv, 1) := by decide +kernel
theorem dX1_monthStart_27 : decode cX1_monthStart 27 = .ok (.iadd, 1) := by decide +kernel
theorem dX1_monthStart_28 : decode cX1_monthStart 28 = .ok (.getstatic 7, 3) := by decide +kernel
theorem dX1_monthStart_31 : decode cX1_monthStart 31 = .ok (.iload_n 1, 1) := by decide +kernel
theorem dX1_monthStart_32 : decode cX1_monthStart 32 = .ok (.iconst 1, 1) := by decide +kernel
theorem dX1_monthStart_33 : decode cX1_monthStart 33 = .ok (.isub, 1) := by decide +kernel
theorem dX1_monthStart_34 : decode cX1_monthStart 34 = .ok (.iaload, 1) := by decide +kernel
theorem dX1_monthStart_35 : decode cX1_monthStart 35 = .ok (.iadd, 1) := by decide +kernel
theorem dX1_monthStart_36 : decode cX1_monthStart 36 = .ok (.iload_n 2, 1) := by decide +kernel
theorem dX1_monthStart_37 : decode cX1_monthStart 37 = .ok (.iadd, 1) := by decide +kernel
theorem dX1_monthStart_38 : decode cX1_monthStart 38 = .ok (.ireturn, 1) := by decide +kernel
theorem dX1_monthLength_0 : decode cX1_monthLength 0 = .ok (.iload_n 0, 1) := by decide +kernel
theorem dX1_monthLength_1 : decode cX1_monthLength 1 = .ok (.iconst 4, 1) := by decide +kernel
theorem dX1_monthLength_2 : decode cX1_monthLength 2 = .ok (.irem, 1) := by decide +kernel
theorem dX1_monthLength_3 : decode cX1_monthLength 3 = .ok (.ifCond .ne 12, 3) := by decide +kernel
theorem dX1_monthLength_6 : decode cX1_monthLength 6 = .ok (.iload_n 1, 1) := by decide +kernel
theorem dX1_monthLength_7 : decode cX1_monthLength 7 = .ok (.iconst 2, 1) := by decide +kernel
theorem dX1_monthLength_8 : decode cX1_monthLength 8 = .ok (.if_icmp .ne 7, 3) := by decide +kernel
theorem dX1_monthLength_11 : decode cX1_monthLength 11 = .ok (.iconst 1, 1) := by decide +kernel
theorem dX1_monthLength_12 : decode cX1_monthLength 12 = .ok (.goto 4, 3) := by decide +kernel
theorem dX1_monthLength_15 : decode cX1_monthLength 15 = .ok (.iconst 0, 1) := by decide +kernel
theorem dX1_monthLength_16 : decode cX1_monthLength 16 = .ok (.istore_n 2, 1) := by decide +kernel
theorem dX1_monthLength_17 : decode cX1_monthLength 17 = .ok (.getstatic 7, 3) := by decide +kernel
theorem dX1_monthLength_20 : decode cX1_monthLength 20 = .ok (.iload_n 1, 1) := by decide +kernel
theorem dX1_monthLength_21 : decode cX1_monthLength 21 = .ok (.iaload, 1) := by decide +kernel
theorem dX1_monthLength_22 : decode cX1_monthLength 22 = .ok (.getstatic 7, 3) := by decide +kernel
theorem dX1_monthLength_25 : decode cX1_monthLength 25 = .ok (.iload_n 1, 1) := by decide +kernel
theorem dX1_monthLength_26 : decode cX1_monthLength 26 = .ok (.iconst 1, 1) := by decide +kernel
theorem dX1_monthLength_27 : decode cX1_monthLength 27 = .ok (.isub, 1) := by decide +kernel
theorem dX1_monthLength_28 : decode cX1_monthLength 28 = .ok (.iaload, 1) := by decide +kernel
theorem dX1_monthLength_29 : decode cX1_monthLength 29 = .ok (.isub, 1) := by decide +kernel
theorem dX1_monthLength_30 : decode cX1_monthLength 30 = .ok (.iload_n 2, 1) := by decide +kernel
theorem dX1_monthLength_31 : decode cX1_monthLength 31 = .ok (.iadd, 1) := by decide +kernel
theorem dX1_monthLength_32 : decode cX1_monthLength 32 = .ok (.ireturn, 1) := by decide +kernel
theorem dX1_weekday_0 : decode cX1_weekday 0 = .ok (.iload_n 0, 1) := by decide +kernel
theorem dX1_weekday_1 : decode cX1_weekday 1 = .ok (.iconst 5, 1) := by decide +kernel
theorem dX1_weekday_2 : decode cX1_weekday 2 = .ok (.iadd, 1) := by decide +kernel
theorem dX1_weekday_3 : decode cX1_weekday 3 = .ok (.bipush 7, 2) := by decide +kernel
theorem dX1_weekday_5 : decode cX1_weekday 5 = .ok (.irem, 1) := by decide +kernel
theorem dX1_weekday_6 : decode cX1_weekday 6 = .ok (.ireturn, 1) := by decide +kernel
theorem dX1_weekdayFrom_0 : decode cX1_weekdayFrom 0 = .ok (.iload_n 0, 1) := by decide +kernel
theorem dX1_weekdayFrom_1 : decode cX1_weekdayFrom 1 = .ok (.iload_n 1, 1) := by decide +kernel
theorem dX1_weekdayFrom_2 : decode cX1_weekdayFrom 2 = .ok (.iload_n 0, 1) := by decide +kernel
theorem dX1_weekdayFrom_3 : decode cX1_weekdayFrom 3 = .ok (.iconst 5, 1) := by decide +kernel
theorem dX1_weekdayFrom_4 : decode cX1_weekdayFrom 4 = .ok (.iadd, 1) := by decide +kernel
theorem dX1_weekdayFrom_5 : decode cX1_weekdayFrom 5 = .ok (.bipush 7, 2) := by decide +kernel
theorem dX1_weekdayFrom_7 : decode cX1_weekdayFrom 7 = .ok (.irem, 1) := by decide +kernel
theorem dX1_weekdayFrom_8 : decode cX1_weekdayFrom 8 = .ok (.isub, 1) := by decide +kernel
theorem dX1_weekdayFrom_9 : decode cX1_weekdayFrom 9 = .ok (.bipush 7, 2) := by decide +kernel
theorem dX1_weekdayFrom_11 : decode cX1_weekdayFrom 11 = .ok (.iadd, 1) := by decide +kernel
theorem dX1_weekdayFrom_12 : decode cX1_weekdayFrom 12 = .ok (.bipush 7, 2) := by decide +kernel
theorem dX1_weekdayFrom_14 : decode cX1_weekdayFrom 14 = .ok (.irem, 1) := by decide +kernel
theorem dX1_weekdayFrom_15 : decode cX1_weekdayFrom 15 = .ok (.iadd, 1) := by decide +kernel
theorem dX1_weekdayFrom_16 : decode cX1_weekdayFrom 16 = .ok (.ireturn, 1) := by decide +kernel
theorem dX1_dayOfDate_0 : decode cX1_dayOfDate 0 = .ok (.iload_n 0, 1) := by decide +kernel
theorem dX1_dayOfDate_1 : decode cX1_dayOfDate 1 = .ok (.iload_n 1, 1) := by decide +kernel
theorem dX1_dayOfDate_2 : decode cX1_dayOfDate 2 = .ok (.invokestatic 13, 3) := by decide +kernel
theorem dX1_dayOfDate_5 : decode cX1_dayOfDate 5 = .ok (.istore_n 3, 1) := by decide +kernel
theorem dX1_dayOfDate_6 : decode cX1_dayOfDate 6 = .ok (.iload_n 3, 1) := by decide +kernel
theorem dX1_dayOfDate_7 : decode cX1_dayOfDate 7 = .ok (.iload_n 0, 1) := by decide +kernel
theorem dX1_dayOfDate_8 : decode cX1_dayOfDate 8 = .ok (.iload_n 1, 1) := by decide +kernel
theorem dX1_dayOfDate_9 : decode cX1_dayOfDate 9 = .ok (.invokestatic 17, 3) := by decide +kernel
theorem dX1_dayOfDate_12 : decode cX1_dayOfDate 12 = .ok (.iadd, 1) := by decide +kernel
theorem dX1_dayOfDate_13 : decode cX1_dayOfDate 13 = .ok (.istore 4, 2) := by decide +kernel
theorem dX1_dayOfDate_15 : decode cX1_dayOfDate 15 = .ok (.iload_n 2, 1) := by decide +kernel
theorem dX1_dayOfDate_16 : decode cX1_dayOfDate 16 = .ok (.bipush 31, 2) := by decide +kernel
theorem dX1_dayOfDate_18 : decode cX1_dayOfDate 18 = .ok (.if_icmp .gt 13, 3) := by decide +kernel
theorem dX1_dayOfDate_21 : decode cX1_dayOfDate 21 = .ok (.iload_n 3, 1) := by decide +kernel
theorem dX1_dayOfDate_22 : decode cX1_dayOfDate 22 = .ok (.iload_n 2, 1) := by decide +kernel
theorem dX1_dayOfDate_23 : decode cX1_dayOfDate 23 = .ok (.iadd, 1) := by decide +kernel
theorem dX1_dayOfDate_24 : decode cX1_dayOfDate 24 = .ok (.iconst 1, 1) := by decide +kernel
theorem dX1_dayOfDate_25 : decode cX1_dayOfDate 25 = .ok (.isub, 1) := by decide +kernel
theorem dX1_dayOfDate_26 : decode cX1_dayOfDate 26 = .ok (.istore 5, 2) := by decide +kernel
theorem dX1_dayOfDate_28 : decode cX1_dayOfDate 28 = .ok (.goto 78, 3) := by decide +kernel
theorem dX1_dayOfDate_31 : decode cX1_dayOfDate 31 = .ok (.iload_n 2, 1) := by decide +kernel
theorem dX1_dayOfDate_32 : decode cX1_dayOfDate 32 = .ok (.sipush 500, 3) := by decide +kernel
theorem dX1_dayOfDate_35 : decode cX1_dayOfDate 35 = .ok (.if_icmp .ge 26, 3) := by decide +kernel
theorem dX1_dayOfDate_38 : decode cX1_dayOfDate 38 = .ok (.iload_n 3, 1) := by decide +kernel
theorem dX1_dayOfDate_39 : decode cX1_dayOfDate 39 = .ok (.iload_n 2, 1) := by decide +kernel
theorem dX1_dayOfDate_40 : decode cX1_dayOfDate 40 = .ok (.bipush 100, 2) := by decide +kernel
theorem dX1_dayOfDate_42 : decode cX1_dayOfDate 42 = .ok (.irem, 1) := by decide +kernel
theorem dX1_dayOfDate_43 : decode cX1_dayOfDate 43 = .ok (.invokestatic 20, 3) := by decide +kernel
theorem dX1_dayOfDate_46 : decode cX1_dayOfDate 46 = .ok (.bipush 7, 2) := by decide +kernel
theorem dX1_dayOfDate_48 : decode cX1_dayOfDate 48 = .ok (.iload_n 2, 1) := by decide +kernel
theorem dX1_dayOfDate_49 : decode cX1_dayOfDate 49 = .ok (.bipush 100, 2) := by decide +kernel
theorem dX1_dayOfDate_51 : decode cX1_dayOfDate 51 = .ok (.idiv, 1) := by decide +kernel
theorem dX1_dayOfDate_52 : decode cX1_dayOfDate 52 = .ok (.iconst 1, 1) := by decide +kernel
theorem dX1_dayOfDate_53 : decode cX1_dayOfDate 53 = .ok (.isub, 1) := by decide +kernel
theorem dX1_dayOfDate_54 : decode cX1_dayOfDate 54 = .ok (.imul, 1) := by decide +kernel
theorem dX1_dayOfDate_55 : decode cX1_dayOfDate 55 = .ok (.iadd, 1) := by decide +kernel
theorem dX1_dayOfDate_56 : decode cX1_dayOfDate 56 = .ok (.istore 5, 2) := by decide +kernel
theorem dX1_dayOfDate_58 : decode cX1_dayOfDate 58 = .ok (.goto 48, 3) := by decide +kernel
theorem dX1_dayOfDate_61 : decode cX1_dayOfDate 61 = .ok (.iload_n 2, 1) := by decide +kernel
theorem dX1_dayOfDate_62 : decode cX1_dayOfDate 62 = .ok (.sipush 1000, 3) := by decide +kernel
theorem dX1_dayOfDate_65 : decode cX1_dayOfDate 65 = .ok (.if_icmp .ge 20, 3) := by decide +kernel
theorem dX1_dayOfDate_68 : decode cX1_dayOfDate 68 = .ok (.iload 4, 2) := by decide +kernel
theorem dX1_dayOfDate_70 : decode cX1_dayOfDate 70 = .ok (.bipush 7, 2) := by decide +kernel
theorem dX1_dayOfDate_72 : decode cX1_dayOfDate 72 = .ok (.isub, 1) := by decide +kernel
theorem dX1_dayOfDate_73 : decode cX1_dayOfDate 73 = .ok (.iload_n 2, 1) := by decide +kernel
theorem dX1_dayOfDate_74 : decode cX1_dayOfDate 74 = .ok (.bipush 100, 2) := by decide +kernel
theorem dX1_dayOfDate_76 : decode cX1_dayOfDate 76 = .ok (.irem, 1) := by decide +kernel
theorem dX1_dayOfDate_77 : decode cX1_dayOfDate 77 = .ok (.invokestatic 20, 3) := by decide +kernel
theorem dX1_dayOfDate_80 : decode cX1_dayOfDate 80 = .ok (.istore 5, 2) := by decide +kernel
theorem dX1_dayOfDate_82 : decode cX1_dayOfDate 82 = .ok (.goto 24, 3) := by decide +kernel
theorem dX1_dayOfDate_85 : decode cX1_dayOfDate 85 = .ok (.iload_n 3, 1) := by decide +kernel
theorem dX1_dayOfDate_86 : decode cX1_dayOfDate 86 = .ok (.iload_n 2, 1) := by decide +kernel
theorem dX1_dayOfDate_87 : decode cX1_dayOfDate 87 = .ok (.sipush 1000, 3) := by decide +kernel
theorem dX1_dayOfDate_90 : decode cX1_dayOfDate 90 = .ok (.isub, 1) := by decide +kernel
theorem dX1_dayOfDate_91 : decode cX1_dayOfDate 91 = .ok (.bipush 10, 2) := by decide +kernel
theorem dX1_dayOfDate_93 : decode cX1_dayOfDate 93 = .ok (.idiv, 1) := by decide +kernel
theorem dX1_dayOfDate_94 : decode cX1_dayOfDate 94 = .ok (.iadd, 1) := by decide +kernel
theorem dX1_dayOfDate_95 : decode cX1_dayOfDate 95 = .ok (.iconst 1, 1) := by decide +kernel
theorem dX1_dayOfDate_96 : decode cX1_dayOfDate 96 = .ok (.isub, 1) := by decide +kernel
theorem dX1_dayOfDate_97 : decode cX1_dayOfDate 97 = .ok (.iload_n 2, 1) := by decide +kernel
theorem dX1_dayOfDate_98 : decode cX1_dayOfDate 98 = .ok (.bipush 10, 2) := by decide +kernel
theorem dX1_dayOfDate_100 : decode cX1_dayOfDate 100 = .ok (.irem, 1) := by decide +kernel
theorem dX1_dayOfDate_101 : decode cX1_dayOfDate 101 = .ok (.invokestatic 20, 3) := by decide +kernel
theorem dX1_dayOfDate_104 : decode cX1_dayOfDate 104 = .ok (.istore 5, 2) := by decide +kernel
theorem dX1_dayOfDate_106 : decode cX1_dayOfDate 106 = .ok (.iload 5, 2) := by decide +kernel
theorem dX1_dayOfDate_108 : decode cX1_dayOfDate 108 = .ok (.iload 4, 2) := by decide +kernel
theorem dX1_dayOfDate_110 : decode cX1_dayOfDate 110 = .ok (.if_icmp .ge 8, 3) := by decide +kernel
theorem dX1_dayOfDate_113 : decode cX1_dayOfDate 113 = .ok (.iload 5, 2) := by decide +kernel
theorem dX1_dayOfDate_115 : decode cX1_dayOfDate 115 = .ok (.goto 4, 3) := by decide +kernel
theorem dX1_dayOfDate_118 : decode cX1_dayOfDate 118 = .ok (.iconst (-1), 1) := by decide +kernel
theorem dX1_dayOfDate_119 : decode cX1_dayOfDate 119 = .ok (.ireturn, 1) := by decide +kernel
theorem dX2_init_0 : decode cX2_init 0 = .ok (.aload_n 0, 1) := by decide +kernel
theorem dX2_init_1 : decode cX2_init 1 = .ok (.invokespecial 3, 3) := by decide +kernel
theorem dX2_init_4 : decode cX2_init 4 = .ok (.return_, 1) := by decide +kernel
theorem dX2_begin_0 : decode cX2_begin 0 = .ok (.aload_n 0, 1) := by decide +kernel
theorem dX2_begin_1 : decode cX2_begin 1 = .ok (.iload_n 1, 1) := by decide +kernel
theorem dX2_begin_2 : decode cX2_begin 2 = .ok (.putfield 9, 3) := by decide +kernel
theorem dX2_begin_5 : decode cX2_begin 5 = .ok (.aload_n 0, 1) := by decide +kernel
theorem dX2_begin_6 : decode cX2_begin 6 = .ok (.iconst 0, 1) := by decide +kernel
theorem dX2_begin_7 : decode cX2_begin 7 = .ok (.putfield 15, 3) := by decide +kernel
theorem dX2_begin_10 : decode cX2_begin 10 = .ok (.aload_n 0, 1) := by decide +kernel
theorem dX2_begin_11 : decode cX2_begin 11 = .ok (.iconst 0, 1) := by decide +kernel
theorem dX2_begin_12 : decode cX2_begin 12 = .ok (.putfield 18, 3) := by decide +kernel
theorem dX2_begin_15 : decode cX2_begin 15 = .ok (.return_, 1) := by decide +kernel
theorem dX2_take_0 : decode cX2_take 0 = .ok (.lload_n 2, 1) := by decide +kernel
theorem dX2_take_1 : decode cX2_take 1 = .ok (.ldc2_w 22, 3) := by decide +kernel
theorem dX2_take_4 : decode cX2_take 4 = .ok (.lrem, 1) := by decide +kernel
theorem dX2_take_5 : decode cX2_take 5 = .ok (.l2i, 1) := by decide +kernel
theorem dX2_take_6 : decode cX2_take 6 = .ok (.istore 4, 2) := by decide +kernel
theorem dX2_take_8 : decode cX2_take 8 = .ok (.iload 4, 2) := by decide +kernel
theorem dX2_take_10 : decode cX2_take 10 = .ok (.iconst 4, 1) := by decide +kernel
theorem dX2_take_11 : decode cX2_take 11 = .ok (.if_icmp .ge 7, 3) := by decide +kernel
theorem dX2_take_14 : decode cX2_take 14 = .ok (.iconst 1, 1) := by decide +kernel
theorem dX2_take_15 : decode cX2_take 15 = .ok (.goto 4, 3) := by decide +kernel
theorem dX2_take_18 : decode cX2_take 18 = .ok (.iconst 0, 1) := by decide +kernel
theorem dX2_take_19 : decode cX2_take 19 = .ok (.istore 5, 2) := by decide +kernel
theorem dX2_take_21 : decode cX2_take 21 = .ok (.iload 5, 2) := by decide +kernel
theorem dX2_take_23 : decode cX2_take 23 = .ok (.ifCond .eq 7, 3) := by decide +kernel
theorem dX2_take_26 : decode cX2_take 26 = .ok (.iconst 0, 1) := by decide +kernel
theorem dX2_take_27 : decode cX2_take 27 = .ok (.goto 12, 3) := by decide +kernel
theorem dX2_take_30 : decode cX2_take 30 = .ok (.aload_n 1, 1) := by decide +kernel
theorem dX2_take_31 : decode cX2_take 31 = .ok (.iload 4, 2) := by decide +kernel
theorem dX2_take_33 : decode cX2_take 33 = .ok (.iconst 4, 1) := by decide +kernel
theorem dX2_take_34 : decode cX2_take 34 = .ok (.isub, 1) := by decide +kernel
theorem dX2_take_35 : decode cX2_take 35 = .ok (.iconst 5, 1) := by decide +kernel
theorem dX2_take_36 : decode cX2_take 36 = .ok (.invokevirtual 24, 3) := by decide +kernel
theorem dX2_take_39 : decode cX2_take 39 = .ok (.istore 6, 2) := by decide +kernel
theorem dX2_take_41 : decode cX2_take 41 = .ok (.aload_n 0, 1) := by decide +kernel
theorem dX2_take_42 : decode cX2_take 42 = .ok (.lload_n 2, 1) := by decide +kernel
theorem dX2_take_43 : decode cX2_take 43 = .ok (.ldc2_w 22, 3) := by decide +kernel
theorem dX2_take_46 : decode cX2_take 46 = .ok (.ldiv, 1) := by decide +kernel
theorem dX2_take_47 : decode cX2_take 47 = .ok (.l2i, 1) := by decide +kernel
theorem dX2_take_48 : decode cX2_take 48 = .ok (.iload 6, 2) := by decide +kernel
theorem dX2_take_50 : decode cX2_take 50 = .ok (.iconst 2, 1) := by decide +kernel
theorem dX2_take_51 : decode cX2_take 51 = .ok (.if_icmp .ne 7, 3) := by decide +kernel
theorem dX2_take_54 : decode cX2_take 54 = .ok (.iconst 0, 1) := by decide +kernel
theorem dX2_take_55 : decode cX2_take 55 = .ok (.goto 7, 3) := by decide +kernel
theorem dX2_take_58 : decode cX2_take 58 = .ok (.aload_n 0, 1) := by decide +kernel
theorem dX2_take_59 : decode cX2_take 59 = .ok (.getfield 9, 3) := by decide +kernel
theorem dX2_take_62 : decode cX2_take 62 = .ok (.isub, 1) := by decide +kernel
theorem dX2_take_63 : decode cX2_take 63 = .ok (.iload 6, 2) := by decide +kernel
theorem dX2_take_65 : decode cX2_take 65 = .ok (.ifCond .ne 10, 3) := by decide +kernel
theorem dX2_take_68 : decode cX2_take 68 = .ok (.aload_n 0, 1) := by decide +kernel
theorem dX2_take_69 : decode cX2_take 69 = .ok (.getfield 15, 3) := by decide +kernel
theorem dX2_take_72 : decode cX2_take 72 = .ok (.goto 4, 3) := by decide +kernel
theorem dX2_take_75 : decode cX2_take 75 = .ok (.iconst 0, 1) := by decide +kernel
theorem dX2_take_76 : decode cX2_take 76 = .ok (.isub, 1) := by decide +kernel
theorem dX2_take_77 : decode cX2_take 77 = .ok (.putfield 30, 3) := by decide +kernel
theorem dX2_take_80 : decode cX2_take 80 = .ok (.aload_n 0, 1) := by decide +kernel
theorem dX2_take_81 : decode cX2_take 81 = .ok (.getfield 18, 3) := by decide +kernel
theorem dX2_take_84 : decode cX2_take 84 = .ok (.ifCond .eq 16, 3) := by decide +kernel
theorem dX2_take_87 : decode cX2_take 87 = .ok (.aload_n 0, 1) := by decide +kernel
theorem dX2_take_88 : decode cX2_take 88 = .ok (.getfield 33, 3) := by decide +kernel
theorem dX2_take_91 : decode cX2_take 91 = .ok (.aload_n 0, 1) := by decide +kernel
theorem dX2_take_92 : decode cX2_take 92 = .ok (.getfield 30, 3) := by decide +kernel
theorem dX2_take_95 : decode cX2_take 95 = .ok (.if_icmp .lt 5, 3) := by decide +kernel
theorem dX2_take_98 : decode cX2_take 98 = .ok (.iconst 0, 1) := by decide +kernel
theorem dX2_take_99 : decode cX2_take 99 = .ok (.ireturn, 1) := by decide +kernel
theorem dX2_take_100 : decode cX2_take 100 = .ok (.aload_n 0, 1) := by decide +kernel
theorem dX2_take_101 : decode cX2_take 101 = .ok (.getfield 9, 3) := by decide +kernel
theorem dX2_take_104 : decode cX2_take 104 = .ok (.aload_n 0, 1) := by decide +kernel
theorem dX2_take_105 : decode cX2_take 105 = .ok (.getfield 15, 3) := by decide +kernel
theorem dX2_take_108 : decode cX2_take 108 = .ok (.iadd, 1) := by decide +kernel
theorem dX2_take_109 : decode cX2_take 109 = .ok (.istore 7, 2) := by decide +kernel
theorem dX2_take_111 : decode cX2_take 111 = .ok (.iload 5, 2) := by decide +kernel
theorem dX2_take_113 : decode cX2_take 113 = .ok (.ifCond .eq 17, 3) := by decide +kernel
theorem dX2_take_116 : decode cX2_take 116 = .ok (.aload_n 0, 1) := by decide +kernel
theorem dX2_take_117 : decode cX2_take 117 = .ok (.aload_n 1, 1) := by decide +kernel
theorem dX2_take_118 : decode cX2_take 118 = .ok (.getfield 36, 3) := by decide +kernel
theorem dX2_take_121 : decode cX2_take 121 = .ok (.iload 4, 2) := by decide +kernel
theorem dX2_take_123 : decode cX2_take 123 = .ok (.iaload, 1) := by decide +kernel
theorem dX2_take_124 : decode cX2_take 124 = .ok (.putfield 9, 3) := by decide +kernel
theorem dX2_take_127 : decode cX2_take 127 = .ok (.goto 17, 3) := by decide +kernel
theorem dX2_take_130 : decode cX2_take 130 = .ok (.aload_n 0, 1) := by decide +kernel
theorem dX2_take_131 : decode cX2_take 131 = .ok (.aload_n 1, 1) := by decide +kernel
theorem dX2_take_132 : decode cX2_take 132 = .ok (.iload 4, 2) := by decide +kernel
theorem dX2_take_134 : decode cX2_take 134 = .ok (.iconst 4, 1) := by decide +kernel
theorem dX2_take_135 : decode cX2_take 135 = .ok (.isub, 1) := by decide +kernel
theorem dX2_take_136 : decode cX2_take 136 = .ok (.bipush 6, 2) := by decide +kernel
theorem dX2_take_138 : decode cX2_take 138 = .ok (.invokevirtual 24, 3) := by decide +kernel
theorem dX2_take_141 : decode cX2_take 141 = .ok (.putfield 15, 3) := by decide +kernel
theorem dX2_take_144 : decode cX2_take 144 = .ok (.aload_n 0, 1) := by decide +kernel
theorem dX2_take_145 : decode cX2_take 145 = .ok (.getfield 9, 3) := by decide +kernel
theorem dX2_take_148 : decode cX2_take 148 = .ok (.aload_n 0, 1) := by decide +kernel
theorem dX2_take_149 : decode cX2_take 149 = .ok (.getfield 15, 3) := by decide +kernel
theorem dX2_take_152 : decode cX2_take 152 = .ok (.iadd, 1) := by decide +kernel
theorem dX2_take_153 : decode cX2_take 153 = .ok (.iload 7, 2) := by decide +kernel
theorem dX2_take_155 : decode cX2_take 155 = .ok (.if_icmp .ne 5, 3) := by decide +kernel
theorem dX2_take_158 : decode cX2_take 158 = .ok (.iconst 1, 1) := by decide +kernel
theorem dX2_take_159 : decode cX2_take 159 = .ok (.ireturn, 1) := by decide +kernel
theorem dX2_take_160 : decode cX2_take 160 = .ok (.aload_n 0, 1) := by decide +kernel
theorem dX2_take_161 : decode cX2_take 161 = .ok (.iconst 1, 1) := by decide +kernel
theorem dX2_take_162 : decode cX2_take 162 = .ok (.putfield 18, 3) := by decide +kernel
theorem dX2_take_165 : decode cX2_take 165 = .ok (.aload_n 0, 1) := by decide +kernel
theorem dX2_take_166 : decode cX2_take 166 = .ok (.aload_n 0, 1) := by decide +kernel
theorem dX2_take_167 : decode cX2_take 167 = .ok (.getfield 30, 3) := by decide +kernel
theorem dX2_take_170 : decode cX2_take 170 = .ok (.putfield 33, 3) := by decide +kernel
theorem dX2_take_173 : decode cX2_take 173 = .ok (.iconst 2, 1) := by decide +kernel
theorem dX2_take_174 : decode cX2_take 174 = .ok (.ireturn, 1) := by decide +kernel
theorem dX3_init_0 : decode cX3_init 0 = .ok (.aload_n 0, 1) := by decide +kernel
theorem dX3_init_1 : decode cX3_init 1 = .ok (.invokespecial 3, 3) := by decide +kernel
theorem dX3_init_4 : decode cX3_init 4 = .ok (.aload_n 0, 1) := by decide +kernel
theorem dX3_init_5 : decode cX3_init 5 = .ok (.new 9, 3) := by decide +kernel
theorem dX3_init_8 : decode cX3_init 8 = .ok (.dup, 1) := by decide +kernel
theorem dX3_init_9 : decode cX3_init 9 = .ok (.invokespecial 11, 3) := by decide +kernel
theorem dX3_init_12 : decode cX3_init 12 = .ok (.putfield 12, 3) := by decide +kernel
theorem dX3_init_15 : decode cX3_init 15 = .ok (.aload_n 0, 1) := by decide +kernel
theorem dX3_init_16 : decode cX3_init 16 = .ok (.bipush 9, 2) := by decide +kernel
theorem dX3_init_18 : decode cX3_init 18 = .ok (.anewarray 9, 3) := by decide +kernel
theorem dX3_init_21 : decode cX3_init 21 = .ok (.putfield 18, 3) := by decide +kernel
theorem dX3_init_24 : decode cX3_init 24 = .ok (.iconst 0, 1) := by decide +kernel
theorem dX3_init_25 : decode cX3_init 25 = .ok (.istore_n 1, 1) := by decide +kernel
theorem dX3_init_26 : decode cX3_init 26 = .ok (.iload_n 1, 1) := by decide +kernel
theorem dX3_init_27 : decode cX3_init 27 = .ok (.bipush 8, 2) := by decide +kernel
theorem dX3_init_29 : decode cX3_init 29 = .ok (.if_icmp .gt 22, 3) := by decide +kernel
theorem dX3_init_32 : decode cX3_init 32 = .ok (.aload_n 0, 1) := by decide +kernel
theorem dX3_init_33 : decode cX3_init 33 = .ok (.getfield 18, 3) := by decide +kernel
theorem dX3_init_36 : decode cX3_init 36 = .ok (.iload_n 1, 1) := by decide +kernel
theorem dX3_init_37 : decode cX3_init 37 = .ok (.new 9, 3) := by decide +kernel
theorem dX3_init_40 : decode cX3_init 40 = .ok (.dup, 1) := by decide +kernel
theorem dX3_init_41 : decode cX3_init 41 = .ok (.invokespecial 11, 3) := by decide +kernel
theorem dX3_init_44 : decode cX3_init 44 = .ok (.aastore, 1) := by decide +kernel
theorem dX3_init_45 : decode cX3_init 45 = .ok (.iinc 1 1, 3) := by decide +kernel
theorem dX3_init_48 : decode cX3_init 48 = .ok (.goto (-22), 3) := by decide +kernel
theorem dX3_init_51 : decode cX3_init 51 = .ok (.return_, 1) := by decide +kernel
theorem dX3_keep_0 : decode cX3_keep 0 = .ok (.aload_n 0, 1) := by decide +kernel
theorem dX3_keep_1 : decode cX3_keep 1 = .ok (.getfield 18, 3) := by decide +kernel
theorem dX3_keep_4 : decode cX3_keep 4 = .ok (.aload_n 0, 1) := by decide +kernel
theorem dX3_keep_5 : decode cX3_keep 5 = .ok (.getfield 22, 3) := by decide +kernel
theorem dX3_keep_8 : decode cX3_keep 8 = .ok (.aaload, 1) := by decide +kernel
theorem dX3_keep_9 : decode cX3_keep 9 = .ok (.aload_n 1, 1) := by decide +kernel
theorem dX3_keep_10 : decode cX3_keep 10 = .ok (.invokevirtual 26, 3) := by decide +kernel
theorem dX3_keep_13 : decode cX3_keep 13 = .ok (.return_, 1) := by decide +kernel
theorem dX3_giveUp_0 : decode cX3_giveUp 0 = .ok (.aload_n 1, 1) := by decide +kernel
theorem dX3_giveUp_1 : decode cX3_giveUp 1 = .ok (.aload_n 0, 1) := by decide +kernel
theorem dX3_giveUp_2 : decode cX3_giveUp 2 = .ok (.getfield 18, 3) := by decide +kernel
theorem dX3_giveUp_5 : decode cX3_giveUp 5 = .ok (.aload_n 0, 1) := by decide +kernel
theorem dX3_giveUp_6 : decode cX3_giveUp 6 = .ok (.getfield 22, 3) := by decide +kernel
theorem dX3_giveUp_9 : decode cX3_giveUp 9 = .ok (.aaload, 1) := by decide +kernel
theorem dX3_giveUp_10 : decode cX3_giveUp 10 = .ok (.invokevirtual 26, 3) := by decide +kernel
theorem dX3_giveUp_13 : decode cX3_giveUp 13 = .ok (.return_, 1) := by decide +kernel
theorem dX3_push_0 : decode cX3_push 0 = .ok (.aload_n 0, 1) := by decide +kernel
theorem dX3_push_1 : decode cX3_push 1 = .ok (.aload_n 0, 1) := by decide +kernel
theorem dX3_push_2 : decode cX3_push 2 = .ok (.getfield 22, 3) := by decide +kernel
theorem dX3_push_5 : decode cX3_push 5 = .ok (.iconst 1, 1) := by decide +kernel
theorem dX3_push_6 : decode cX3_push 6 = .ok (.iadd, 1) := by decide +kernel
theorem dX3_push_7 : decode cX3_push 7 = .ok (.bipush 9, 2) := by decide +kernel
theorem dX3_push_9 : decode cX3_push 9 = .ok (.irem, 1) := by decide +kernel
theorem dX3_push_10 : decode cX3_push 10 = .ok (.putfield 22, 3) := by decide +kernel
theorem dX3_push_13 : decode cX3_push 13 = .ok (.aload_n 0, 1) := by decide +kernel
theorem dX3_push_14 : decode cX3_push 14 = .ok (.aload_n 0, 1) := by decide +kernel
theorem dX3_push_15 : decode cX3_push 15 = .ok (.getfield 30, 3) := by decide +kernel
theorem dX3_push_18 : decode cX3_push 18 = .ok (.iconst 1, 1) := by decide +kernel
theorem dX3_push_19 : decode cX3_push 19 = .ok (.iadd, 1) := by decide +kernel
theorem dX3_push_20 : decode cX3_push 20 = .ok (.bipush 8, 2) := by decide +kernel
theorem dX3_push_22 : decode cX3_push 22 = .ok (.invokestatic 33, 3) := by decide +kernel
theorem dX3_push_25 : decode cX3_push 25 = .ok (.putfield 30, 3) := by decide +kernel
theorem dX3_push_28 : decode cX3_push 28 = .ok (.return_, 1) := by decide +kernel
theorem dX3_pop_0 : decode cX3_pop 0 = .ok (.aload_n 0, 1) := by decide +kernel
theorem dX3_pop_1 : decode cX3_pop 1 = .ok (.aload_n 0, 1) := by decide +kernel
theorem dX3_pop_2 : decode cX3_pop 2 = .ok (.getfield 22, 3) := by decide +kernel
theorem dX3_pop_5 : decode cX3_pop 5 = .ok (.bipush 8, 2) := by decide +kernel
theorem dX3_pop_7 : decode cX3_pop 7 = .ok (.iadd, 1) := by decide +kernel
theorem dX3_pop_8 : decode cX3_pop 8 = .ok (.bipush 9, 2) := by decide +kernel
theorem dX3_pop_10 : decode cX3_pop 10 = .ok (.irem, 1) := by decide +kernel
theorem dX3_pop_11 : decode cX3_pop 11 = .ok (.putfield 22, 3) := by decide +kernel
theorem dX3_pop_14 : decode cX3_pop 14 = .ok (.aload_n 1, 1) := by decide +kernel
theorem dX3_pop_15 : decode cX3_pop 15 = .ok (.aload_n 0, 1) := by decide +kernel
theorem dX3_pop_16 : decode cX3_pop 16 = .ok (.getfield 18, 3) := by decide +kernel
theorem dX3_pop_19 : decode cX3_pop 19 = .ok (.aload_n 0, 1) := by decide +kernel
theorem dX3_pop_20 : decode cX3_pop 20 = .ok (.getfield 22, 3) := by decide +kernel
theorem dX3_pop_23 : decode cX3_pop 23 = .ok (.aaload, 1) := by decide +kernel
theorem dX3_pop_24 : decode cX3_pop 24 = .ok (.invokevirtual 26, 3) := by decide +kernel
theorem dX3_pop_27 : decode cX3_pop 27 = .ok (.aload_n 0, 1) := by decide +kernel
theorem dX3_pop_28 : decode cX3_pop 28 = .ok (.dup, 1) := by decide +kernel
theorem dX3_pop_29 : decode cX3_pop 29 = .ok (.getfield 30, 3) := by decide +kernel
theorem dX3_pop_32 : decode cX3_pop 32 = .ok (.iconst 1, 1) := by decide +kernel
theorem dX3_pop_33 : decode cX3_pop 33 = .ok (.isub, 1) := by decide +kernel
theorem dX3_pop_34 : decode cX3_pop 34 = .ok (.putfield 30, 3) := by decide +kernel
theorem dX3_pop_37 : decode cX3_pop 37 = .ok (.return_, 1) := by decide +kernel
theorem dX4_init_0 : decode cX4_init 0 = .ok (.aload_n 0, 1) := by decide +kernel
theorem dX4_init_1 : decode cX4_init 1 = .ok (.invokespecial 3, 3) := by decide +kernel
theorem dX4_init_4 : decode cX4_init 4 = .ok (.aload_n 0, 1) := by decide +kernel
theorem dX4_init_5 : decode cX4_init 5 = .ok (.bipush 40, 2) := by decide +kernel
theorem dX4_init_7 : decode cX4_init 7 = .ok (.newarray .int, 2) := by decide +kernel
theorem dX4_init_9 : decode cX4_init 9 = .ok (.putfield 9, 3) := by decide +kernel
theorem dX4_init_12 : decode cX4_init 12 = .ok (.return_, 1) := by decide +kernel
theorem dX4_begin_0 : decode cX4_begin 0 = .ok (.aload_n 0, 1) := by decide +kernel
theorem dX4_begin_1 : decode cX4_begin 1 = .ok (.iload_n 1, 1) := by decide +kernel
theorem dX4_begin_2 : decode cX4_begin 2 = .ok (.putfield 15, 3) := by decide +kernel
theorem dX4_begin_5 : decode cX4_begin 5 = .ok (.aload_n 0, 1) := by decide +kernel
theorem dX4_begin_6 : decode cX4_begin 6 = .ok (.iload_n 2, 1) := by decide +kernel
theorem dX4_begin_7 : decode cX4_begin 7 = .ok (.putfield 19, 3) := by decide +kernel
theorem dX4_begin_10 : decode cX4_begin 10 = .ok (.aload_n 0, 1) := by decide +kernel
theorem dX4_begin_11 : decode cX4_begin 11 = .ok (.iload_n 3, 1) := by decide +kernel
theorem dX4_begin_12 : decode cX4_begin 12 = .ok (.putfield 22, 3) := by decide +kernel
theorem dX4_begin_15 : decode cX4_begin 15 = .ok (.aload_n 0, 1) := by decide +kernel
theorem dX4_begin_16 : decode cX4_begin 16 = .ok (.iload 4, 2) := by decide +kernel
theorem dX4_begin_18 : decode cX4_begin 18 = .ok (.putfield 25, 3) := by decide +kernel
theorem dX4_begin_21 : decode cX4_begin 21 = .ok (.aload_n 0, 1) := by decide +kernel
theorem dX4_begin_22 : decode cX4_begin 22 = .ok (.iload 5, 2) := by decide +kernel
theorem dX4_begin_24 : decode cX4_begin 24 = .ok (.putfield 28, 3) := by decide +kernel
theorem dX4_begin_27 : decode cX4_begin 27 = .ok (.aload_n 0, 1) := by decide +kernel
theorem dX4_begin_28 : decode cX4_begin 28 = .ok (.iload 6, 2) := by decide +kernel
theorem dX4_begin_30 : decode cX4_begin 30 = .ok (.putfield 31, 3) := by decide +kernel
theorem dX4_begin_33 : decode cX4_begin 33 = .ok (.aload_n 0, 1) := by decide +kernel
theorem dX4_begin_34 : decode cX4_begin 34 = .ok (.iconst 0, 1) := by decide +kernel
theorem dX4_begin_35 : decode cX4_begin 35 = .ok (.iconst 1, 1) := by decide +kernel
theorem dX4_begin_36 : decode cX4_begin 36 = .ok (.iconst 0, 1) := by decide +kernel
theorem dX4_begin_37 : decode cX4_begin 37 = .ok (.invokevirtual 34, 3) := by decide +kernel
theorem dX4_begin_40 : decode cX4_begin 40 = .ok (.return_, 1) := by decide +kernel
theorem dX4_repeat_0 : decode cX4_repeat 0 = .ok (.aload_n 0, 1) := by decide +kernel
theorem dX4_repeat_1 : decode cX4_repeat 1 = .ok (.iload_n 1, 1) := by decide +kernel
theorem dX4_repeat_2 : decode cX4_repeat 2 = .ok (.putfield 38, 3) := by decide +kernel
theorem dX4_repeat_5 : decode cX4_repeat 5 = .ok (.aload_n 0, 1) := by decide +kernel
theorem dX4_repeat_6 : decode cX4_repeat 6 = .ok (.iload_n 2, 1) := by decide +kernel
theorem dX4_repeat_7 : decode cX4_repeat 7 = .ok (.putfield 41, 3) := by decide +kernel
theorem dX4_repeat_10 : decode cX4_repeat 10 = .ok (.aload_n 0, 1) := by decide +kernel
theorem dX4_repeat_11 : decode cX4_repeat 11 = .ok (.iload_n 3, 1) := by decide +kernel
theorem dX4_repeat_12 : decode cX4_repeat 12 = .ok (.putfield 44, 3) := by decide +kernel
theorem dX4_repeat_15 : decode cX4_repeat 15 = .ok (.aload_n 0, 1) := by decide +kernel
theorem dX4_repeat_16 : decode cX4_repeat 16 = .ok (.lconst 0, 1) := by decide +kernel
theorem dX4_repeat_17 : decode cX4_repeat 17 = .ok (.putfield 47, 3) := by decide +kernel
theorem dX4_repeat_20 : decode cX4_repeat 20 = .ok (.iconst 0, 1) := by decide +kernel
theorem dX4_repeat_21 : decode cX4_repeat 21 = .ok (.istore 4, 2) := by decide +kernel
theorem dX4_repeat_23 : decode cX4_repeat 23 = .ok (.iload 4, 2) := by decide +kernel
theorem dX4_repeat_25 : decode cX4_repeat 25 = .ok (.bipush 40, 2) := by decide +kernel
theorem dX4_repeat_27 : decode cX4_repeat 27 = .ok (.if_icmp .ge 17, 3) := by decide +kernel
theorem dX4_repeat_30 : decode cX4_repeat 30 = .ok (.aload_n 0, 1) := by decide +kernel
theorem dX4_repeat_31 : decode cX4_repeat 31 = .ok (.getfield 9, 3) := by decide +kernel
theorem dX4_repeat_34 : decode cX4_repeat 34 = .ok (.iload 4, 2) := by decide +kernel
theorem dX4_repeat_36 : decode cX4_repeat 36 = .ok (.iconst 0, 1) := by decide +kernel
theorem dX4_repeat_37 : decode cX4_repeat 37 = .ok (.iastore, 1) := by decide +kernel
theorem dX4_repeat_38 : decode cX4_repeat 38 = .ok (.iinc 4 1, 3) := by decide +kernel
theorem dX4_repeat_41 : decode cX4_repeat 41 = .ok (.goto (-18), 3) := by decide +kernel
theorem dX4_repeat_44 : decode cX4_repeat 44 = .ok (.return_, 1) := by decide +kernel
theorem dX4_copyFrom_0 : decode cX4_copyFrom 0 = .ok (.aload_n 0, 1) := by decide +kernel
theorem dX4_copyFrom_1 : decode cX4_copyFrom 1 = .ok (.aload_n 1, 1) := by decide +kernel
theorem dX4_copyFrom_2 : decode cX4_copyFrom 2 = .ok (.getfield 15, 3) := by decide +kernel
theorem dX4_copyFrom_5 : decode cX4_copyFrom 5 = .ok (.putfield 15, 3) := by decide +kernel
theorem dX4_copyFrom_8 : decode cX4_copyFrom 8 = .ok (.aload_n 0, 1) := by decide +kernel
theorem dX4_copyFrom_9 : decode cX4_copyFrom 9 = .ok (.aload_n 1, 1) := by decide +kernel
theorem dX4_copyFrom_10 : decode cX4_copyFrom 10 = .ok (.getfield 19, 3) := by decide +kernel
theorem dX4_copyFrom_13 : decode cX4_copyFrom 13 = .ok (.putfield 19, 3) := by decide +kernel
theorem dX4_copyFrom_16 : decode cX4_copyFrom 16 = .ok (.aload_n 0, 1) := by decide +kernel
theorem dX4_copyFrom_17 : decode cX4_copyFrom 17 = .ok (.aload_n 1, 1) := by decide +kernel
theorem dX4_copyFrom_18 : decode cX4_copyFrom 18 = .ok (.getfield 22, 3) := by decide +kernel
theorem dX4_copyFrom_21 : decode cX4_copyFrom 21 = .ok (.putfield 22, 3) := by decide +kernel
theorem dX4_copyFrom_24 : decode cX4_copyFrom 24 = .ok (.aload_n 0, 1) := by decide +kernel
theorem dX4_copyFrom_25 : decode cX4_copyFrom 25 = .ok (.aload_n 1, 1) := by decide +kernel
theorem dX4_copyFrom_26 : decode cX4_copyFrom 26 = .ok (.getfield 25, 3) := by decide +kernel
theorem dX4_copyFrom_29 : decode cX4_copyFrom 29 = .ok (.putfield 25, 3) := by decide +kernel
theorem dX4_copyFrom_32 : decode cX4_copyFrom 32 = .ok (.aload_n 0, 1) := by decide +kernel
theorem dX4_copyFrom_33 : decode cX4_copyFrom 33 = .ok (.aload_n 1, 1) := by decide +kernel
theorem dX4_copyFrom_34 : decode cX4_copyFrom 34 = .ok (.getfield 28, 3) := by decide +kernel
theorem dX4_copyFrom_37 : decode cX4_copyFrom 37 = .ok (.putfield 28, 3) := by decide +kernel
theorem dX4_copyFrom_40 : decode cX4_copyFrom 40 = .ok (.aload_n 0, 1) := by decide +kernel
theorem dX4_copyFrom_41 : decode cX4_copyFrom 41 = .ok (.aload_n 1, 1) := by decide +kernel
theorem dX4_copyFrom_42 : decode cX4_copyFrom 42 = .ok (.getfield 31, 3) := by decide +kernel
theorem dX4_copyFrom_45 : decode cX4_copyFrom 45 = .ok (.putfield 31, 3) := by decide +kernel
theorem dX4_copyFrom_48 : decode cX4_copyFrom 48 = .ok (.aload_n 0, 1) := by decide +kernel
theorem dX4_copyFrom_49 : decode cX4_copyFrom 49 = .ok (.aload_n 1, 1) := by decide +kernel
theorem dX4_copyFrom_50 : decode cX4_copyFrom 50 = .ok (.getfield 38, 3) := by decide +kernel
theorem dX4_copyFrom_53 : decode cX4_copyFrom 53 = .ok (.putfield 38, 3) := by decide +kernel
theorem dX4_copyFrom_56 : decode cX4_copyFrom 56 = .ok (.aload_n 0, 1) := by decide +kernel
theorem dX4_copyFrom_57 : decode cX4_copyFrom 57 = .ok (.aload_n 1, 1) := by decide +kernel
theorem dX4_copyFrom_58 : decode cX4_copyFrom 58 = .ok (.getfield 41, 3) := by decide +kernel
theorem dX4_copyFrom_61 : decode cX4_copyFrom 61 = .ok (.putfield 41, 3) := by decide +kernel
theorem dX4_copyFrom_64 : decode cX4_copyFrom 64 = .ok (.aload_n 0, 1) := by decide +kernel
theorem dX4_copyFrom_65 : decode cX4_copyFrom 65 = .ok (.aload_n 1, 1) := by decide +kernel
theorem dX4_copyFrom_66 : decode cX4_copyFrom 66 = .ok (.getfield 44, 3) := by decide +kernel
theorem dX4_copyFrom_69 : decode cX4_copyFrom 69 = .ok (.putfield 44, 3) := by decide +kernel
theorem dX4_copyFrom_72 : decode cX4_copyFrom 72 = .ok (.aload_n 0, 1) := by decide +kernel
theorem dX4_copyFrom_73 : decode cX4_copyFrom 73 = .ok (.aload_n 1, 1) := by decide +kernel
theorem dX4_copyFrom_74 : decode cX4_copyFrom 74 = .ok (.getfield 47, 3) := by decide +kernel
theorem dX4_copyFrom_77 : decode cX4_copyFrom 77 = .ok (.putfield 47, 3) := by decide +kernel
theorem dX4_copyFrom_80 : decode cX4_copyFrom 80 = .ok (.aload_n 1, 1) := by decide +kernel
theorem dX4_copyFrom_81 : decode cX4_copyFrom 81 = .ok (.getfield 9, 3) := by decide +kernel
theorem dX4_copyFrom_84 : decode cX4_copyFrom 84 = .ok (.iconst 0, 1) := by decide +kernel
theorem dX4_copyFrom_85 : decode cX4_copyFrom 85 = .ok (.aload_n 0, 1) := by decide +kernel
theorem dX4_copyFrom_86 : decode cX4_copyFrom 86 = .ok (.getfield 9, 3) := by decide +kernel
theorem dX4_copyFrom_89 : decode cX4_copyFrom 89 = .ok (.iconst 0, 1) := by decide +kernel
theorem dX4_copyFrom_90 : decode cX4_copyFrom 90 = .ok (.bipush 40, 2) := by decide +kernel
theorem dX4_copyFrom_92 : decode cX4_copyFrom 92 = .ok (.invokestatic 51, 3) := by decide +kernel
theorem dX4_copyFrom_95 : decode cX4_copyFrom 95 = .ok (.return_, 1) := by decide +kernel
theorem dX4_isCancelled_0 : decode cX4_isCancelled 0 = .ok (.aload_n 0, 1) := by decide +kernel
theorem dX4_isCancelled_1 : decode cX4_isCancelled 1 = .ok (.getfield 47, 3) := by decide +kernel
theorem dX4_isCancelled_4 : decode cX4_isCancelled 4 = .ok (.iload_n 1, 1) := by decide +kernel
theorem dX4_isCancelled_5 : decode cX4_isCancelled 5 = .ok (.lshr, 1) := by decide +kernel
theorem dX4_isCancelled_6 : decode cX4_isCancelled 6 = .ok (.lconst 1, 1) := by decide +kernel
theorem dX4_isCancelled_7 : decode cX4_isCancelled 7 = .ok (.land, 1) := by decide +kernel
theorem dX4_isCancelled_8 : decode cX4_isCancelled 8 = .ok (.lconst 0, 1) := by decide +kernel
theorem dX4_isCancelled_9 : decode cX4_isCancelled 9 = .ok (.lcmp, 1) := by decide +kernel
theorem dX4_isCancelled_10 : decode cX4_isCancelled 10 = .ok (.ifCond .eq 7, 3) := by decide +kernel
theorem dX4_isCancelled_13 : decode cX4_isCancelled 13 = .ok (.iconst 1, 1) := by decide +kernel
theorem dX4_isCancelled_14 : decode cX4_isCancelled 14 = .ok (.goto 4, 3) := by decide +kernel
theorem dX4_isCancelled_17 : decode cX4_isCancelled 17 = .ok (.iconst 0, 1) := by decide +kernel
theorem dX4_isCancelled_18 : decode cX4_isCancelled 18 = .ok (.ireturn, 1) := by decide +kernel
theorem dX5_init_0 : decode cX5_init 0 = .ok (.aload_n 0, 1) := by decide +kernel
theorem dX5_init_1 : decode cX5_init 1 = .ok (.invokespecial 3, 3) := by decide +kernel
theorem dX5_init_4 : decode cX5_init 4 = .ok (.aload_n 0, 1) := by decide +kernel
theorem dX5_init_5 : decode cX5_init 5 = .ok (.bipush 40, 2) := by decide +kernel
theorem dX5_init_7 : decode cX5_init 7 = .ok (.newarray .int, 2) := by decide +kernel
theorem dX5_init_9 : decode cX5_init 9 = .ok (.putfield 9, 3) := by decide +kernel
theorem dX5_init_12 : decode cX5_init 12 = .ok (.aload_n 0, 1) := by decide +kernel
theorem dX5_init_13 : decode cX5_init 13 = .ok (.bipush 40, 2) := by decide +kernel
theorem dX5_init_15 : decode cX5_init 15 = .ok (.newarray .int, 2) := by decide +kernel
theorem dX5_init_17 : decode cX5_init 17 = .ok (.putfield 15, 3) := by decide +kernel
theorem dX5_init_20 : decode cX5_init 20 = .ok (.return_, 1) := by decide +kernel
theorem dX5_spoil_0 : decode cX5_spoil 0 = .ok (.aload_n 0, 1) := by decide +kernel
theorem dX5_spoil_1 : decode cX5_spoil 1 = .ok (.iconst 0, 1) := by decide +kernel
theorem dX5_spoil_2 : decode cX5_spoil 2 = .ok (.putfield 18, 3) := by decide +kernel
theorem dX5_spoil_5 : decode cX5_spoil 5 = .ok (.aload_n 0, 1) := by decide +kernel
theorem dX5_spoil_6 : decode cX5_spoil 6 = .ok (.iconst 0, 1) := by decide +kernel
theorem dX5_spoil_7 : decode cX5_spoil 7 = .ok (.putfield 22, 3) := by decide +kernel
theorem dX5_spoil_10 : decode cX5_spoil 10 = .ok (.return_, 1) := by decide +kernel
theorem dX5_layOut_0 : decode cX5_layOut 0 = .ok (.aload_n 0, 1) := by decide +kernel
theorem dX5_layOut_1 : decode cX5_layOut 1 = .ok (.iconst 0, 1) := by decide +kernel
theorem dX5_layOut_2 : decode cX5_layOut 2 = .ok (.putfield 25, 3) := by decide +kernel
theorem dX5_layOut_5 : decode cX5_layOut 5 = .ok (.aload_n 1, 1) := by decide +kernel
theorem dX5_layOut_6 : decode cX5_layOut 6 = .ok (.getfield 29, 3) := by decide +kernel
theorem dX5_layOut_9 : decode cX5_layOut 9 = .ok (.lookupswitch 43 #[(0, 27), (1, 35)], 27) := by decide +kernel
theorem dX5_layOut_36 : decode cX5_layOut 36 = .ok (.aload_n 0, 1) := by decide +kernel
theorem dX5_layOut_37 : decode cX5_layOut 37 = .ok (.aload_n 1, 1) := by decide +kernel
theorem dX5_layOut_38 : decode cX5_layOut 38 = .ok (.invokevirtual 34, 3) := by decide +kernel
theorem dX5_layOut_41 : decode cX5_layOut 41 = .ok (.goto 16, 3) := by decide +kernel
theorem dX5_layOut_44 : decode cX5_layOut 44 = .ok (.aload_n 0, 1) := by decide +kernel
theorem dX5_layOut_45 : decode cX5_layOut 45 = .ok (.aload_n 1, 1) := by decide +kernel
theorem dX5_layOut_46 : decode cX5_layOut 46 = .ok (.invokevirtual 38, 3) := by decide +kernel
theorem dX5_layOut_49 : decode cX5_layOut 49 = .ok (.goto 8, 3) := by decide +kernel
theorem dX5_layOut_52 : decode cX5_layOut 52 = .ok (.aload_n 0, 1) := by decide +kernel
theorem dX5_layOut_53 : decode cX5_layOut 53 = .ok (.aload_n 1, 1) := by decide +kernel
theorem dX5_layOut_54 : decode cX5_layOut 54 = .ok (.invokevirtual 41, 3) := by decide +kernel
theorem dX5_layOut_57 : decode cX5_layOut 57 = .ok (.aload_n 0, 1) := by decide +kernel
theorem dX5_layOut_58 : decode cX5_layOut 58 = .ok (.iconst 1, 1) := by decide +kernel
theorem dX5_layOut_59 : decode cX5_layOut 59 = .ok (.putfield 18, 3) := by decide +kernel
theorem dX5_layOut_62 : decode cX5_layOut 62 = .ok (.return_, 1) := by decide +kernel
theorem dX5_layDays_0 : decode cX5_layDays 0 = .ok (.iconst 0, 1) := by decide +kernel
theorem dX5_layDays_1 : decode cX5_layDays 1 = .ok (.istore_n 2, 1) := by decide +kernel
theorem dX5_layDays_2 : decode cX5_layDays 2 = .ok (.iload_n 2, 1) := by decide +kernel
theorem dX5_layDays_3 : decode cX5_layDays 3 = .ok (.aload_n 1, 1) := by decide +kernel
theorem dX5_layDays_4 : decode cX5_layDays 4 = .ok (.getfield 44, 3) := by decide +kernel
theorem dX5_layDays_7 : decode cX5_layDays 7 = .ok (.if_icmp .ge 25, 3) := by decide +kernel
theorem dX5_layDays_10 : decode cX5_layDays 10 = .ok (.aload_n 0, 1) := by decide +kernel
theorem dX5_layDays_11 : decode cX5_layDays 11 = .ok (.aload_n 1, 1) := by decide +kernel
theorem dX5_layDays_12 : decode cX5_layDays 12 = .ok (.aload_n 1, 1) := by decide +kernel
theorem dX5_layDays_13 : decode cX5_layDays 13 = .ok (.getfield 45, 3) := by decide +kernel
theorem dX5_layDays_16 : decode cX5_layDays 16 = .ok (.iload_n 2, 1) := by decide +kernel
theorem dX5_layDays_17 : decode cX5_layDays 17 = .ok (.aload_n 1, 1) := by decide +kernel
theorem dX5_layDays_18 : decode cX5_layDays 18 = .ok (.getfield 48, 3) := by decide +kernel
theorem dX5_layDays_21 : decode cX5_layDays 21 = .ok (.imul, 1) := by decide +kernel
theorem dX5_layDays_22 : decode cX5_layDays 22 = .ok (.iadd, 1) := by decide +kernel
theorem dX5_layDays_23 : decode cX5_layDays 23 = .ok (.invokevirtual 51, 3) := by decide +kernel
theorem dX5_layDays_26 : decode cX5_layDays 26 = .ok (.iinc 2 1, 3) := by decide +kernel
theorem dX5_layDays_29 : decode cX5_layDays 29 = .ok (.goto (-27), 3) := by decide +kernel
theorem dX5_layDays_32 : decode cX5_layDays 32 = .ok (.return_, 1) := by decide +kernel
theorem dX5_layWeeks_0 : decode cX5_layWeeks 0 = .ok (.aload_n 1, 1) := by decide +kernel
theorem dX5_layWeeks_1 : decode cX5_layWeeks 1 = .ok (.getfield 45, 3) := by decide +kernel
theorem dX5_layWeeks_4 : decode cX5_layWeeks 4 = .ok (.aload_n 1, 1) := by decide +kernel
theorem dX5_layWeeks_5 : decode cX5_layWeeks 5 = .ok (.getfield 45, 3) := by decide +kernel
theorem dX5_layWeeks_8 : decode cX5_layWeeks 8 = .ok (.invokestatic 55, 3) := by decide +kernel
theorem dX5_layWeeks_11 : decode cX5_layWeeks 11 = .ok (.isub, 1) := by decide +kernel
theorem dX5_layWeeks_12 : decode cX5_layWeeks 12 = .ok (.istore_n 2, 1) := by decide +kernel
theorem dX5_layWeeks_13 : decode cX5_layWeeks 13 = .ok (.iload_n 2, 1) := by decide +kernel
theorem dX5_layWeeks_14 : decode cX5_layWeeks 14 = .ok (.sipush 11687, 3) := by decide +kernel
theorem dX5_layWeeks_17 : decode cX5_layWeeks 17 = .ok (.if_icmp .gt 64, 3) := by decide +kernel
theorem dX5_layWeeks_20 : decode cX5_layWeeks 20 = .ok (.aload_n 0, 1) := by decide +kernel
theorem dX5_layWeeks_21 : decode cX5_layWeeks 21 = .ok (.getfield 25, 3) := by decide +kernel
theorem dX5_layWeeks_24 : decode cX5_layWeeks 24 = .ok (.aload_n 1, 1) := by decide +kernel
theorem dX5_layWeeks_25 : decode cX5_layWeeks 25 = .ok (.getfield 44, 3) := by decide +kernel
theorem dX5_layWeeks_28 : decode cX5_layWeeks 28 = .ok (.if_icmp .ge 53, 3) := by decide +kernel
theorem dX5_layWeeks_31 : decode cX5_layWeeks 31 = .ok (.iconst 0, 1) := by decide +kernel
theorem dX5_layWeeks_32 : decode cX5_layWeeks 32 = .ok (.istore_n 3, 1) := by decide +kernel
theorem dX5_layWeeks_33 : decode cX5_layWeeks 33 = .ok (.iload_n 3, 1) := by decide +kernel
theorem dX5_layWeeks_34 : decode cX5_layWeeks 34 = .ok (.bipush 7, 2) := by decide +kernel
theorem dX5_layWeeks_36 : decode cX5_layWeeks 36 = .ok (.if_icmp .ge 28, 3) := by decide +kernel
theorem dX5_layWeeks_39 : decode cX5_layWeeks 39 = .ok (.aload_n 1, 1) := by decide +kernel
theorem dX5_layWeeks_40 : decode cX5_layWeeks 40 = .ok (.getfield 61, 3) := by decide +kernel
theorem dX5_layWeeks_43 : decode cX5_layWeeks 43 = .ok (.iload_n 3, 1) := by decide +kernel
theorem dX5_layWeeks_44 : decode cX5_layWeeks 44 = .ok (.ishr, 1) := by decide +kernel
theorem dX5_layWeeks_45 : decode cX5_layWeeks 45 = .ok (.iconst 1, 1) := by decide +kernel
theorem dX5_layWeeks_46 : decode cX5_layWeeks 46 = .ok (.iand, 1) := by decide +kernel
theorem dX5_layWeeks_47 : decode cX5_layWeeks 47 = .ok (.ifCond .eq 11, 3) := by decide +kernel
theorem dX5_layWeeks_50 : decode cX5_layWeeks 50 = .ok (.aload_n 0, 1) := by decide +kernel
theorem dX5_layWeeks_51 : decode cX5_layWeeks 51 = .ok (.aload_n 1, 1) := by decide +kernel
theorem dX5_layWeeks_52 : decode cX5_layWeeks 52 = .ok (.iload_n 2, 1) := by decide +kernel
theorem dX5_layWeeks_53 : decode cX5_layWeeks 53 = .ok (.iload_n 3, 1) := by decide +kernel
theorem dX5_layWeeks_54 : decode cX5_layWeeks 54 = .ok (.iadd, 1) := by decide +kernel
theorem dX5_layWeeks_55 : decode cX5_layWeeks 55 = .ok (.invokevirtual 51, 3) := by decide +kernel
theorem dX5_layWeeks_58 : decode cX5_layWeeks 58 = .ok (.iinc 3 1, 3) := by decide +kernel
theorem dX5_layWeeks_61 : decode cX5_layWeeks 61 = .ok (.goto (-28), 3) := by decide +kernel
theorem dX5_layWeeks_64 : decode cX5_layWeeks 64 = .ok (.iload_n 2, 1) := by decide +kernel
theorem dX5_layWeeks_65 : decode cX5_layWeeks 65 = .ok (.bipush 7, 2) := by decide +kernel
theorem dX5_layWeeks_67 : decode cX5_layWeeks 67 = .ok (.aload_n 1, 1) := by decide +kernel
theorem dX5_layWeeks_68 : decode cX5_layWeeks 68 = .ok (.getfield 48, 3) := by decide +kernel
theorem dX5_layWeeks_71 : decode cX5_layWeeks 71 = .ok (.iconst 1, 1) := by decide +kernel
theorem dX5_layWeeks_72 : decode cX5_layWeeks 72 = .ok (.invokestatic 64, 3) := by decide +kernel
theorem dX5_layWeeks_75 : decode cX5_layWeeks 75 = .ok (.imul, 1) := by decide +kernel
theorem dX5_layWeeks_76 : decode cX5_layWeeks 76 = .ok (.iadd, 1) := by decide +kernel
theorem dX5_layWeeks_77 : decode cX5_layWeeks 77 = .ok (.istore_n 2, 1) := by decide +kernel
theorem dX5_layWeeks_78 : decode cX5_layWeeks 78 = .ok (.goto (-65), 3) := by decide +kernel
theorem dX5_layWeeks_81 : decode cX5_layWeeks 81 = .ok (.return_, 1) := by decide +kernel
theorem dX5_layMonths_0 : decode cX5_layMonths 0 = .ok (.aload_n 1, 1) := by decide +kernel
theorem dX5_layMonths_1 : decode cX5_layMonths 1 = .ok (.getfield 45, 3) := by decide +kernel
theorem dX5_layMonths_4 : decode cX5_layMonths 4 = .ok (.invokestatic 70, 3) := by decide +kernel
theorem dX5_layMonths_7 : decode cX5_layMonths 7 = .ok (.istore_n 2, 1) := by decide +kernel
theorem dX5_layMonths_8 : decode cX5_layMonths 8 = .ok (.bipush 12, 2) := by decide +kernel
theorem dX5_layMonths_10 : decode cX5_layMonths 10 = .ok (.iload_n 2, 1) := by decide +kernel
theorem dX5_layMonths_11 : decode cX5_layMonths 11 = .ok (.imul, 1) := by decide +kernel
theorem dX5_layMonths_12 : decode cX5_layMonths 12 = .ok (.iload_n 2, 1) := by decide +kernel
theorem dX5_layMonths_13 : decode cX5_layMonths 13 = .ok (.aload_n 1, 1) := by decide +kernel
theorem dX5_layMonths_14 : decode cX5_layMonths 14 = .ok (.getfield 45, 3) := by decide +kernel
theorem dX5_layMonths_17 : decode cX5_layMonths 17 = .ok (.invokestatic 73, 3) := by decide +kernel
theorem dX5_layMonths_20 : decode cX5_layMonths 20 = .ok (.iadd, 1) := by decide +kernel
theorem dX5_layMonths_21 : decode cX5_layMonths 21 = .ok (.iconst 1, 1) := by decide +kernel
theorem dX5_layMonths_22 : decode cX5_layMonths 22 = .ok (.isub, 1) := by decide +kernel
theorem dX5_layMonths_23 : decode cX5_layMonths 23 = .ok (.istore_n 3, 1) := by decide +kernel
theorem dX5_layMonths_24 : decode cX5_layMonths 24 = .ok (.aload_n 1, 1) := by decide +kernel
theorem dX5_layMonths_25 : decode cX5_layMonths 25 = .ok (.getfield 45, 3) := by decide +kernel
theorem dX5_layMonths_28 : decode cX5_layMonths 28 = .ok (.iload_n 2, 1) := by decide +kernel
theorem dX5_layMonths_29 : decode cX5_layMonths 29 = .ok (.iload_n 3, 1) := by decide +kernel
theorem dX5_layMonths_30 : decode cX5_layMonths 30 = .ok (.bipush 12, 2) := by decide +kernel
theorem dX5_layMonths_32 : decode cX5_layMonths 32 = .ok (.irem, 1) := by decide +kernel
theorem dX5_layMonths_33 : decode cX5_layMonths 33 = .ok (.iconst 1, 1) := by decide +kernel
theorem dX5_layMonths_34 : decode cX5_layMonths 34 = .ok (.iadd, 1) := by decide +kernel
theorem dX5_layMonths_35 : decode cX5_layMonths 35 = .ok (.invokestatic 76, 3) := by decide +kernel
theorem dX5_layMonths_38 : decode cX5_layMonths 38 = .ok (.isub, 1) := by decide +kernel
theorem dX5_layMonths_39 : decode cX5_layMonths 39 = .ok (.istore 4, 2) := by decide +kernel
theorem dX5_layMonths_41 : decode cX5_layMonths 41 = .ok (.aload_n 1, 1) := by decide +kernel
theorem dX5_layMonths_42 : decode cX5_layMonths 42 = .ok (.getfield 45, 3) := by decide +kernel
theorem dX5_layMonths_45 : decode cX5_layMonths 45 = .ok (.invokestatic 55, 3) := by decide +kernel
theorem dX5_layMonths_48 : decode cX5_layMonths 48 = .ok (.istore 5, 2) := by decide +kernel
theorem dX5_layMonths_50 : decode cX5_layMonths 50 = .ok (.aload_n 1, 1) := by decide +kernel
theorem dX5_layMonths_51 : decode cX5_layMonths 51 = .ok (.getfield 48, 3) := by decide +kernel
theorem dX5_layMonths_54 : decode cX5_layMonths 54 = .ok (.iconst 1, 1) := by decide +kernel
theorem dX5_layMonths_55 : decode cX5_layMonths 55 = .ok (.invokestatic 64, 3) := by decide +kernel
theorem dX5_layMonths_58 : decode cX5_layMonths 58 = .ok (.istore 6, 2) := by decide +kernel
theorem dX5_layMonths_60 : decode cX5_layMonths 60 = .ok (.iload_n 3, 1) := by decide +kernel
theorem dX5_layMonths_61 : decode cX5_layMonths 61 = .ok (.istore 7, 2) := by decide +kernel
theorem dX5_layMonths_63 : decode cX5_layMonths 63 = .ok (.iload 7, 2) := by decide +kernel
theorem dX5_layMonths_65 : decode cX5_layMonths 65 = .ok (.sipush 384, 3) := by decide +kernel
theorem dX5_layMonths_68 : decode cX5_layMonths 68 = .ok (.if_icmp .ge 109, 3) := by decide +kernel
theorem dX5_layMonths_71 : decode cX5_layMonths 71 = .ok (.aload_n 0, 1) := by decide +kernel
theorem dX5_layMonths_72 : decode cX5_layMonths 72 = .ok (.getfield 25, 3) := by decide +kernel
theorem dX5_layMonths_75 : decode cX5_layMonths 75 = .ok (.aload_n 1, 1) := by decide +kernel
theorem dX5_layMonths_76 : decode cX5_layMonths 76 = .ok (.getfield 44, 3) := by decide +kernel
theorem dX5_layMonths_79 : decode cX5_layMonths 79 = .ok (.if_icmp .ge 98, 3) := by decide +kernel
theorem dX5_layMonths_82 : decode cX5_layMonths 82 = .ok (.iload 7, 2) := by decide +kernel
theorem dX5_layMonths_84 : decode cX5_layMonths 84 = .ok (.bipush 12, 2) := by decide +kernel
theorem dX5_layMonths_86 : decode cX5_layMonths 86 = .ok (.idiv, 1) := by decide +kernel
theorem dX5_layMonths_87 : decode cX5_layMonths 87 = .ok (.iload 7, 2) := by decide +kernel
theorem dX5_layMonths_89 : decode cX5_layMonths 89 = .ok (.bipush 12, 2) := by decide +kernel
theorem dX5_layMonths_91 : decode cX5_layMonths 91 = .ok (.irem, 1) := by decide +kernel
theorem dX5_layMonths_92 : decode cX5_layMonths 92 = .ok (.iconst 1, 1) := by decide +kernel
theorem dX5_layMonths_93 : decode cX5_layMonths 93 = .ok (.iadd, 1) := by decide +kernel
theorem dX5_layMonths_94 : decode cX5_layMonths 94 = .ok (.invokestatic 76, 3) := by decide +kernel
theorem dX5_layMonths_97 : decode cX5_layMonths 97 = .ok (.istore 8, 2) := by decide +kernel
theorem dX5_layMonths_99 : decode cX5_layMonths 99 = .ok (.iload 8, 2) := by decide +kernel
theorem dX5_layMonths_101 : decode cX5_layMonths 101 = .ok (.iload 7, 2) := by decide +kernel
theorem dX5_layMonths_103 : decode cX5_layMonths 103 = .ok (.bipush 12, 2) := by decide +kernel
theorem dX5_layMonths_105 : decode cX5_layMonths 105 = .ok (.idiv, 1) := by decide +kernel
theorem dX5_layMonths_106 : decode cX5_layMonths 106 = .ok (.iload 7, 2) := by decide +kernel
theorem dX5_layMonths_108 : decode cX5_layMonths 108 = .ok (.bipush 12, 2) := by decide +kernel
theorem dX5_layMonths_110 : decode cX5_layMonths 110 = .ok (.irem, 1) := by decide +kernel
theorem dX5_layMonths_111 : decode cX5_layMonths 111 = .ok (.iconst 1, 1) := by decide +kernel
theorem dX5_layMonths_112 : decode cX5_layMonths 112 = .ok (.iadd, 1) := by decide +kernel
theorem dX5_layMonths_113 : decode cX5_layMonths 113 = .ok (.invokestatic 79, 3) := by decide +kernel
theorem dX5_layMonths_116 : decode cX5_layMonths 116 = .ok (.iadd, 1) := by decide +kernel
theorem dX5_layMonths_117 : decode cX5_layMonths 117 = .ok (.istore 9, 2) := by decide +kernel
theorem dX5_layMonths_119 : decode cX5_layMonths 119 = .ok (.aload_n 1, 1) := by decide +kernel
theorem dX5_layMonths_120 : decode cX5_layMonths 120 = .ok (.getfield 29, 3) := by decide +kernel
theorem dX5_layMonths_123 : decode cX5_layMonths 123 = .ok (.iconst 2, 1) := by decide +kernel
theorem dX5_layMonths_124 : decode cX5_layMonths 124 = .ok (.if_icmp .ne 11, 3) := by decide +kernel
theorem dX5_layMonths_127 : decode cX5_layMonths 127 = .ok (.iload 8, 2) := by decide +kernel
theorem dX5_layMonths_129 : decode cX5_layMonths 129 = .ok (.iload 4, 2) := by decide +kernel
theorem dX5_layMonths_131 : decode cX5_layMonths 131 = .ok (.iadd, 1) := by decide +kernel
theorem dX5_layMonths_132 : decode cX5_layMonths 132 = .ok (.goto 19, 3) := by decide +kernel
theorem dX5_layMonths_135 : decode cX5_layMonths 135 = .ok (.iload 8, 2) := by decide +kernel
theorem dX5_layMonths_137 : decode cX5_layMonths 137 = .ok (.iload 5, 2) := by decide +kernel
theorem dX5_layMonths_139 : decode cX5_layMonths 139 = .ok (.invokestatic 82, 3) := by decide +kernel
theorem dX5_layMonths_142 : decode cX5_layMonths 142 = .ok (.iload 4, 2) := by decide +kernel
theorem dX5_layMonths_144 : decode cX5_layMonths 144 = .ok (.bipush 7, 2) := by decide +kernel
theorem dX5_layMonths_146 : decode cX5_layMonths 146 = .ok (.idiv, 1) := by decide +kernel
theorem dX5_layMonths_147 : decode cX5_layMonths 147 = .ok (.bipush 7, 2) := by decide +kernel
theorem dX5_layMonths_149 : decode cX5_layMonths 149 = .ok (.imul, 1) := by decide +kernel
theorem dX5_layMonths_150 : decode cX5_layMonths 150 = .ok (.iadd, 1) := by decide +kernel
theorem dX5_layMonths_151 : decode cX5_layMonths 151 = .ok (.istore 10, 2) := by decide +kernel
theorem dX5_layMonths_153 : decode cX5_layMonths 153 = .ok (.iload 10, 2) := by decide +kernel
theorem dX5_layMonths_155 : decode cX5_layMonths 155 = .ok (.iload 9, 2) := by decide +kernel
theorem dX5_layMonths_157 : decode cX5_layMonths 157 = .ok (.if_icmp .ge 10, 3) := by decide +kernel
theorem dX5_layMonths_160 : decode cX5_layMonths 160 = .ok (.aload_n 0, 1) := by decide +kernel
theorem dX5_layMonths_161 : decode cX5_layMonths 161 = .ok (.aload_n 1, 1) := by decide +kernel
theorem dX5_layMonths_162 : decode cX5_layMonths 162 = .ok (.iload 10, 2) := by decide +kernel
theorem dX5_layMonths_164 : decode cX5_layMonths 164 = .ok (.invokevirtual 51, 3) := by decide +kernel
theorem dX5_layMonths_167 : decode cX5_layMonths 167 = .ok (.iload 7, 2) := by decide +kernel
theorem dX5_layMonths_169 : decode cX5_layMonths 169 = .ok (.iload 6, 2) := by decide +kernel
theorem dX5_layMonths_171 : decode cX5_layMonths 171 = .ok (.iadd, 1) := by decide +kernel
theorem dX5_layMonths_172 : decode cX5_layMonths 172 = .ok (.istore 7, 2) := by decide +kernel
theorem dX5_layMonths_174 : decode cX5_layMonths 174 = .ok (.goto (-111), 3) := by decide +kernel
theorem dX5_layMonths_177 : decode cX5_layMonths 177 = .ok (.return_, 1) := by decide +kernel
theorem dX5_putDay_0 : decode cX5_putDay 0 = .ok (.iload_n 2, 1) := by decide +kernel
theorem dX5_putDay_1 : decode cX5_putDay 1 = .ok (.aload_n 1, 1) := by decide +kernel
theorem dX5_putDay_2 : decode cX5_putDay 2 = .ok (.getfield 45, 3) := by decide +kernel
theorem dX5_putDay_5 : decode cX5_putDay 5 = .ok (.if_icmp .lt 53, 3) := by decide +kernel
theorem dX5_putDay_8 : decode cX5_putDay 8 = .ok (.iload_n 2, 1) := by decide +kernel
theorem dX5_putDay_9 : decode cX5_putDay 9 = .ok (.sipush 11687, 3) := by decide +kernel
theorem dX5_putDay_12 : decode cX5_putDay 12 = .ok (.if_icmp .gt 46, 3) := by decide +kernel
theorem dX5_putDay_15 : decode cX5_putDay 15 = .ok (.aload_n 0, 1) := by decide +kernel
theorem dX5_putDay_16 : decode cX5_putDay 16 = .ok (.getfield 25, 3) := by decide +kernel
theorem dX5_putDay_19 : decode cX5_putDay 19 = .ok (.aload_n 1, 1) := by decide +kernel
theorem dX5_putDay_20 : decode cX5_putDay 20 = .ok (.getfield 44, 3) := by decide +kernel
theorem dX5_putDay_23 : decode cX5_putDay 23 = .ok (.if_icmp .ge 35, 3) := by decide +kernel
theorem dX5_putDay_26 : decode cX5_putDay 26 = .ok (.aload_n 0, 1) := by decide +kernel
theorem dX5_putDay_27 : decode cX5_putDay 27 = .ok (.getfield 25, 3) := by decide +kernel
theorem dX5_putDay_30 : decode cX5_putDay 30 = .ok (.aload_n 0, 1) := by decide +kernel
theorem dX5_putDay_31 : decode cX5_putDay 31 = .ok (.getfield 9, 3) := by decide +kernel
theorem dX5_putDay_34 : decode cX5_putDay 34 = .ok (.arraylength, 1) := by decide +kernel
theorem dX5_putDay_35 : decode cX5_putDay 35 = .ok (.if_icmp .ge 23, 3) := by decide +kernel
theorem dX5_putDay_38 : decode cX5_putDay 38 = .ok (.aload_n 0, 1) := by decide +kernel
theorem dX5_putDay_39 : decode cX5_putDay 39 = .ok (.getfield 9, 3) := by decide +kernel
theorem dX5_putDay_42 : decode cX5_putDay 42 = .ok (.aload_n 0, 1) := by decide +kernel
theorem dX5_putDay_43 : decode cX5_putDay 43 = .ok (.getfield 25, 3) := by decide +kernel
theorem dX5_putDay_46 : decode cX5_putDay 46 = .ok (.iload_n 2, 1) := by decide +kernel
theorem dX5_putDay_47 : decode cX5_putDay 47 = .ok (.iastore, 1) := by decide +kernel
theorem dX5_putDay_48 : decode cX5_putDay 48 = .ok (.aload_n 0, 1) := by decide +kernel
theorem dX5_putDay_49 : decode cX5_putDay 49 = .ok (.dup, 1) := by decide +kernel
theorem dX5_putDay_50 : decode cX5_putDay 50 = .ok (.getfield 25, 3) := by decide +kernel
theorem dX5_putDay_53 : decode cX5_putDay 53 = .ok (.iconst 1, 1) := by decide +kernel
theorem dX5_putDay_54 : decode cX5_putDay 54 = .ok (.iadd, 1) := by decide +kernel
theorem dX5_putDay_55 : decode cX5_putDay 55 = .ok (.putfield 25, 3) := by decide +kernel
theorem dX5_putDay_58 : decode cX5_putDay 58 = .ok (.return_, 1) := by decide +kernel
theorem dX5_time_0 : decode cX5_time 0 = .ok (.iconst 0, 1) := by decide +kernel
theorem dX5_time_1 : decode cX5_time 1 = .ok (.istore_n 3, 1) := by decide +kernel
theorem dX5_time_2 : decode cX5_time 2 = .ok (.iload_n 3, 1) := by decide +kernel
theorem dX5_time_3 : decode cX5_time 3 = .ok (.aload_n 0, 1) := by decide +kernel
theorem dX5_time_4 : decode cX5_time 4 = .ok (.getfield 25, 3) := by decide +kernel
theorem dX5_time_7 : decode cX5_time 7 = .ok (.if_icmp .ge 46, 3) := by decide +kernel
theorem dX5_time_10 : decode cX5_time 10 = .ok (.aload_n 0, 1) := by decide +kernel
theorem dX5_time_11 : decode cX5_time 11 = .ok (.aload_n 1, 1) := by decide +kernel
theorem dX5_time_12 : decode cX5_time 12 = .ok (.iload_n 3, 1) := by decide +kernel
theorem dX5_time_13 : decode cX5_time 13 = .ok (.invokevirtual 85, 3) := by decide +kernel
theorem dX5_time_16 : decode cX5_time 16 = .ok (.istore 4, 2) := by decide +kernel
theorem dX5_time_18 : decode cX5_time 18 = .ok (.aload_n 0, 1) := by decide +kernel
theorem dX5_time_19 : decode cX5_time 19 = .ok (.getfield 15, 3) := by decide +kernel
theorem dX5_time_22 : decode cX5_time 22 = .ok (.iload_n 3, 1) := by decide +kernel
theorem dX5_time_23 : decode cX5_time 23 = .ok (.iload 4, 2) := by decide +kernel
theorem dX5_time_25 : decode cX5_time 25 = .ok (.invokestatic 89, 3) := by decide +kernel
theorem dX5_time_28 : decode cX5_time 28 = .ok (.ifCond .eq 16, 3) := by decide +kernel
theorem dX5_time_31 : decode cX5_time 31 = .ok (.aload_n 2, 1) := by decide +kernel
theorem dX5_time_32 : decode cX5_time 32 = .ok (.iload 4, 2) := by decide +kernel
theorem dX5_time_34 : decode cX5_time 34 = .ok (.aload_n 1, 1) := by decide +kernel
theorem dX5_time_35 : decode cX5_time 35 = .ok (.getfield 93, 3) := by decide +kernel
theorem dX5_time_38 : decode cX5_time 38 = .ok (.invokevirtual 96, 3) := by decide +kernel
theorem dX5_time_41 : decode cX5_time 41 = .ok (.goto 5, 3) := by decide +kernel
theorem dX5_time_44 : decode cX5_time 44 = .ok (.ldc 101, 2) := by decide +kernel
theorem dX5_time_46 : decode cX5_time 46 = .ok (.iastore, 1) := by decide +kernel
theorem dX5_time_47 : decode cX5_time 47 = .ok (.iinc 3 1, 3) := by decide +kernel
theorem dX5_time_50 : decode cX5_time 50 = .ok (.goto (-48), 3) := by decide +kernel
theorem dX5_time_53 : decode cX5_time 53 = .ok (.aload_n 0, 1) := by decide +kernel
theorem dX5_time_54 : decode cX5_time 54 = .ok (.iconst 1, 1) := by decide +kernel
theorem dX5_time_55 : decode cX5_time 55 = .ok (.putfield 22, 3) := by decide +kernel
theorem dX5_time_58 : decode cX5_time 58 = .ok (.return_, 1) := by decide +kernel
theorem dX5_localOf_0 : decode cX5_localOf 0 = .ok (.sipush 1440, 3) := by decide +kernel
theorem dX5_localOf_3 : decode cX5_localOf 3 = .ok (.aload_n 0, 1) := by decide +kernel
theorem dX5_localOf_4 : decode cX5_localOf 4 = .ok (.getfield 9, 3) := by decide +kernel
theorem dX5_localOf_7 : decode cX5_localOf 7 = .ok (.iload_n 2, 1) := by decide +kernel
theorem dX5_localOf_8 : decode cX5_localOf 8 = .ok (.iaload, 1) := by decide +kernel
theorem dX5_localOf_9 : decode cX5_localOf 9 = .ok (.imul, 1) := by decide +kernel
theorem dX5_localOf_10 : decode cX5_localOf 10 = .ok (.aload_n 1, 1) := by decide +kernel
theorem dX5_localOf_11 : decode cX5_localOf 11 = .ok (.getfield 102, 3) := by decide +kernel
theorem dX5_localOf_14 : decode cX5_localOf 14 = .ok (.iadd, 1) := by decide +kernel
theorem dX5_localOf_15 : decode cX5_localOf 15 = .ok (.aload_n 1, 1) := by decide +kernel
theorem dX5_localOf_16 : decode cX5_localOf 16 = .ok (.getfield 105, 3) := by decide +kernel
theorem dX5_localOf_19 : decode cX5_localOf 19 = .ok (.iload_n 2, 1) := by decide +kernel
theorem dX5_localOf_20 : decode cX5_localOf 20 = .ok (.iaload, 1) := by decide +kernel
theorem dX5_localOf_21 : decode cX5_localOf 21 = .ok (.iadd, 1) := by decide +kernel
theorem dX5_localOf_22 : decode cX5_localOf 22 = .ok (.ireturn, 1) := by decide +kernel
theorem dX5_takesPlace_0 : decode cX5_takesPlace 0 = .ok (.aload_n 0, 1) := by decide +kernel
theorem dX5_takesPlace_1 : decode cX5_takesPlace 1 = .ok (.getfield 15, 3) := by decide +kernel
theorem dX5_takesPlace_4 : decode cX5_takesPlace 4 = .ok (.iload_n 2, 1) := by decide +kernel
theorem dX5_takesPlace_5 : decode cX5_takesPlace 5 = .ok (.iaload, 1) := by decide +kernel
theorem dX5_takesPlace_6 : decode cX5_takesPlace 6 = .ok (.ldc 101, 2) := by decide +kernel
theorem dX5_takesPlace_8 : decode cX5_takesPlace 8 = .ok (.if_icmp .eq 15, 3) := by decide +kernel
theorem dX5_takesPlace_11 : decode cX5_takesPlace 11 = .ok (.aload_n 1, 1) := by decide +kernel
theorem dX5_takesPlace_12 : decode cX5_takesPlace 12 = .ok (.iload_n 2, 1) := by decide +kernel
theorem dX5_takesPlace_13 : decode cX5_takesPlace 13 = .ok (.invokevirtual 108, 3) := by decide +kernel
theorem dX5_takesPlace_16 : decode cX5_takesPlace 16 = .ok (.ifCond .ne 7, 3) := by decide +kernel
theorem dX5_takesPlace_19 : decode cX5_takesPlace 19 = .ok (.iconst 1, 1) := by decide +kernel
theorem dX5_takesPlace_20 : decode cX5_takesPlace 20 = .ok (.goto 4, 3) := by decide +kernel
theorem dX5_takesPlace_23 : decode cX5_takesPlace 23 = .ok (.iconst 0, 1) := by decide +kernel
theorem dX5_takesPlace_24 : decode cX5_takesPlace 24 = .ok (.ireturn, 1) := by decide +kernel
theorem dX5_countTaking_0 : decode cX5_countTaking 0 = .ok (.iconst 0, 1) := by decide +kernel
theorem dX5_countTaking_1 : decode cX5_countTaking 1 = .ok (.istore_n 2, 1) := by decide +kernel
theorem dX5_countTaking_2 : decode cX5_countTaking 2 = .ok (.iconst 0, 1) := by decide +kernel
theorem dX5_countTaking_3 : decode cX5_countTaking 3 = .ok (.istore_n 3, 1) := by decide +kernel
theorem dX5_countTaking_4 : decode cX5_countTaking 4 = .ok (.iload_n 3, 1) := by decide +kernel
theorem dX5_countTaking_5 : decode cX5_countTaking 5 = .ok (.aload_n 0, 1) := by decide +kernel
theorem dX5_countTaking_6 : decode cX5_countTaking 6 = .ok (.getfield 25, 3) := by decide +kernel
theorem dX5_countTaking_9 : decode cX5_countTaking 9 = .ok (.if_icmp .ge 26, 3) := by decide +kernel
theorem dX5_countTaking_12 : decode cX5_countTaking 12 = .ok (.iload_n 2, 1) := by decide +kernel
theorem dX5_countTaking_13 : decode cX5_countTaking 13 = .ok (.aload_n 0, 1) := by decide +kernel
theorem dX5_countTaking_14 : decode cX5_countTaking 14 = .ok (.aload_n 1, 1) := by decide +kernel
theorem dX5_countTaking_15 : decode cX5_countTaking 15 = .ok (.iload_n 3, 1) := by decide +kernel
theorem dX5_countTaking_16 : decode cX5_countTaking 16 = .ok (.invokevirtual 111, 3) := by decide +kernel
theorem dX5_countTaking_19 : decode cX5_countTaking 19 = .ok (.ifCond .eq 7, 3) := by decide +kernel
theorem dX5_countTaking_22 : decode cX5_countTaking 22 = .ok (.iconst 1, 1) := by decide +kernel
theorem dX5_countTaking_23 : decode cX5_countTaking 23 = .ok (.goto 4, 3) := by decide +kernel
theorem dX5_countTaking_26 : decode cX5_countTaking 26 = .ok (.iconst 0, 1) := by decide +kernel
theorem dX5_countTaking_27 : decode cX5_countTaking 27 = .ok (.iadd, 1) := by decide +kernel
theorem dX5_countTaking_28 : decode cX5_countTaking 28 = .ok (.istore_n 2, 1) := by decide +kernel
theorem dX5_countTaking_29 : decode cX5_countTaking 29 = .ok (.iinc 3 1, 3) := by decide +kernel
theorem dX5_countTaking_32 : decode cX5_countTaking 32 = .ok (.goto (-28), 3) := by decide +kernel
theorem dX5_countTaking_35 : decode cX5_countTaking 35 = .ok (.iload_n 2, 1) := by decide +kernel
theorem dX5_countTaking_36 : decode cX5_countTaking 36 = .ok (.ireturn, 1) := by decide +kernel
theorem dX6_init_0 : decode cX6_init 0 = .ok (.aload_n 0, 1) := by decide +kernel
theorem dX6_init_1 : decode cX6_init 1 = .ok (.invokespecial 5, 3) := by decide +kernel
theorem dX6_init_4 : decode cX6_init 4 = .ok (.aload_n 0, 1) := by decide +kernel
theorem dX6_init_5 : decode cX6_init 5 = .ok (.iconst (-1), 1) := by decide +kernel
theorem dX6_init_6 : decode cX6_init 6 = .ok (.putfield 11, 3) := by decide +kernel
theorem dX6_init_9 : decode cX6_init 9 = .ok (.aload_n 0, 1) := by decide +kernel
theorem dX6_init_10 : decode cX6_init 10 = .ok (.bipush 60, 2) := by decide +kernel
theorem dX6_init_12 : decode cX6_init 12 = .ok (.newarray .char, 2) := by decide +kernel
theorem dX6_init_14 : decode cX6_init 14 = .ok (.putfield 15, 3) := by decide +kernel
theorem dX6_init_17 : decode cX6_init 17 = .ok (.aload_n 0, 1) := by decide +kernel
theorem dX6_init_18 : decode cX6_init 18 = .ok (.bipush 90, 2) := by decide +kernel
theorem dX6_init_20 : decode cX6_init 20 = .ok (.newarray .int, 2) := by decide +kernel
theorem dX6_init_22 : decode cX6_init 22 = .ok (.putfield 19, 3) := by decide +kernel
theorem dX6_init_25 : decode cX6_init 25 = .ok (.return_, 1) := by decide +kernel
theorem dX6_put_0 : decode cX6_put 0 = .ok (.iload_n 1, 1) := by decide +kernel
theorem dX6_put_1 : decode cX6_put 1 = .ok (.ifCond .eq 35, 3) := by decide +kernel
theorem dX6_put_4 : decode cX6_put 4 = .ok (.aload_n 0, 1) := by decide +kernel
theorem dX6_put_5 : decode cX6_put 5 = .ok (.getfield 23, 3) := by decide +kernel
theorem dX6_put_8 : decode cX6_put 8 = .ok (.aload_n 0, 1) := by decide +kernel
theorem dX6_put_9 : decode cX6_put 9 = .ok (.getfield 15, 3) := by decide +kernel
theorem dX6_put_12 : decode cX6_put 12 = .ok (.arraylength, 1) := by decide +kernel
theorem dX6_put_13 : decode cX6_put 13 = .ok (.if_icmp .ge 23, 3) := by decide +kernel
theorem dX6_put_16 : decode cX6_put 16 = .ok (.aload_n 0, 1) := by decide +kernel
theorem dX6_put_17 : decode cX6_put 17 = .ok (.getfield 15, 3) := by decide +kernel
theorem dX6_put_20 : decode cX6_put 20 = .ok (.aload_n 0, 1) := by decide +kernel
theorem dX6_put_21 : decode cX6_put 21 = .ok (.getfield 23, 3) := by decide +kernel
theorem dX6_put_24 : decode cX6_put 24 = .ok (.iload_n 1, 1) := by decide +kernel
theorem dX6_put_25 : decode cX6_put 25 = .ok (.castore, 1) := by decide +kernel
theorem dX6_put_26 : decode cX6_put 26 = .ok (.aload_n 0, 1) := by decide +kernel
theorem dX6_put_27 : decode cX6_put 27 = .ok (.dup, 1) := by decide +kernel
theorem dX6_put_28 : decode cX6_put 28 = .ok (.getfield 23, 3) := by decide +kernel
theorem dX6_put_31 : decode cX6_put 31 = .ok (.iconst 1, 1) := by decide +kernel
theorem dX6_put_32 : decode cX6_put 32 = .ok (.iadd, 1) := by decide +kernel
theorem dX6_put_33 : decode cX6_put 33 = .ok (.putfield 23, 3) := by decide +kernel
theorem dX6_put_36 : decode cX6_put 36 = .ok (.return_, 1) := by decide +kernel
theorem dX6_wordOf_0 : decode cX6_wordOf 0 = .ok (.aload_n 0, 1) := by decide +kernel
theorem dX6_wordOf_1 : decode cX6_wordOf 1 = .ok (.getfield 19, 3) := by decide +kernel
theorem dX6_wordOf_4 : decode cX6_wordOf 4 = .ok (.iload_n 1, 1) := by decide +kernel
theorem dX6_wordOf_5 : decode cX6_wordOf 5 = .ok (.bipush 10, 2) := by decide +kernel
theorem dX6_wordOf_7 : decode cX6_wordOf 7 = .ok (.imul, 1) := by decide +kernel
theorem dX6_wordOf_8 : decode cX6_wordOf 8 = .ok (.iaload, 1) := by decide +kernel
theorem dX6_wordOf_9 : decode cX6_wordOf 9 = .ok (.ireturn, 1) := by decide +kernel
theorem dX6_startOf_0 : decode cX6_startOf 0 = .ok (.aload_n 0, 1) := by decide +kernel
theorem dX6_startOf_1 : decode cX6_startOf 1 = .ok (.getfield 19, 3) := by decide +kernel
theorem dX6_startOf_4 : decode cX6_startOf 4 = .ok (.iload_n 1, 1) := by decide +kernel
theorem dX6_startOf_5 : decode cX6_startOf 5 = .ok (.bipush 10, 2) := by decide +kernel
theorem dX6_startOf_7 : decode cX6_startOf 7 = .ok (.imul, 1) := by decide +kernel
theorem dX6_startOf_8 : decode cX6_startOf 8 = .ok (.iconst 1, 1) := by decide +kernel
theorem dX6_startOf_9 : decode cX6_startOf 9 = .ok (.iadd, 1) := by decide +kernel
theorem dX6_startOf_10 : decode cX6_startOf 10 = .ok (.iaload, 1) := by decide +kernel
theorem dX6_startOf_11 : decode cX6_startOf 11 = .ok (.ireturn, 1) := by decide +kernel
theorem dX6_item_0 : decode cX6_item 0 = .ok (.aload_n 0, 1) := by decide +kernel
theorem dX6_item_1 : decode cX6_item 1 = .ok (.getfield 19, 3) := by decide +kernel
theorem dX6_item_4 : decode cX6_item 4 = .ok (.iload_n 1, 1) := by decide +kernel
theorem dX6_item_5 : decode cX6_item 5 = .ok (.bipush 10, 2) := by decide +kernel
theorem dX6_item_7 : decode cX6_item 7 = .ok (.imul, 1) := by decide +kernel
theorem dX6_item_8 : decode cX6_item 8 = .ok (.iconst 2, 1) := by decide +kernel
theorem dX6_item_9 : decode cX6_item 9 = .ok (.iadd, 1) := by decide +kernel
theorem dX6_item_10 : decode cX6_item 10 = .ok (.iload_n 2, 1) := by decide +kernel
theorem dX6_item_11 : decode cX6_item 11 = .ok (.iadd, 1) := by decide +kernel
theorem dX6_item_12 : decode cX6_item 12 = .ok (.iaload, 1) := by decide +kernel
theorem dX6_item_13 : decode cX6_item 13 = .ok (.ireturn, 1) := by decide +kernel
theorem dX6_readText_0 : decode cX6_readText 0 = .ok (.aload_n 0, 1) := by decide +kernel
theorem dX6_readText_1 : decode cX6_readText 1 = .ok (.iconst 0, 1) := by decide +kernel
theorem dX6_readText_2 : decode cX6_readText 2 = .ok (.putfield 26, 3) := by decide +kernel
theorem dX6_readText_5 : decode cX6_readText 5 = .ok (.aload_n 0, 1) := by decide +kernel
theorem dX6_readText_6 : decode cX6_readText 6 = .ok (.iconst (-1), 1) := by decide +kernel
theorem dX6_readText_7 : decode cX6_readText 7 = .ok (.putfield 11, 3) := by decide +kernel
theorem dX6_readText_10 : decode cX6_readText 10 = .ok (.aload_n 0, 1) := by decide +kernel
theorem dX6_readText_11 : decode cX6_readText 11 = .ok (.iconst 0, 1) := by decide +kernel
theorem dX6_readText_12 : decode cX6_readText 12 = .ok (.putfield 29, 3) := by decide +kernel
theorem dX6_readText_15 : decode cX6_readText 15 = .ok (.aload_n 0, 1) := by decide +kernel
theorem dX6_readText_16 : decode cX6_readText 16 = .ok (.aload_n 0, 1) := by decide +kernel
theorem dX6_readText_17 : decode cX6_readText 17 = .ok (.getfield 29, 3) := by decide +kernel
theorem dX6_readText_20 : decode cX6_readText 20 = .ok (.bipush 10, 2) := by decide +kernel
theorem dX6_readText_22 : decode cX6_readText 22 = .ok (.imul, 1) := by decide +kernel
theorem dX6_readText_23 : decode cX6_readText 23 = .ok (.invokevirtual 32, 3) := by decide +kernel
theorem dX6_readText_26 : decode cX6_readText 26 = .ok (.aload_n 0, 1) := by decide +kernel
theorem dX6_readText_27 : decode cX6_readText 27 = .ok (.dup, 1) := by decide +kernel
theorem dX6_readText_28 : decode cX6_readText 28 = .ok (.getfield 29, 3) := by decide +kernel
theorem dX6_readText_31 : decode cX6_readText 31 = .ok (.iconst 1, 1) := by decide +kernel
theorem dX6_readText_32 : decode cX6_readText 32 = .ok (.iadd, 1) := by decide +kernel
theorem dX6_readText_33 : decode cX6_readText 33 = .ok (.putfield 29, 3) := by decide +kernel
theorem dX6_readText_36 : decode cX6_readText 36 = .ok (.aload_n 0, 1) := by decide +kernel
theorem dX6_readText_37 : decode cX6_readText 37 = .ok (.getfield 11, 3) := by decide +kernel
theorem dX6_readText_40 : decode cX6_readText 40 = .ok (.ifCond .ge 23, 3) := by decide +kernel
theorem dX6_readText_43 : decode cX6_readText 43 = .ok (.aload_n 0, 1) := by decide +kernel
theorem dX6_readText_44 : decode cX6_readText 44 = .ok (.getfield 26, 3) := by decide +kernel
theorem dX6_readText_47 : decode cX6_readText 47 = .ok (.aload_n 0, 1) := by decide +kernel
theorem dX6_readText_48 : decode cX6_readText 48 = .ok (.getfield 23, 3) := by decide +kernel
theorem dX6_readText_51 : decode cX6_readText 51 = .ok (.if_icmp .ge 12, 3) := by decide +kernel
theorem dX6_readText_54 : decode cX6_readText 54 = .ok (.aload_n 0, 1) := by decide +kernel
theorem dX6_readText_55 : decode cX6_readText 55 = .ok (.getfield 29, 3) := by decide +kernel
theorem dX6_readText_58 : decode cX6_readText 58 = .ok (.bipush 9, 2) := by decide +kernel
theorem dX6_readText_60 : decode cX6_readText 60 = .ok (.if_icmp .lt (-45), 3) := by decide +kernel
theorem dX6_readText_63 : decode cX6_readText 63 = .ok (.aload_n 0, 1) := by decide +kernel
theorem dX6_readText_64 : decode cX6_readText 64 = .ok (.getfield 11, 3) := by decide +kernel
theorem dX6_readText_67 : decode cX6_readText 67 = .ok (.ifCond .ge 7, 3) := by decide +kernel
theorem dX6_readText_70 : decode cX6_readText 70 = .ok (.iconst 1, 1) := by decide +kernel
theorem dX6_readText_71 : decode cX6_readText 71 = .ok (.goto 4, 3) := by decide +kernel
theorem dX6_readText_74 : decode cX6_readText 74 = .ok (.iconst 0, 1) := by decide +kernel
theorem dX6_readText_75 : decode cX6_readText 75 = .ok (.ireturn, 1) := by decide +kernel
theorem dX6_readCommand_0 : decode cX6_readCommand 0 = .ok (.aload_n 0, 1) := by decide +kernel
theorem dX6_readCommand_1 : decode cX6_readCommand 1 = .ok (.getfield 19, 3) := by decide +kernel
theorem dX6_readCommand_4 : decode cX6_readCommand 4 = .ok (.iload_n 1, 1) := by decide +kernel
theorem dX6_readCommand_5 : decode cX6_readCommand 5 = .ok (.iconst 1, 1) := by decide +kernel
theorem dX6_readCommand_6 : decode cX6_readCommand 6 = .ok (.iadd, 1) := by decide +kernel
theorem dX6_readCommand_7 : decode cX6_readCommand 7 = .ok (.aload_n 0, 1) := by decide +kernel
theorem dX6_readCommand_8 : decode cX6_readCommand 8 = .ok (.getfield 26, 3) := by decide +kernel
theorem dX6_readCommand_11 : decode cX6_readCommand 11 = .ok (.iastore, 1) := by decide +kernel
theorem dX6_readCommand_12 : decode cX6_readCommand 12 = .ok (.aload_n 0, 1) := by decide +kernel
theorem dX6_readCommand_13 : decode cX6_readCommand 13 = .ok (.invokevirtual 36, 3) := by decide +kernel
theorem dX6_readCommand_16 : decode cX6_readCommand 16 = .ok (.istore_n 2, 1) := by decide +kernel
theorem dX6_readCommand_17 : decode cX6_readCommand 17 = .ok (.aload_n 0, 1) := by decide +kernel
theorem dX6_readCommand_18 : decode cX6_readCommand 18 = .ok (.getfield 11, 3) := by decide +kernel
theorem dX6_readCommand_21 : decode cX6_readCommand 21 = .ok (.ifCond .lt 4, 3) := by decide +kernel
theorem dX6_readCommand_24 : decode cX6_readCommand 24 = .ok (.return_, 1) := by decide +kernel
theorem dX6_readCommand_25 : decode cX6_readCommand 25 = .ok (.aload_n 0, 1) := by decide +kernel
theorem dX6_readCommand_26 : decode cX6_readCommand 26 = .ok (.getfield 19, 3) := by decide +kernel
theorem dX6_readCommand_29 : decode cX6_readCommand 29 = .ok (.iload_n 1, 1) := by decide +kernel
theorem dX6_readCommand_30 : decode cX6_readCommand 30 = .ok (.iload_n 2, 1) := by decide +kernel
theorem dX6_readCommand_31 : decode cX6_readCommand 31 = .ok (.iastore, 1) := by decide +kernel
theorem dX6_readCommand_32 : decode cX6_readCommand 32 = .ok (.aload_n 0, 1) := by decide +kernel
theorem dX6_readCommand_33 : decode cX6_readCommand 33 = .ok (.bipush 58, 2) := by decide +kernel
theorem dX6_readCommand_35 : decode cX6_readCommand 35 = .ok (.invokevirtual 40, 3) := by decide +kernel
theorem dX6_readCommand_38 : decode cX6_readCommand 38 = .ok (.iload_n 2, 1) := by decide +kernel
theorem dX6_readCommand_39 : decode cX6_readCommand 39 = .ok (.invokestatic 44, 3) := by decide +kernel
theorem dX6_readCommand_42 : decode cX6_readCommand 42 = .ok (.astore_n 3, 1) := by decide +kernel
theorem dX6_readCommand_43 : decode cX6_readCommand 43 = .ok (.aload_n 3, 1) := by decide +kernel
theorem dX6_readCommand_44 : decode cX6_readCommand 44 = .ok (.invokevirtual 48, 3) := by decide +kernel
theorem dX6_readCommand_47 : decode cX6_readCommand 47 = .ok (.istore 4, 2) := by decide +kernel
theorem dX6_readCommand_49 : decode cX6_readCommand 49 = .ok (.iconst 0, 1) := by decide +kernel
theorem dX6_readCommand_50 : decode cX6_readCommand 50 = .ok (.istore 5, 2) := by decide +kernel
theorem dX6_readCommand_52 : decode cX6_readCommand 52 = .ok (.iload 5, 2) := by decide +kernel
theorem dX6_readCommand_54 : decode cX6_readCommand 54 = .ok (.iload 4, 2) := by decide +kernel
theorem dX6_readCommand_56 : decode cX6_readCommand 56 = .ok (.if_icmp .ge 57, 3) := by decide +kernel
theorem dX6_readCommand_59 : decode cX6_readCommand 59 = .ok (.aload_n 0, 1) := by decide +kernel
theorem dX6_readCommand_60 : decode cX6_readCommand 60 = .ok (.getfield 11, 3) := by decide +kernel
theorem dX6_readCommand_63 : decode cX6_readCommand 63 = .ok (.ifCond .ge 50, 3) := by decide +kernel
theorem dX6_readCommand_66 : decode cX6_readCommand 66 = .ok (.aload_n 0, 1) := by decide +kernel
theorem dX6_readCommand_67 : decode cX6_readCommand 67 = .ok (.getfield 19, 3) := by decide +kernel
theorem dX6_readCommand_70 : decode cX6_readCommand 70 = .ok (.iload_n 1, 1) := by decide +kernel
theorem dX6_readCommand_71 : decode cX6_readCommand 71 = .ok (.iconst 2, 1) := by decide +kernel
theorem dX6_readCommand_72 : decode cX6_readCommand 72 = .ok (.iadd, 1) := by decide +kernel
theorem dX6_readCommand_73 : decode cX6_readCommand 73 = .ok (.iload 5, 2) := by decide +kernel
theorem dX6_readCommand_75 : decode cX6_readCommand 75 = .ok (.iadd, 1) := by decide +kernel
theorem dX6_readCommand_76 : decode cX6_readCommand 76 = .ok (.aload_n 0, 1) := by decide +kernel
theorem dX6_readCommand_77 : decode cX6_readCommand 77 = .ok (.aload_n 3, 1) := by decide +kernel
theorem dX6_readCommand_78 : decode cX6_readCommand 78 = .ok (.iload 5, 2) := by decide +kernel
theorem dX6_readCommand_80 : decode cX6_readCommand 80 = .ok (.invokevirtual 52, 3) := by decide +kernel
theorem dX6_readCommand_83 : decode cX6_readCommand 83 = .ok (.invokevirtual 56, 3) := by decide +kernel
theorem dX6_readCommand_86 : decode cX6_readCommand 86 = .ok (.iastore, 1) := by decide +kernel
theorem dX6_readCommand_87 : decode cX6_readCommand 87 = .ok (.aload_n 0, 1) := by decide +kernel
theorem dX6_readCommand_88 : decode cX6_readCommand 88 = .ok (.iload 5, 2) := by decide +kernel
theorem dX6_readCommand_90 : decode cX6_readCommand 90 = .ok (.iconst 1, 1) := by decide +kernel
theorem dX6_readCommand_91 : decode cX6_readCommand 91 = .ok (.iadd, 1) := by decide +kernel
theorem dX6_readCommand_92 : decode cX6_readCommand 92 = .ok (.iload 4, 2) := by decide +kernel
theorem dX6_readCommand_94 : decode cX6_readCommand 94 = .ok (.if_icmp .ge 8, 3) := by decide +kernel
theorem dX6_readCommand_97 : decode cX6_readCommand 97 = .ok (.bipush 44, 2) := by decide +kernel
theorem dX6_readCommand_99 : decode cX6_readCommand 99 = .ok (.goto 5, 3) := by decide +kernel
theorem dX6_readCommand_102 : decode cX6_readCommand 102 = .ok (.bipush 59, 2) := by decide +kernel
theorem dX6_readCommand_104 : decode cX6_readCommand 104 = .ok (.invokevirtual 40, 3) := by decide +kernel
theorem dX6_readCommand_107 : decode cX6_readCommand 107 = .ok (.iinc 5 1, 3) := by decide +kernel
theorem dX6_readCommand_110 : decode cX6_readCommand 110 = .ok (.goto (-58), 3) := by decide +kernel
theorem dX6_readCommand_113 : decode cX6_readCommand 113 = .ok (.return_, 1) := by decide +kernel
theorem dX6_readWord_0 : decode cX6_readWord 0 = .ok (.aload_n 0, 1) := by decide +kernel
theorem dX6_readWord_1 : decode cX6_readWord 1 = .ok (.getfield 26, 3) := by decide +kernel
theorem dX6_readWord_4 : decode cX6_readWord 4 = .ok (.istore_n 1, 1) := by decide +kernel
theorem dX6_readWord_5 : decode cX6_readWord 5 = .ok (.aload_n 0, 1) := by decide +kernel
theorem dX6_readWord_6 : decode cX6_readWord 6 = .ok (.getfield 26, 3) := by decide +kernel
theorem dX6_readWord_9 : decode cX6_readWord 9 = .ok (.istore_n 2, 1) := by decide +kernel
theorem dX6_readWord_10 : decode cX6_readWord 10 = .ok (.iload_n 2, 1) := by decide +kernel
theorem dX6_readWord_11 : decode cX6_readWord 11 = .ok (.aload_n 0, 1) := by decide +kernel
theorem dX6_readWord_12 : decode cX6_readWord 12 = .ok (.getfield 23, 3) := by decide +kernel
theorem dX6_readWord_15 : decode cX6_readWord 15 = .ok (.if_icmp .ge 29, 3) := by decide +kernel
theorem dX6_readWord_18 : decode cX6_readWord 18 = .ok (.aload_n 0, 1) := by decide +kernel
theorem dX6_readWord_19 : decode cX6_readWord 19 = .ok (.iload_n 2, 1) := by decide +kernel
theorem dX6_readWord_20 : decode cX6_readWord 20 = .ok (.invokevirtual 60, 3) := by decide +kernel
theorem dX6_readWord_23 : decode cX6_readWord 23 = .ok (.bipush 97, 2) := by decide +kernel
theorem dX6_readWord_25 : decode cX6_readWord 25 = .ok (.if_icmp .lt 19, 3) := by decide +kernel
theorem dX6_readWord_28 : decode cX6_readWord 28 = .ok (.aload_n 0, 1) := by decide +kernel
theorem dX6_readWord_29 : decode cX6_readWord 29 = .ok (.iload_n 2, 1) := by decide +kernel
theorem dX6_readWord_30 : decode cX6_readWord 30 = .ok (.invokevirtual 60, 3) := by decide +kernel
theorem dX6_readWord_33 : decode cX6_readWord 33 = .ok (.bipush 122, 2) := by decide +kernel
theorem dX6_readWord_35 : decode cX6_readWord 35 = .ok (.if_icmp .gt 9, 3) := by decide +kernel
theorem dX6_readWord_38 : decode cX6_readWord 38 = .ok (.iinc 2 1, 3) := by decide +kernel
theorem dX6_readWord_41 : decode cX6_readWord 41 = .ok (.goto (-31), 3) := by decide +kernel
theorem dX6_readWord_44 : decode cX6_readWord 44 = .ok (.iconst 0, 1) := by decide +kernel
theorem dX6_readWord_45 : decode cX6_readWord 45 = .ok (.istore_n 3, 1) := by decide +kernel
theorem dX6_readWord_46 : decode cX6_readWord 46 = .ok (.iload_n 3, 1) := by decide +kernel
theorem dX6_readWord_47 : decode cX6_readWord 47 = .ok (.iconst 5, 1) := by decide +kernel
theorem dX6_readWord_48 : decode cX6_readWord 48 = .ok (.if_icmp .ge 29, 3) := by decide +kernel
theorem dX6_readWord_51 : decode cX6_readWord 51 = .ok (.aload_n 0, 1) := by decide +kernel
theorem dX6_readWord_52 : decode cX6_readWord 52 = .ok (.iload_n 1, 1) := by decide +kernel
theorem dX6_readWord_53 : decode cX6_readWord 53 = .ok (.iload_n 2, 1) := by decide +kernel
theorem dX6_readWord_54 : decode cX6_readWord 54 = .ok (.iload_n 3, 1) := by decide +kernel
theorem dX6_readWord_55 : decode cX6_readWord 55 = .ok (.invokestatic 63, 3) := by decide +kernel
theorem dX6_readWord_58 : decode cX6_readWord 58 = .ok (.invokevirtual 66, 3) := by decide +kernel
theorem dX6_readWord_61 : decode cX6_readWord 61 = .ok (.ifCond .eq 10, 3) := by decide +kernel
theorem dX6_readWord_64 : decode cX6_readWord 64 = .ok (.aload_n 0, 1) := by decide +kernel
theorem dX6_readWord_65 : decode cX6_readWord 65 = .ok (.iload_n 2, 1) := by decide +kernel
theorem dX6_readWord_66 : decode cX6_readWord 66 = .ok (.putfield 26, 3) := by decide +kernel
theorem dX6_readWord_69 : decode cX6_readWord 69 = .ok (.iload_n 3, 1) := by decide +kernel
theorem dX6_readWord_70 : decode cX6_readWord 70 = .ok (.ireturn, 1) := by decide +kernel
theorem dX6_readWord_71 : decode cX6_readWord 71 = .ok (.iinc 3 1, 3) := by decide +kernel
theorem dX6_readWord_74 : decode cX6_readWord 74 = .ok (.goto (-28), 3) := by decide +kernel
theorem dX6_readWord_77 : decode cX6_readWord 77 = .ok (.aload_n 0, 1) := by decide +kernel
theorem dX6_readWord_78 : decode cX6_readWord 78 = .ok (.iload_n 1, 1) := by decide +kernel
theorem dX6_readWord_79 : decode cX6_readWord 79 = .ok (.putfield 11, 3) := by decide +kernel
theorem dX6_readWord_82 : decode cX6_readWord 82 = .ok (.iconst (-1), 1) := by decide +kernel
theorem dX6_readWord_83 : decode cX6_readWord 83 = .ok (.ireturn, 1) := by decide +kernel
theorem dX6_isWord_0 : decode cX6_isWord 0 = .ok (.iload_n 2, 1) := by decide +kernel
theorem dX6_isWord_1 : decode cX6_isWord 1 = .ok (.iload_n 1, 1) := by decide +kernel
theorem dX6_isWord_2 : decode cX6_isWord 2 = .ok (.isub, 1) := by decide +kernel
theorem dX6_isWord_3 : decode cX6_isWord 3 = .ok (.aload_n 3, 1) := by decide +kernel
theorem dX6_isWord_4 : decode cX6_isWord 4 = .ok (.invokevirtual 48, 3) := by decide +kernel
theorem dX6_isWord_7 : decode cX6_isWord 7 = .ok (.if_icmp .eq 5, 3) := by decide +kernel
theorem dX6_isWord_10 : decode cX6_isWord 10 = .ok (.iconst 0, 1) := by decide +kernel
theorem dX6_isWord_11 : decode cX6_isWord 11 = .ok (.ireturn, 1) := by decide +kernel
theorem dX6_isWord_12 : decode cX6_isWord 12 = .ok (.iconst 0, 1) := by decide +kernel
theorem dX6_isWord_13 : decode cX6_isWord 13 = .ok (.istore 4, 2) := by decide +kernel
theorem dX6_isWord_15 : decode cX6_isWord 15 = .ok (.iload 4, 2) := by decide +kernel
theorem dX6_isWord_17 : decode cX6_isWord 17 = .ok (.aload_n 3, 1) := by decide +kernel
theorem dX6_isWord_18 : decode cX6_isWord 18 = .ok (.invokevirtual 48, 3) := by decide +kernel
theorem dX6_isWord_21 : decode cX6_isWord 21 = .ok (.if_icmp .ge 28, 3) := by decide +kernel
theorem dX6_isWord_24 : decode cX6_isWord 24 = .ok (.aload_n 0, 1) := by decide +kernel
theorem dX6_isWord_25 : decode cX6_isWord 25 = .ok (.iload_n 1, 1) := by decide +kernel
theorem dX6_isWord_26 : decode cX6_isWord 26 = .ok (.iload 4, 2) := by decide +kernel
theorem dX6_isWord_28 : decode cX6_isWord 28 = .ok (.iadd, 1) := by decide +kernel
theorem dX6_isWord_29 : decode cX6_isWord 29 = .ok (.invokevirtual 60, 3) := by decide +kernel
theorem dX6_isWord_32 : decode cX6_isWord 32 = .ok (.aload_n 3, 1) := by decide +kernel
theorem dX6_isWord_33 : decode cX6_isWord 33 = .ok (.iload 4, 2) := by decide +kernel
theorem dX6_isWord_35 : decode cX6_isWord 35 = .ok (.invokevirtual 52, 3) := by decide +kernel
theorem dX6_isWord_38 : decode cX6_isWord 38 = .ok (.if_icmp .eq 5, 3) := by decide +kernel
theorem dX6_isWord_41 : decode cX6_isWord 41 = .ok (.iconst 0, 1) := by decide +kernel
theorem dX6_isWord_42 : decode cX6_isWord 42 = .ok (.ireturn, 1) := by decide +kernel
theorem dX6_isWord_43 : decode cX6_isWord 43 = .ok (.iinc 4 1, 3) := by decide +kernel
theorem dX6_isWord_46 : decode cX6_isWord 46 = .ok (.goto (-31), 3) := by decide +kernel
theorem dX6_isWord_49 : decode cX6_isWord 49 = .ok (.iconst 1, 1) := by decide +kernel
theorem dX6_isWord_50 : decode cX6_isWord 50 = .ok (.ireturn, 1) := by decide +kernel
theorem dX6_nameOf_0 : decode cX6_nameOf 0 = .ok (.iload_n 0, 1) := by decide +kernel
theorem dX6_nameOf_1 : decode cX6_nameOf 1 = .ok (.tableswitch 43 0 3 #[31, 34, 37, 40], 31) := by decide +kernel
theorem dX6_nameOf_32 : decode cX6_nameOf 32 = .ok (.ldc 70, 2) := by decide +kernel
theorem dX6_nameOf_34 : decode cX6_nameOf 34 = .ok (.areturn, 1) := by decide +kernel
theorem dX6_nameOf_35 : decode cX6_nameOf 35 = .ok (.ldc 72, 2) := by decide +kernel
theorem dX6_nameOf_37 : decode cX6_nameOf 37 = .ok (.areturn, 1) := by decide +kernel
theorem dX6_nameOf_38 : decode cX6_nameOf 38 = .ok (.ldc 74, 2) := by decide +kernel
theorem dX6_nameOf_40 : decode cX6_nameOf 40 = .ok (.areturn, 1) := by decide +kernel
theorem dX6_nameOf_41 : decode cX6_nameOf 41 = .ok (.ldc 76, 2) := by decide +kernel
theorem dX6_nameOf_43 : decode cX6_nameOf 43 = .ok (.areturn, 1) := by decide +kernel
theorem dX6_nameOf_44 : decode cX6_nameOf 44 = .ok (.ldc 78, 2) := by decide +kernel
theorem dX6_nameOf_46 : decode cX6_nameOf 46 = .ok (.areturn, 1) := by decide +kernel
theorem dX6_kindsOf_0 : decode cX6_kindsOf 0 = .ok (.iload_n 0, 1) := by decide +kernel
theorem dX6_kindsOf_1 : decode cX6_kindsOf 1 = .ok (.tableswitch 36 0 2 #[27, 30, 33], 27) := by decide +kernel
theorem dX6_kindsOf_28 : decode cX6_kindsOf 28 = .ok (.ldc 80, 2) := by decide +kernel
theorem dX6_kindsOf_30 : decode cX6_kindsOf 30 = .ok (.areturn, 1) := by decide +kernel
theorem dX6_kindsOf_31 : decode cX6_kindsOf 31 = .ok (.ldc 82, 2) := by decide +kernel
theorem dX6_kindsOf_33 : decode cX6_kindsOf 33 = .ok (.areturn, 1) := by decide +kernel
theorem dX6_kindsOf_34 : decode cX6_kindsOf 34 = .ok (.ldc 84, 2) := by decide +kernel
theorem dX6_kindsOf_36 : decode cX6_kindsOf 36 = .ok (.areturn, 1) := by decide +kernel
theorem dX6_kindsOf_37 : decode cX6_kindsOf 37 = .ok (.ldc 86, 2) := by decide +kernel
theorem dX6_kindsOf_39 : decode cX6_kindsOf 39 = .ok (.areturn, 1) := by decide +kernel
theorem dX6_readItem_0 : decode cX6_readItem 0 = .ok (.aload_n 0, 1) := by decide +kernel
theorem dX6_readItem_1 : decode cX6_readItem 1 = .ok (.getfield 11, 3) := by decide +kernel
theorem dX6_readItem_4 : decode cX6_readItem 4 = .ok (.ifCond .lt 5, 3) := by decide +kernel
theorem dX6_readItem_7 : decode cX6_readItem 7 = .ok (.iconst 0, 1) := by decide +kernel
theorem dX6_readItem_8 : decode cX6_readItem 8 = .ok (.ireturn, 1) := by decide +kernel
theorem dX6_readItem_9 : decode cX6_readItem 9 = .ok (.iload_n 1, 1) := by decide +kernel
theorem dX6_readItem_10 : decode cX6_readItem 10 = .ok (.tableswitch 41 98 100 #[26, 36, 31], 26) := by decide +kernel
theorem dX6_readItem_36 : decode cX6_readItem 36 = .ok (.aload_n 0, 1) := by decide +kernel
theorem dX6_readItem_37 : decode cX6_readItem 37 = .ok (.invokevirtual 88, 3) := by decide +kernel
theorem dX6_readItem_40 : decode cX6_readItem 40 = .ok (.ireturn, 1) := by decide +kernel
theorem dX6_readItem_41 : decode cX6_readItem 41 = .ok (.aload_n 0, 1) := by decide +kernel
theorem dX6_readItem_42 : decode cX6_readItem 42 = .ok (.invokevirtual 91, 3) := by decide +kernel
theorem dX6_readItem_45 : decode cX6_readItem 45 = .ok (.ireturn, 1) := by decide +kernel
theorem dX6_readItem_46 : decode cX6_readItem 46 = .ok (.aload_n 0, 1) := by decide +kernel
theorem dX6_readItem_47 : decode cX6_readItem 47 = .ok (.invokevirtual 94, 3) := by decide +kernel
theorem dX6_readItem_50 : decode cX6_readItem 50 = .ok (.ireturn, 1) := by decide +kernel
theorem dX6_readItem_51 : decode cX6_readItem 51 = .ok (.aload_n 0, 1) := by decide +kernel
theorem dX6_readItem_52 : decode cX6_readItem 52 = .ok (.iconst 5, 1) := by decide +kernel
theorem dX6_readItem_53 : decode cX6_readItem 53 = .ok (.invokevirtual 97, 3) := by decide +kernel
theorem dX6_readItem_56 : decode cX6_readItem 56 = .ok (.ireturn, 1) := by decide +kernel
theorem dX6_readBase_0 : decode cX6_readBase 0 = .ok (.aload_n 0, 1) := by decide +kernel
theorem dX6_readBase_1 : decode cX6_readBase 1 = .ok (.aload_n 0, 1) := by decide +kernel
theorem dX6_readBase_2 : decode cX6_readBase 2 = .ok (.getfield 26, 3) := by decide +kernel
theorem dX6_readBase_5 : decode cX6_readBase 5 = .ok (.invokevirtual 60, 3) := by decide +kernel
theorem dX6_readBase_8 : decode cX6_readBase 8 = .ok (.bipush 45, 2) := by decide +kernel
theorem dX6_readBase_10 : decode cX6_readBase 10 = .ok (.if_icmp .eq 9, 3) := by decide +kernel
theorem dX6_readBase_13 : decode cX6_readBase 13 = .ok (.aload_n 0, 1) := by decide +kernel
theorem dX6_readBase_14 : decode cX6_readBase 14 = .ok (.iconst 5, 1) := by decide +kernel
theorem dX6_readBase_15 : decode cX6_readBase 15 = .ok (.invokevirtual 97, 3) := by decide +kernel
theorem dX6_readBase_18 : decode cX6_readBase 18 = .ok (.ireturn, 1) := by decide +kernel
theorem dX6_readBase_19 : decode cX6_readBase 19 = .ok (.aload_n 0, 1) := by decide +kernel
theorem dX6_readBase_20 : decode cX6_readBase 20 = .ok (.dup, 1) := by decide +kernel
theorem dX6_readBase_21 : decode cX6_readBase 21 = .ok (.getfield 26, 3) := by decide +kernel
theorem dX6_readBase_24 : decode cX6_readBase 24 = .ok (.iconst 1, 1) := by decide +kernel
theorem dX6_readBase_25 : decode cX6_readBase 25 = .ok (.iadd, 1) := by decide +kernel
theorem dX6_readBase_26 : decode cX6_readBase 26 = .ok (.putfield 26, 3) := by decide +kernel
theorem dX6_readBase_29 : decode cX6_readBase 29 = .ok (.aload_n 0, 1) := by decide +kernel
theorem dX6_readBase_30 : decode cX6_readBase 30 = .ok (.iconst 5, 1) := by decide +kernel
theorem dX6_readBase_31 : decode cX6_readBase 31 = .ok (.invokevirtual 97, 3) := by decide +kernel
theorem dX6_readBase_34 : decode cX6_readBase 34 = .ok (.ineg, 1) := by decide +kernel
theorem dX6_readBase_35 : decode cX6_readBase 35 = .ok (.ireturn, 1) := by decide +kernel
theorem dX6_readNumber_0 : decode cX6_readNumber 0 = .ok (.iconst 0, 1) := by decide +kernel
theorem dX6_readNumber_1 : decode cX6_readNumber 1 = .ok (.istore_n 2, 1) := by decide +kernel
theorem dX6_readNumber_2 : decode cX6_readNumber 2 = .ok (.iconst 0, 1) := by decide +kernel
theorem dX6_readNumber_3 : decode cX6_readNumber 3 = .ok (.istore_n 3, 1) := by decide +kernel
theorem dX6_readNumber_4 : decode cX6_readNumber 4 = .ok (.iload_n 3, 1) := by decide +kernel
theorem dX6_readNumber_5 : decode cX6_readNumber 5 = .ok (.iload_n 1, 1) := by decide +kernel
theorem dX6_readNumber_6 : decode cX6_readNumber 6 = .ok (.if_icmp .ge 70, 3) := by decide +kernel
theorem dX6_readNumber_9 : decode cX6_readNumber 9 = .ok (.aload_n 0, 1) := by decide +kernel
theorem dX6_readNumber_10 : decode cX6_readNumber 10 = .ok (.aload_n 0, 1) := by decide +kernel
theorem dX6_readNumber_11 : decode cX6_readNumber 11 = .ok (.getfield 26, 3) := by decide +kernel
theorem dX6_readNumber_14 : decode cX6_readNumber 14 = .ok (.invokevirtual 60, 3) := by decide +kernel
theorem dX6_readNumber_17 : decode cX6_readNumber 17 = .ok (.bipush 48, 2) := by decide +kernel
theorem dX6_readNumber_19 : decode cX6_readNumber 19 = .ok (.if_icmp .lt 57, 3) := by decide +kernel
theorem dX6_readNumber_22 : decode cX6_readNumber 22 = .ok (.aload_n 0, 1) := by decide +kernel
theorem dX6_readNumber_23 : decode cX6_readNumber 23 = .ok (.aload_n 0, 1) := by decide +kernel
theorem dX6_readNumber_24 : decode cX6_readNumber 24 = .ok (.getfield 26, 3) := by decide +kernel
theorem dX6_readNumber_27 : decode cX6_readNumber 27 = .ok (.invokevirtual 60, 3) := by decide +kernel
theorem dX6_readNumber_30 : decode cX6_readNumber 30 = .ok (.bipush 57, 2) := by decide +kernel
theorem dX6_readNumber_32 : decode cX6_readNumber 32 = .ok (.if_icmp .gt 44, 3) := by decide +kernel
theorem dX6_readNumber_35 : decode cX6_readNumber 35 = .ok (.iload_n 3, 1) := by decide +kernel
theorem dX6_readNumber_36 : decode cX6_readNumber 36 = .ok (.ifCond .eq 7, 3) := by decide +kernel
theorem dX6_readNumber_39 : decode cX6_readNumber 39 = .ok (.iload_n 2, 1) := by decide +kernel
theorem dX6_readNumber_40 : decode cX6_readNumber 40 = .ok (.ifCond .le 36, 3) := by decide +kernel
theorem dX6_readNumber_43 : decode cX6_readNumber 43 = .ok (.bipush 10, 2) := by decide +kernel
theorem dX6_readNumber_45 : decode cX6_readNumber 45 = .ok (.iload_n 2, 1) := by decide +kernel
theorem dX6_readNumber_46 : decode cX6_readNumber 46 = .ok (.imul, 1) := by decide +kernel
theorem dX6_readNumber_47 : decode cX6_readNumber 47 = .ok (.aload_n 0, 1) := by decide +kernel
theorem dX6_readNumber_48 : decode cX6_readNumber 48 = .ok (.aload_n 0, 1) := by decide +kernel
theorem dX6_readNumber_49 : decode cX6_readNumber 49 = .ok (.getfield 26, 3) := by decide +kernel
theorem dX6_readNumber_52 : decode cX6_readNumber 52 = .ok (.invokevirtual 60, 3) := by decide +kernel
theorem dX6_readNumber_55 : decode cX6_readNumber 55 = .ok (.iadd, 1) := by decide +kernel
theorem dX6_readNumber_56 : decode cX6_readNumber 56 = .ok (.bipush 48, 2) := by decide +kernel
theorem dX6_readNumber_58 : decode cX6_readNumber 58 = .ok (.isub, 1) := by decide +kernel
theorem dX6_readNumber_59 : decode cX6_readNumber 59 = .ok (.istore_n 2, 1) := by decide +kernel
theorem dX6_readNumber_60 : decode cX6_readNumber 60 = .ok (.iinc 3 1, 3) := by decide +kernel
theorem dX6_readNumber_63 : decode cX6_readNumber 63 = .ok (.aload_n 0, 1) := by decide +kernel
theorem dX6_readNumber_64 : decode cX6_readNumber 64 = .ok (.dup, 1) := by decide +kernel
theorem dX6_readNumber_65 : decode cX6_readNumber 65 = .ok (.getfield 26, 3) := by decide +kernel
theorem dX6_readNumber_68 : decode cX6_readNumber 68 = .ok (.iconst 1, 1) := by decide +kernel
theorem dX6_readNumber_69 : decode cX6_readNumber 69 = .ok (.iadd, 1) := by decide +kernel
theorem dX6_readNumber_70 : decode cX6_readNumber 70 = .ok (.putfield 26, 3) := by decide +kernel
theorem dX6_readNumber_73 : decode cX6_readNumber 73 = .ok (.goto (-69), 3) := by decide +kernel
theorem dX6_readNumber_76 : decode cX6_readNumber 76 = .ok (.iload_n 3, 1) := by decide +kernel
theorem dX6_readNumber_77 : decode cX6_readNumber 77 = .ok (.ifCond .ne 11, 3) := by decide +kernel
theorem dX6_readNumber_80 : decode cX6_readNumber 80 = .ok (.aload_n 0, 1) := by decide +kernel
theorem dX6_readNumber_81 : decode cX6_readNumber 81 = .ok (.aload_n 0, 1) := by decide +kernel
theorem dX6_readNumber_82 : decode cX6_readNumber 82 = .ok (.getfield 26, 3) := by decide +kernel
theorem dX6_readNumber_85 : decode cX6_readNumber 85 = .ok (.putfield 11, 3) := by decide +kernel
theorem dX6_readNumber_88 : decode cX6_readNumber 88 = .ok (.iload_n 2, 1) := by decide +kernel
theorem dX6_readNumber_89 : decode cX6_readNumber 89 = .ok (.ireturn, 1) := by decide +kernel
theorem dX6_readDate_0 : decode cX6_readDate 0 = .ok (.aload_n 0, 1) := by decide +kernel
theorem dX6_readDate_1 : decode cX6_readDate 1 = .ok (.aload_n 0, 1) := by decide +kernel
theorem dX6_readDate_2 : decode cX6_readDate 2 = .ok (.getfield 26, 3) := by decide +kernel
theorem dX6_readDate_5 : decode cX6_readDate 5 = .ok (.invokevirtual 60, 3) := by decide +kernel
theorem dX6_readDate_8 : decode cX6_readDate 8 = .ok (.bipush 48, 2) := by decide +kernel
theorem dX6_readDate_10 : decode cX6_readDate 10 = .ok (.isub, 1) := by decide +kernel
theorem dX6_readDate_11 : decode cX6_readDate 11 = .ok (.istore_n 1, 1) := by decide +kernel
theorem dX6_readDate_12 : decode cX6_readDate 12 = .ok (.aload_n 0, 1) := by decide +kernel
theorem dX6_readDate_13 : decode cX6_readDate 13 = .ok (.aload_n 0, 1) := by decide +kernel
theorem dX6_readDate_14 : decode cX6_readDate 14 = .ok (.getfield 26, 3) := by decide +kernel
theorem dX6_readDate_17 : decode cX6_readDate 17 = .ok (.iconst 1, 1) := by decide +kernel
theorem dX6_readDate_18 : decode cX6_readDate 18 = .ok (.iadd, 1) := by decide +kernel
theorem dX6_readDate_19 : decode cX6_readDate 19 = .ok (.invokevirtual 60, 3) := by decide +kernel
theorem dX6_readDate_22 : decode cX6_readDate 22 = .ok (.istore_n 2, 1) := by decide +kernel
theorem dX6_readDate_23 : decode cX6_readDate 23 = .ok (.aload_n 0, 1) := by decide +kernel
theorem dX6_readDate_24 : decode cX6_readDate 24 = .ok (.aload_n 0, 1) := by decide +kernel
theorem dX6_readDate_25 : decode cX6_readDate 25 = .ok (.getfield 26, 3) := by decide +kernel
theorem dX6_readDate_28 : decode cX6_readDate 28 = .ok (.invokevirtual 60, 3) := by decide +kernel
theorem dX6_readDate_31 : decode cX6_readDate 31 = .ok (.bipush 108, 2) := by decide +kernel
theorem dX6_readDate_33 : decode cX6_readDate 33 = .ok (.if_icmp .ne 22, 3) := by decide +kernel
theorem dX6_readDate_36 : decode cX6_readDate 36 = .ok (.aload_n 0, 1) := by decide +kernel
theorem dX6_readDate_37 : decode cX6_readDate 37 = .ok (.dup, 1) := by decide +kernel
theorem dX6_readDate_38 : decode cX6_readDate 38 = .ok (.getfield 26, 3) := by decide +kernel
theorem dX6_readDate_41 : decode cX6_readDate 41 = .ok (.iconst 1, 1) := by decide +kernel
theorem dX6_readDate_42 : decode cX6_readDate 42 = .ok (.iadd, 1) := by decide +kernel
theorem dX6_readDate_43 : decode cX6_readDate 43 = .ok (.putfield 26, 3) := by decide +kernel
theorem dX6_readDate_46 : decode cX6_readDate 46 = .ok (.sipush 500, 3) := by decide +kernel
theorem dX6_readDate_49 : decode cX6_readDate 49 = .ok (.aload_n 0, 1) := by decide +kernel
theorem dX6_readDate_50 : decode cX6_readDate 50 = .ok (.invokevirtual 101, 3) := by decide +kernel
theorem dX6_readDate_53 : decode cX6_readDate 53 = .ok (.iadd, 1) := by decide +kernel
theorem dX6_readDate_54 : decode cX6_readDate 54 = .ok (.ireturn, 1) := by decide +kernel
theorem dX6_readDate_55 : decode cX6_readDate 55 = .ok (.iload_n 2, 1) := by decide +kernel
theorem dX6_readDate_56 : decode cX6_readDate 56 = .ok (.bipush 120, 2) := by decide +kernel
theorem dX6_readDate_58 : decode cX6_readDate 58 = .ok (.if_icmp .ne 33, 3) := by decide +kernel
theorem dX6_readDate_61 : decode cX6_readDate 61 = .ok (.iload_n 1, 1) := by decide +kernel
theorem dX6_readDate_62 : decode cX6_readDate 62 = .ok (.iconst 1, 1) := by decide +kernel
theorem dX6_readDate_63 : decode cX6_readDate 63 = .ok (.if_icmp .lt 28, 3) := by decide +kernel
theorem dX6_readDate_66 : decode cX6_readDate 66 = .ok (.iload_n 1, 1) := by decide +kernel
theorem dX6_readDate_67 : decode cX6_readDate 67 = .ok (.iconst 4, 1) := by decide +kernel
theorem dX6_readDate_68 : decode cX6_readDate 68 = .ok (.if_icmp .gt 23, 3) := by decide +kernel
theorem dX6_readDate_71 : decode cX6_readDate 71 = .ok (.aload_n 0, 1) := by decide +kernel
theorem dX6_readDate_72 : decode cX6_readDate 72 = .ok (.dup, 1) := by decide +kernel
theorem dX6_readDate_73 : decode cX6_readDate 73 = .ok (.getfield 26, 3) := by decide +kernel
theorem dX6_readDate_76 : decode cX6_readDate 76 = .ok (.iconst 2, 1) := by decide +kernel
theorem dX6_readDate_77 : decode cX6_readDate 77 = .ok (.iadd, 1) := by decide +kernel
theorem dX6_readDate_78 : decode cX6_readDate 78 = .ok (.putfield 26, 3) := by decide +kernel
theorem dX6_readDate_81 : decode cX6_readDate 81 = .ok (.bipush 100, 2) := by decide +kernel
theorem dX6_readDate_83 : decode cX6_readDate 83 = .ok (.iload_n 1, 1) := by decide +kernel
theorem dX6_readDate_84 : decode cX6_readDate 84 = .ok (.imul, 1) := by decide +kernel
theorem dX6_readDate_85 : decode cX6_readDate 85 = .ok (.aload_n 0, 1) := by decide +kernel
theorem dX6_readDate_86 : decode cX6_readDate 86 = .ok (.invokevirtual 101, 3) := by decide +kernel
theorem dX6_readDate_89 : decode cX6_readDate 89 = .ok (.iadd, 1) := by decide +kernel
theorem dX6_readDate_90 : decode cX6_readDate 90 = .ok (.ireturn, 1) := by decide +kernel
theorem dX6_readDate_91 : decode cX6_readDate 91 = .ok (.iload_n 2, 1) := by decide +kernel
theorem dX6_readDate_92 : decode cX6_readDate 92 = .ok (.bipush 62, 2) := by decide +kernel
theorem dX6_readDate_94 : decode cX6_readDate 94 = .ok (.if_icmp .ne 38, 3) := by decide +kernel
theorem dX6_readDate_97 : decode cX6_readDate 97 = .ok (.iload_n 1, 1) := by decide +kernel
theorem dX6_readDate_98 : decode cX6_readDate 98 = .ok (.ifCond .lt 34, 3) := by decide +kernel
theorem dX6_readDate_101 : decode cX6_readDate 101 = .ok (.iload_n 1, 1) := by decide +kernel
theorem dX6_readDate_102 : decode cX6_readDate 102 = .ok (.bipush 6, 2) := by decide +kernel
theorem dX6_readDate_104 : decode cX6_readDate 104 = .ok (.if_icmp .gt 28, 3) := by decide +kernel
theorem dX6_readDate_107 : decode cX6_readDate 107 = .ok (.aload_n 0, 1) := by decide +kernel
theorem dX6_readDate_108 : decode cX6_readDate 108 = .ok (.dup, 1) := by decide +kernel
theorem dX6_readDate_109 : decode cX6_readDate 109 = .ok (.getfield 26, 3) := by decide +kernel
theorem dX6_readDate_112 : decode cX6_readDate 112 = .ok (.iconst 2, 1) := by decide +kernel
theorem dX6_readDate_113 : decode cX6_readDate 113 = .ok (.iadd, 1) := by decide +kernel
theorem dX6_readDate_114 : decode cX6_readDate 114 = .ok (.putfield 26, 3) := by decide +kernel
theorem dX6_readDate_117 : decode cX6_readDate 117 = .ok (.sipush 1000, 3) := by decide +kernel
theorem dX6_readDate_120 : decode cX6_readDate 120 = .ok (.bipush 10, 2) := by decide +kernel
theorem dX6_readDate_122 : decode cX6_readDate 122 = .ok (.aload_n 0, 1) := by decide +kernel
theorem dX6_readDate_123 : decode cX6_readDate 123 = .ok (.iconst 2, 1) := by decide +kernel
theorem dX6_readDate_124 : decode cX6_readDate 124 = .ok (.invokevirtual 97, 3) := by decide +kernel
theorem dX6_readDate_127 : decode cX6_readDate 127 = .ok (.imul, 1) := by decide +kernel
theorem dX6_readDate_128 : decode cX6_readDate 128 = .ok (.iadd, 1) := by decide +kernel
theorem dX6_readDate_129 : decode cX6_readDate 129 = .ok (.iload_n 1, 1) := by decide +kernel
theorem dX6_readDate_130 : decode cX6_readDate 130 = .ok (.iadd, 1) := by decide +kernel
theorem dX6_readDate_131 : decode cX6_readDate 131 = .ok (.ireturn, 1) := by decide +kernel
theorem dX6_readDate_132 : decode cX6_readDate 132 = .ok (.aload_n 0, 1) := by decide +kernel
theorem dX6_readDate_133 : decode cX6_readDate 133 = .ok (.iconst 5, 1) := by decide +kernel
theorem dX6_readDate_134 : decode cX6_readDate 134 = .ok (.invokevirtual 97, 3) := by decide +kernel
theorem dX6_readDate_137 : decode cX6_readDate 137 = .ok (.istore_n 3, 1) := by decide +kernel
theorem dX6_readDate_138 : decode cX6_readDate 138 = .ok (.iload_n 3, 1) := by decide +kernel
theorem dX6_readDate_139 : decode cX6_readDate 139 = .ok (.bipush 31, 2) := by decide +kernel
theorem dX6_readDate_141 : decode cX6_readDate 141 = .ok (.if_icmp .gt 7, 3) := by decide +kernel
theorem dX6_readDate_144 : decode cX6_readDate 144 = .ok (.iload_n 3, 1) := by decide +kernel
theorem dX6_readDate_145 : decode cX6_readDate 145 = .ok (.goto 4, 3) := by decide +kernel
theorem dX6_readDate_148 : decode cX6_readDate 148 = .ok (.iconst 0, 1) := by decide +kernel
theorem dX6_readDate_149 : decode cX6_readDate 149 = .ok (.ireturn, 1) := by decide +kernel
theorem dX6_readWeekday_0 : decode cX6_readWeekday 0 = .ok (.aload_n 0, 1) := by decide +kernel
theorem dX6_readWeekday_1 : decode cX6_readWeekday 1 = .ok (.aload_n 0, 1) := by decide +kernel
theorem dX6_readWeekday_2 : decode cX6_readWeekday 2 = .ok (.getfield 26, 3) := by decide +kernel
theorem dX6_readWeekday_5 : decode cX6_readWeekday 5 = .ok (.invokevirtual 60, 3) := by decide +kernel
theorem dX6_readWeekday_8 : decode cX6_readWeekday 8 = .ok (.bipush 48, 2) := by decide +kernel
theorem dX6_readWeekday_10 : decode cX6_readWeekday 10 = .ok (.isub, 1) := by decide +kernel
theorem dX6_readWeekday_11 : decode cX6_readWeekday 11 = .ok (.istore_n 1, 1) := by decide +kernel
theorem dX6_readWeekday_12 : decode cX6_readWeekday 12 = .ok (.iload_n 1, 1) := by decide +kernel
theorem dX6_readWeekday_13 : decode cX6_readWeekday 13 = .ok (.ifCond .lt 9, 3) := by decide +kernel
theorem dX6_readWeekday_16 : decode cX6_readWeekday 16 = .ok (.iload_n 1, 1) := by decide +kernel
theorem dX6_readWeekday_17 : decode cX6_readWeekday 17 = .ok (.bipush 6, 2) := by decide +kernel
theorem dX6_readWeekday_19 : decode cX6_readWeekday 19 = .ok (.if_icmp .le 13, 3) := by decide +kernel
theorem dX6_readWeekday_22 : decode cX6_readWeekday 22 = .ok (.aload_n 0, 1) := by decide +kernel
theorem dX6_readWeekday_23 : decode cX6_readWeekday 23 = .ok (.aload_n 0, 1) := by decide +kernel
theorem dX6_readWeekday_24 : decode cX6_readWeekday 24 = .ok (.getfield 26, 3) := by decide +kernel
theorem dX6_readWeekday_27 : decode cX6_readWeekday 27 = .ok (.putfield 11, 3) := by decide +kernel
theorem dX6_readWeekday_30 : decode cX6_readWeekday 30 = .ok (.iconst 0, 1) := by decide +kernel
theorem dX6_readWeekday_31 : decode cX6_readWeekday 31 = .ok (.ireturn, 1) := by decide +kernel
theorem dX6_readWeekday_32 : decode cX6_readWeekday 32 = .ok (.aload_n 0, 1) := by decide +kernel
theorem dX6_readWeekday_33 : decode cX6_readWeekday 33 = .ok (.dup, 1) := by decide +kernel
theorem dX6_readWeekday_34 : decode cX6_readWeekday 34 = .ok (.getfield 26, 3) := by decide +kernel
theorem dX6_readWeekday_37 : decode cX6_readWeekday 37 = .ok (.iconst 1, 1) := by decide +kernel
theorem dX6_readWeekday_38 : decode cX6_readWeekday 38 = .ok (.iadd, 1) := by decide +kernel
theorem dX6_readWeekday_39 : decode cX6_readWeekday 39 = .ok (.putfield 26, 3) := by decide +kernel
theorem dX6_readWeekday_42 : decode cX6_readWeekday 42 = .ok (.iload_n 1, 1) := by decide +kernel
theorem dX6_readWeekday_43 : decode cX6_readWeekday 43 = .ok (.ireturn, 1) := by decide +kernel
theorem dX6_readClock_0 : decode cX6_readClock 0 = .ok (.aload_n 0, 1) := by decide +kernel
theorem dX6_readClock_1 : decode cX6_readClock 1 = .ok (.aload_n 0, 1) := by decide +kernel
theorem dX6_readClock_2 : decode cX6_readClock 2 = .ok (.getfield 26, 3) := by decide +kernel
theorem dX6_readClock_5 : decode cX6_readClock 5 = .ok (.invokevirtual 60, 3) := by decide +kernel
theorem dX6_readClock_8 : decode cX6_readClock 8 = .ok (.lookupswitch 51 #[(98, 41), (105, 46), (119, 36)], 36) := by decide +kernel
theorem dX6_readClock_44 : decode cX6_readClock 44 = .ok (.iconst 0, 1) := by decide +kernel
theorem dX6_readClock_45 : decode cX6_readClock 45 = .ok (.istore_n 1, 1) := by decide +kernel
theorem dX6_readClock_46 : decode cX6_readClock 46 = .ok (.goto 23, 3) := by decide +kernel
theorem dX6_readClock_49 : decode cX6_readClock 49 = .ok (.iconst 1, 1) := by decide +kernel
theorem dX6_readClock_50 : decode cX6_readClock 50 = .ok (.istore_n 1, 1) := by decide +kernel
theorem dX6_readClock_51 : decode cX6_readClock 51 = .ok (.goto 18, 3) := by decide +kernel
theorem dX6_readClock_54 : decode cX6_readClock 54 = .ok (.iconst 2, 1) := by decide +kernel
theorem dX6_readClock_55 : decode cX6_readClock 55 = .ok (.istore_n 1, 1) := by decide +kernel
theorem dX6_readClock_56 : decode cX6_readClock 56 = .ok (.goto 13, 3) := by decide +kernel
theorem dX6_readClock_59 : decode cX6_readClock 59 = .ok (.aload_n 0, 1) := by decide +kernel
theorem dX6_readClock_60 : decode cX6_readClock 60 = .ok (.aload_n 0, 1) := by decide +kernel
theorem dX6_readClock_61 : decode cX6_readClock 61 = .ok (.getfield 26, 3) := by decide +kernel
theorem dX6_readClock_64 : decode cX6_readClock 64 = .ok (.putfield 11, 3) := by decide +kernel
theorem dX6_readClock_67 : decode cX6_readClock 67 = .ok (.iconst 0, 1) := by decide +kernel
theorem dX6_readClock_68 : decode cX6_readClock 68 = .ok (.ireturn, 1) := by decide +kernel
theorem dX6_readClock_69 : decode cX6_readClock 69 = .ok (.aload_n 0, 1) := by decide +kernel
theorem dX6_readClock_70 : decode cX6_readClock 70 = .ok (.dup, 1) := by decide +kernel
theorem dX6_readClock_71 : decode cX6_readClock 71 = .ok (.getfield 26, 3) := by decide +kernel
theorem dX6_readClock_74 : decode cX6_readClock 74 = .ok (.iconst 1, 1) := by decide +kernel
theorem dX6_readClock_75 : decode cX6_readClock 75 = .ok (.iadd, 1) := by decide +kernel
theorem dX6_readClock_76 : decode cX6_readClock 76 = .ok (.putfield 26, 3) := by decide +kernel
theorem dX6_readClock_79 : decode cX6_readClock 79 = .ok (.iload_n 1, 1) := by decide +kernel
theorem dX6_readClock_80 : decode cX6_readClock 80 = .ok (.ireturn, 1) := by decide +kernel
theorem dX6_readSign_0 : decode cX6_readSign 0 = .ok (.aload_n 0, 1) := by decide +kernel
theorem dX6_readSign_1 : decode cX6_readSign 1 = .ok (.getfield 11, 3) := by decide +kernel
theorem dX6_readSign_4 : decode cX6_readSign 4 = .ok (.ifCond .lt 4, 3) := by decide +kernel
theorem dX6_readSign_7 : decode cX6_readSign 7 = .ok (.return_, 1) := by decide +kernel
theorem dX6_readSign_8 : decode cX6_readSign 8 = .ok (.aload_n 0, 1) := by decide +kernel
theorem dX6_readSign_9 : decode cX6_readSign 9 = .ok (.aload_n 0, 1) := by decide +kernel
theorem dX6_readSign_10 : decode cX6_readSign 10 = .ok (.getfield 26, 3) := by decide +kernel
theorem dX6_readSign_13 : decode cX6_readSign 13 = .ok (.invokevirtual 60, 3) := by decide +kernel
theorem dX6_readSign_16 : decode cX6_readSign 16 = .ok (.iload_n 1, 1) := by decide +kernel
theorem dX6_readSign_17 : decode cX6_readSign 17 = .ok (.if_icmp .ne 16, 3) := by decide +kernel
theorem dX6_readSign_20 : decode cX6_readSign 20 = .ok (.aload_n 0, 1) := by decide +kernel
theorem dX6_readSign_21 : decode cX6_readSign 21 = .ok (.dup, 1) := by decide +kernel
theorem dX6_readSign_22 : decode cX6_readSign 22 = .ok (.getfield 26, 3) := by decide +kernel
theorem dX6_readSign_25 : decode cX6_readSign 25 = .ok (.iconst 1, 1) := by decide +kernel
theorem dX6_readSign_26 : decode cX6_readSign 26 = .ok (.iadd, 1) := by decide +kernel
theorem dX6_readSign_27 : decode cX6_readSign 27 = .ok (.putfield 26, 3) := by decide +kernel
theorem dX6_readSign_30 : decode cX6_readSign 30 = .ok (.goto 11, 3) := by decide +kernel
theorem dX6_readSign_33 : decode cX6_readSign 33 = .ok (.aload_n 0, 1) := by decide +kernel
theorem dX6_readSign_34 : decode cX6_readSign 34 = .ok (.aload_n 0, 1) := by decide +kernel
theorem dX6_readSign_35 : decode cX6_readSign 35 = .ok (.getfield 26, 3) := by decide +kernel
theorem dX6_readSign_38 : decode cX6_readSign 38 = .ok (.putfield 11, 3) := by decide +kernel
theorem dX6_readSign_41 : decode cX6_readSign 41 = .ok (.return_, 1) := by decide +kernel
theorem dX6_letterAt_0 : decode cX6_letterAt 0 = .ok (.iload_n 1, 1) := by decide +kernel
theorem dX6_letterAt_1 : decode cX6_letterAt 1 = .ok (.ifCond .lt 29, 3) := by decide +kernel
theorem dX6_letterAt_4 : decode cX6_letterAt 4 = .ok (.iload_n 1, 1) := by decide +kernel
theorem dX6_letterAt_5 : decode cX6_letterAt 5 = .ok (.aload_n 0, 1) := by decide +kernel
theorem dX6_letterAt_6 : decode cX6_letterAt 6 = .ok (.getfield 23, 3) := by decide +kernel
theorem dX6_letterAt_9 : decode cX6_letterAt 9 = .ok (.if_icmp .ge 21, 3) := by decide +kernel
theorem dX6_letterAt_12 : decode cX6_letterAt 12 = .ok (.iload_n 1, 1) := by decide +kernel
theorem dX6_letterAt_13 : decode cX6_letterAt 13 = .ok (.aload_n 0, 1) := by decide +kernel
theorem dX6_letterAt_14 : decode cX6_letterAt 14 = .ok (.getfield 15, 3) := by decide +kernel
theorem dX6_letterAt_17 : decode cX6_letterAt 17 = .ok (.arraylength, 1) := by decide +kernel
theorem dX6_letterAt_18 : decode cX6_letterAt 18 = .ok (.if_icmp .ge 12, 3) := by decide +kernel
theorem dX6_letterAt_21 : decode cX6_letterAt 21 = .ok (.aload_n 0, 1) := by decide +kernel
theorem dX6_letterAt_22 : decode cX6_letterAt 22 = .ok (.getfield 15, 3) := by decide +kernel
theorem dX6_letterAt_25 : decode cX6_letterAt 25 = .ok (.iload_n 1, 1) := by decide +kernel
theorem dX6_letterAt_26 : decode cX6_letterAt 26 = .ok (.caload, 1) := by decide +kernel
theorem dX6_letterAt_27 : decode cX6_letterAt 27 = .ok (.goto 4, 3) := by decide +kernel
theorem dX6_letterAt_30 : decode cX6_letterAt 30 = .ok (.iconst 0, 1) := by decide +kernel
theorem dX6_letterAt_31 : decode cX6_letterAt 31 = .ok (.ireturn, 1) := by decide +kernel
theorem dX7_init_0 : decode cX7_init 0 = .ok (.aload_n 0, 1) := by decide +kernel
theorem dX7_init_1 : decode cX7_init 1 = .ok (.invokespecial 3, 3) := by decide +kernel
theorem dX7_init_4 : decode cX7_init 4 = .ok (.aload_n 0, 1) := by decide +kernel
theorem dX7_init_5 : decode cX7_init 5 = .ok (.sipush 260, 3) := by decide +kernel
theorem dX7_init_8 : decode cX7_init 8 = .ok (.newarray .int, 2) := by decide +kernel
theorem dX7_init_10 : decode cX7_init 10 = .ok (.putfield 9, 3) := by decide +kernel
theorem dX7_init_13 : decode cX7_init 13 = .ok (.aload_n 0, 1) := by decide +kernel
theorem dX7_init_14 : decode cX7_init 14 = .ok (.sipush 260, 3) := by decide +kernel
theorem dX7_init_17 : decode cX7_init 17 = .ok (.newarray .int, 2) := by decide +kernel
theorem dX7_init_19 : decode cX7_init 19 = .ok (.putfield 15, 3) := by decide +kernel
theorem dX7_init_22 : decode cX7_init 22 = .ok (.aload_n 0, 1) := by decide +kernel
theorem dX7_init_23 : decode cX7_init 23 = .ok (.sipush 260, 3) := by decide +kernel
theorem dX7_init_26 : decode cX7_init 26 = .ok (.newarray .int, 2) := by decide +kernel
theorem dX7_init_28 : decode cX7_init 28 = .ok (.putfield 18, 3) := by decide +kernel
theorem dX7_init_31 : decode cX7_init 31 = .ok (.aload_n 0, 1) := by decide +kernel
theorem dX7_init_32 : decode cX7_init 32 = .ok (.sipush 260, 3) := by decide +kernel
theorem dX7_init_35 : decode cX7_init 35 = .ok (.newarray .int, 2) := by decide +kernel
theorem dX7_init_37 : decode cX7_init 37 = .ok (.putfield 21, 3) := by decide +kernel
theorem dX7_init_40 : decode cX7_init 40 = .ok (.aload_n 0, 1) := by decide +kernel
theorem dX7_init_41 : decode cX7_init 41 = .ok (.sipush 260, 3) := by decide +kernel
theorem dX7_init_44 : decode cX7_init 44 = .ok (.newarray .int, 2) := by decide +kernel
theorem dX7_init_46 : decode cX7_init 46 = .ok (.putfield 24, 3) := by decide +kernel
theorem dX7_init_49 : decode cX7_init 49 = .ok (.aload_n 0, 1) := by decide +kernel
theorem dX7_init_50 : decode cX7_init 50 = .ok (.sipush 260, 3) := by decide +kernel
theorem dX7_init_53 : decode cX7_init 53 = .ok (.newarray .int, 2) := by decide +kernel
theorem dX7_init_55 : decode cX7_init 55 = .ok (.putfield 27, 3) := by decide +kernel
theorem dX7_init_58 : decode cX7_init 58 = .ok (.aload_n 0, 1) := by decide +kernel
theorem dX7_init_59 : decode cX7_init 59 = .ok (.sipush 261, 3) := by decide +kernel
theorem dX7_init_62 : decode cX7_init 62 = .ok (.newarray .int, 2) := by decide +kernel
theorem dX7_init_64 : decode cX7_init 64 = .ok (.putfield 30, 3) := by decide +kernel
theorem dX7_init_67 : decode cX7_init 67 = .ok (.return_, 1) := by decide +kernel
theorem dX7_compile_0 : decode cX7_compile 0 = .ok (.aload_n 0, 1) := by decide +kernel
theorem dX7_compile_1 : decode cX7_compile 1 = .ok (.iload_n 3, 1) := by decide +kernel
theorem dX7_compile_2 : decode cX7_compile 2 = .ok (.putfield 33, 3) := by decide +kernel
theorem dX7_compile_5 : decode cX7_compile 5 = .ok (.aload_n 0, 1) := by decide +kernel
theorem dX7_compile_6 : decode cX7_compile 6 = .ok (.iconst 0, 1) := by decide +kernel
theorem dX7_compile_7 : decode cX7_compile 7 = .ok (.putfield 37, 3) := by decide +kernel
theorem dX7_compile_10 : decode cX7_compile 10 = .ok (.aload_n 0, 1) := by decide +kernel
theorem dX7_compile_11 : decode cX7_compile 11 = .ok (.iconst 0, 1) := by decide +kernel
theorem dX7_compile_12 : decode cX7_compile 12 = .ok (.putfield 40, 3) := by decide +kernel
theorem dX7_compile_15 : decode cX7_compile 15 = .ok (.aload_n 0, 1) := by decide +kernel
theorem dX7_compile_16 : decode cX7_compile 16 = .ok (.aload_n 1, 1) := by decide +kernel
theorem dX7_compile_17 : decode cX7_compile 17 = .ok (.getfield 43, 3) := by decide +kernel
theorem dX7_compile_20 : decode cX7_compile 20 = .ok (.putfield 48, 3) := by decide +kernel
theorem dX7_compile_23 : decode cX7_compile 23 = .ok (.aload_n 0, 1) := by decide +kernel
theorem dX7_compile_24 : decode cX7_compile 24 = .ok (.aload_n 1, 1) := by decide +kernel
theorem dX7_compile_25 : decode cX7_compile 25 = .ok (.getfield 43, 3) := by decide +kernel
theorem dX7_compile_28 : decode cX7_compile 28 = .ok (.putfield 51, 3) := by decide +kernel
theorem dX7_compile_31 : decode cX7_compile 31 = .ok (.aload_n 0, 1) := by decide +kernel
theorem dX7_compile_32 : decode cX7_compile 32 = .ok (.getfield 30, 3) := by decide +kernel
theorem dX7_compile_35 : decode cX7_compile 35 = .ok (.iconst 0, 1) := by decide +kernel
theorem dX7_compile_36 : decode cX7_compile 36 = .ok (.aload_n 1, 1) := by decide +kernel
theorem dX7_compile_37 : decode cX7_compile 37 = .ok (.getfield 43, 3) := by decide +kernel
theorem dX7_compile_40 : decode cX7_compile 40 = .ok (.iastore, 1) := by decide +kernel
theorem dX7_compile_41 : decode cX7_compile 41 = .ok (.aload 4, 2) := by decide +kernel
theorem dX7_compile_43 : decode cX7_compile 43 = .ok (.aload_n 1, 1) := by decide +kernel
theorem dX7_compile_44 : decode cX7_compile 44 = .ok (.getfield 43, 3) := by decide +kernel
theorem dX7_compile_47 : decode cX7_compile 47 = .ok (.invokevirtual 54, 3) := by decide +kernel
theorem dX7_compile_50 : decode cX7_compile 50 = .ok (.iconst 0, 1) := by decide +kernel
theorem dX7_compile_51 : decode cX7_compile 51 = .ok (.istore 5, 2) := by decide +kernel
theorem dX7_compile_53 : decode cX7_compile 53 = .ok (.iload 5, 2) := by decide +kernel
theorem dX7_compile_55 : decode cX7_compile 55 = .ok (.iload_n 3, 1) := by decide +kernel
theorem dX7_compile_56 : decode cX7_compile 56 = .ok (.if_icmp .ge 55, 3) := by decide +kernel
theorem dX7_compile_59 : decode cX7_compile 59 = .ok (.aload 4, 2) := by decide +kernel
theorem dX7_compile_61 : decode cX7_compile 61 = .ok (.aload_n 1, 1) := by decide +kernel
theorem dX7_compile_62 : decode cX7_compile 62 = .ok (.aload_n 2, 1) := by decide +kernel
theorem dX7_compile_63 : decode cX7_compile 63 = .ok (.iload 5, 2) := by decide +kernel
theorem dX7_compile_65 : decode cX7_compile 65 = .ok (.laload, 1) := by decide +kernel
theorem dX7_compile_66 : decode cX7_compile 66 = .ok (.invokevirtual 60, 3) := by decide +kernel
theorem dX7_compile_69 : decode cX7_compile 69 = .ok (.istore 6, 2) := by decide +kernel
theorem dX7_compile_71 : decode cX7_compile 71 = .ok (.iload 6, 2) := by decide +kernel
theorem dX7_compile_73 : decode cX7_compile 73 = .ok (.ifCond .ne 16, 3) := by decide +kernel
theorem dX7_compile_76 : decode cX7_compile 76 = .ok (.aload_n 0, 1) := by decide +kernel
theorem dX7_compile_77 : decode cX7_compile 77 = .ok (.aload_n 2, 1) := by decide +kernel
theorem dX7_compile_78 : decode cX7_compile 78 = .ok (.iload 5, 2) := by decide +kernel
theorem dX7_compile_80 : decode cX7_compile 80 = .ok (.laload, 1) := by decide +kernel
theorem dX7_compile_81 : decode cX7_compile 81 = .ok (.aload 4, 2) := by decide +kernel
theorem dX7_compile_83 : decode cX7_compile 83 = .ok (.invokevirtual 64, 3) := by decide +kernel
theorem dX7_compile_86 : decode cX7_compile 86 = .ok (.goto 19, 3) := by decide +kernel
theorem dX7_compile_89 : decode cX7_compile 89 = .ok (.iload 6, 2) := by decide +kernel
theorem dX7_compile_91 : decode cX7_compile 91 = .ok (.iconst 2, 1) := by decide +kernel
theorem dX7_compile_92 : decode cX7_compile 92 = .ok (.if_icmp .ne 13, 3) := by decide +kernel
theorem dX7_compile_95 : decode cX7_compile 95 = .ok (.aload_n 0, 1) := by decide +kernel
theorem dX7_compile_96 : decode cX7_compile 96 = .ok (.aload_n 2, 1) := by decide +kernel
theorem dX7_compile_97 : decode cX7_compile 97 = .ok (.iload 5, 2) := by decide +kernel
theorem dX7_compile_99 : decode cX7_compile 99 = .ok (.laload, 1) := by decide +kernel
theorem dX7_compile_100 : decode cX7_compile 100 = .ok (.aload 4, 2) := by decide +kernel
theorem dX7_compile_102 : decode cX7_compile 102 = .ok (.invokevirtual 68, 3) := by decide +kernel
theorem dX7_compile_105 : decode cX7_compile 105 = .ok (.iinc 5 1, 3) := by decide +kernel
theorem dX7_compile_108 : decode cX7_compile 108 = .ok (.goto (-55), 3) := by decide +kernel
theorem dX7_compile_111 : decode cX7_compile 111 = .ok (.aload_n 0, 1) := by decide +kernel
theorem dX7_compile_112 : decode cX7_compile 112 = .ok (.iconst 1, 1) := by decide +kernel
theorem dX7_compile_113 : decode cX7_compile 113 = .ok (.putfield 71, 3) := by decide +kernel
theorem dX7_compile_116 : decode cX7_compile 116 = .ok (.return_, 1) := by decide +kernel
theorem dX7_putVoid_0 : decode cX7_putVoid 0 = .ok (.aload_n 0, 1) := by decide +kernel
theorem dX7_putVoid_1 : decode cX7_putVoid 1 = .ok (.getfield 21, 3) := by decide +kernel
theorem dX7_putVoid_4 : decode cX7_putVoid 4 = .ok (.aload_n 0, 1) := by decide +kernel
theorem dX7_putVoid_5 : decode cX7_putVoid 5 = .ok (.getfield 40, 3) := by decide +kernel
theorem dX7_putVoid_8 : decode cX7_putVoid 8 = .ok (.lload_n 1, 1) := by decide +kernel
theorem dX7_putVoid_9 : decode cX7_putVoid 9 = .ok (.ldc2_w 75, 3) := by decide +kernel
theorem dX7_putVoid_12 : decode cX7_putVoid 12 = .ok (.ldiv, 1) := by decide +kernel
theorem dX7_putVoid_13 : decode cX7_putVoid 13 = .ok (.l2i, 1) := by decide +kernel
theorem dX7_putVoid_14 : decode cX7_putVoid 14 = .ok (.iastore, 1) := by decide +kernel
theorem dX7_putVoid_15 : decode cX7_putVoid 15 = .ok (.aload_n 0, 1) := by decide +kernel
theorem dX7_putVoid_16 : decode cX7_putVoid 16 = .ok (.getfield 24, 3) := by decide +kernel
theorem dX7_putVoid_19 : decode cX7_putVoid 19 = .ok (.aload_n 0, 1) := by decide +kernel
theorem dX7_putVoid_20 : decode cX7_putVoid 20 = .ok (.getfield 40, 3) := by decide +kernel
theorem dX7_putVoid_23 : decode cX7_putVoid 23 = .ok (.aload_n 3, 1) := by decide +kernel
theorem dX7_putVoid_24 : decode cX7_putVoid 24 = .ok (.getfield 77, 3) := by decide +kernel
theorem dX7_putVoid_27 : decode cX7_putVoid 27 = .ok (.iastore, 1) := by decide +kernel
theorem dX7_putVoid_28 : decode cX7_putVoid 28 = .ok (.aload_n 0, 1) := by decide +kernel
theorem dX7_putVoid_29 : decode cX7_putVoid 29 = .ok (.getfield 27, 3) := by decide +kernel
theorem dX7_putVoid_32 : decode cX7_putVoid 32 = .ok (.aload_n 0, 1) := by decide +kernel
theorem dX7_putVoid_33 : decode cX7_putVoid 33 = .ok (.getfield 40, 3) := by decide +kernel
theorem dX7_putVoid_36 : decode cX7_putVoid 36 = .ok (.lload_n 1, 1) := by decide +kernel
theorem dX7_putVoid_37 : decode cX7_putVoid 37 = .ok (.invokestatic 80, 3) := by decide +kernel
theorem dX7_putVoid_40 : decode cX7_putVoid 40 = .ok (.iastore, 1) := by decide +kernel
theorem dX7_putVoid_41 : decode cX7_putVoid 41 = .ok (.aload_n 0, 1) := by decide +kernel
theorem dX7_putVoid_42 : decode cX7_putVoid 42 = .ok (.dup, 1) := by decide +kernel
theorem dX7_putVoid_43 : decode cX7_putVoid 43 = .ok (.getfield 40, 3) := by decide +kernel
theorem dX7_putVoid_46 : decode cX7_putVoid 46 = .ok (.iconst 1, 1) := by decide +kernel
theorem dX7_putVoid_47 : decode cX7_putVoid 47 = .ok (.iadd, 1) := by decide +kernel
theorem dX7_putVoid_48 : decode cX7_putVoid 48 = .ok (.putfield 40, 3) := by decide +kernel
theorem dX7_putVoid_51 : decode cX7_putVoid 51 = .ok (.return_, 1) := by decide +kernel
theorem dX7_putTransition_0 : decode cX7_putTransition 0 = .ok (.aload_n 3, 1) := by decide +kernel
theorem dX7_putTransition_1 : decode cX7_putTransition 1 = .ok (.getfield 84, 3) := by decide +kernel
theorem dX7_putTransition_4 : decode cX7_putTransition 4 = .ok (.aload_n 3, 1) := by decide +kernel
theorem dX7_putTransition_5 : decode cX7_putTransition 5 = .ok (.getfield 85, 3) := by decide +kernel
theorem dX7_putTransition_8 : decode cX7_putTransition 8 = .ok (.iadd, 1) := by decide +kernel
theorem dX7_putTransition_9 : decode cX7_putTransition 9 = .ok (.istore 4, 2) := by decide +kernel
theorem dX7_putTransition_11 : decode cX7_putTransition 11 = .ok (.aload_n 0, 1) := by decide +kernel
theorem dX7_putTransition_12 : decode cX7_putTransition 12 = .ok (.getfield 9, 3) := by decide +kernel
theorem dX7_putTransition_15 : decode cX7_putTransition 15 = .ok (.aload_n 0, 1) := by decide +kernel
theorem dX7_putTransition_16 : decode cX7_putTransition 16 = .ok (.getfield 37, 3) := by decide +kernel
theorem dX7_putTransition_19 : decode cX7_putTransition 19 = .ok (.aload_n 3, 1) := by decide +kernel
theorem dX7_putTransition_20 : decode cX7_putTransition 20 = .ok (.getfield 77, 3) := by decide +kernel
theorem dX7_putTransition_23 : decode cX7_putTransition 23 = .ok (.iastore, 1) := by decide +kernel
theorem dX7_putTransition_24 : decode cX7_putTransition 24 = .ok (.aload_n 0, 1) := by decide +kernel
theorem dX7_putTransition_25 : decode cX7_putTransition 25 = .ok (.getfield 15, 3) := by decide +kernel
theorem dX7_putTransition_28 : decode cX7_putTransition 28 = .ok (.aload_n 0, 1) := by decide +kernel
theorem dX7_putTransition_29 : decode cX7_putTransition 29 = .ok (.getfield 37, 3) := by decide +kernel
theorem dX7_putTransition_32 : decode cX7_putTransition 32 = .ok (.aload_n 3, 1) := by decide +kernel
theorem dX7_putTransition_33 : decode cX7_putTransition 33 = .ok (.getfield 85, 3) := by decide +kernel
theorem dX7_putTransition_36 : decode cX7_putTransition 36 = .ok (.iastore, 1) := by decide +kernel
theorem dX7_putTransition_37 : decode cX7_putTransition 37 = .ok (.aload_n 0, 1) := by decide +kernel
theorem dX7_putTransition_38 : decode cX7_putTransition 38 = .ok (.getfield 18, 3) := by decide +kernel
theorem dX7_putTransition_41 : decode cX7_putTransition 41 = .ok (.aload_n 0, 1) := by decide +kernel
theorem dX7_putTransition_42 : decode cX7_putTransition 42 = .ok (.getfield 37, 3) := by decide +kernel
theorem dX7_putTransition_45 : decode cX7_putTransition 45 = .ok (.lload_n 1, 1) := by decide +kernel
theorem dX7_putTransition_46 : decode cX7_putTransition 46 = .ok (.invokestatic 80, 3) := by decide +kernel
theorem dX7_putTransition_49 : decode cX7_putTransition 49 = .ok (.iastore, 1) := by decide +kernel
theorem dX7_putTransition_50 : decode cX7_putTransition 50 = .ok (.aload_n 0, 1) := by decide +kernel
theorem dX7_putTransition_51 : decode cX7_putTransition 51 = .ok (.dup, 1) := by decide +kernel
theorem dX7_putTransition_52 : decode cX7_putTransition 52 = .ok (.getfield 37, 3) := by decide +kernel
theorem dX7_putTransition_55 : decode cX7_putTransition 55 = .ok (.iconst 1, 1) := by decide +kernel
theorem dX7_putTransition_56 : decode cX7_putTransition 56 = .ok (.iadd, 1) := by decide +kernel
theorem dX7_putTransition_57 : decode cX7_putTransition 57 = .ok (.putfield 37, 3) := by decide +kernel
theorem dX7_putTransition_60 : decode cX7_putTransition 60 = .ok (.aload_n 0, 1) := by decide +kernel
theorem dX7_putTransition_61 : decode cX7_putTransition 61 = .ok (.getfield 30, 3) := by decide +kernel
theorem dX7_putTransition_64 : decode cX7_putTransition 64 = .ok (.aload_n 0, 1) := by decide +kernel
theorem dX7_putTransition_65 : decode cX7_putTransition 65 = .ok (.getfield 37, 3) := by decide +kernel
theorem dX7_putTransition_68 : decode cX7_putTransition 68 = .ok (.iload 4, 2) := by decide +kernel
theorem dX7_putTransition_70 : decode cX7_putTransition 70 = .ok (.iastore, 1) := by decide +kernel
theorem dX7_putTransition_71 : decode cX7_putTransition 71 = .ok (.aload_n 0, 1) := by decide +kernel
theorem dX7_putTransition_72 : decode cX7_putTransition 72 = .ok (.aload_n 0, 1) := by decide +kernel
theorem dX7_putTransition_73 : decode cX7_putTransition 73 = .ok (.getfield 48, 3) := by decide +kernel
theorem dX7_putTransition_76 : decode cX7_putTransition 76 = .ok (.iload 4, 2) := by decide +kernel
theorem dX7_putTransition_78 : decode cX7_putTransition 78 = .ok (.invokestatic 88, 3) := by decide +kernel
theorem dX7_putTransition_81 : decode cX7_putTransition 81 = .ok (.putfield 48, 3) := by decide +kernel
theorem dX7_putTransition_84 : decode cX7_putTransition 84 = .ok (.aload_n 0, 1) := by decide +kernel
theorem dX7_putTransition_85 : decode cX7_putTransition 85 = .ok (.aload_n 0, 1) := by decide +kernel
theorem dX7_putTransition_86 : decode cX7_putTransition 86 = .ok (.getfield 51, 3) := by decide +kernel
theorem dX7_putTransition_89 : decode cX7_putTransition 89 = .ok (.iload 4, 2) := by decide +kernel
theorem dX7_putTransition_91 : decode cX7_putTransition 91 = .ok (.invokestatic 94, 3) := by decide +kernel
theorem dX7_putTransition_94 : decode cX7_putTransition 94 = .ok (.putfield 51, 3) := by decide +kernel
theorem dX7_putTransition_97 : decode cX7_putTransition 97 = .ok (.return_, 1) := by decide +kernel
theorem dX7_sourceOf_0 : decode cX7_sourceOf 0 = .ok (.lload_n 0, 1) := by decide +kernel
theorem dX7_sourceOf_1 : decode cX7_sourceOf 1 = .ok (.ldc2_w 75, 3) := by decide +kernel
theorem dX7_sourceOf_4 : decode cX7_sourceOf 4 = .ok (.lrem, 1) := by decide +kernel
theorem dX7_sourceOf_5 : decode cX7_sourceOf 5 = .ok (.l2i, 1) := by decide +kernel
theorem dX7_sourceOf_6 : decode cX7_sourceOf 6 = .ok (.istore_n 2, 1) := by decide +kernel
theorem dX7_sourceOf_7 : decode cX7_sourceOf 7 = .ok (.iload_n 2, 1) := by decide +kernel
theorem dX7_sourceOf_8 : decode cX7_sourceOf 8 = .ok (.iconst 4, 1) := by decide +kernel
theorem dX7_sourceOf_9 : decode cX7_sourceOf 9 = .ok (.if_icmp .ge 10, 3) := by decide +kernel
theorem dX7_sourceOf_12 : decode cX7_sourceOf 12 = .ok (.bipush 100, 2) := by decide +kernel
theorem dX7_sourceOf_14 : decode cX7_sourceOf 14 = .ok (.iload_n 2, 1) := by decide +kernel
theorem dX7_sourceOf_15 : decode cX7_sourceOf 15 = .ok (.iadd, 1) := by decide +kernel
theorem dX7_sourceOf_16 : decode cX7_sourceOf 16 = .ok (.goto 6, 3) := by decide +kernel
theorem dX7_sourceOf_19 : decode cX7_sourceOf 19 = .ok (.iload_n 2, 1) := by decide +kernel
theorem dX7_sourceOf_20 : decode cX7_sourceOf 20 = .ok (.iconst 4, 1) := by decide +kernel
theorem dX7_sourceOf_21 : decode cX7_sourceOf 21 = .ok (.isub, 1) := by decide +kernel
theorem dX7_sourceOf_22 : decode cX7_sourceOf 22 = .ok (.ireturn, 1) := by decide +kernel
theorem dX7_offsetIn_0 : decode cX7_offsetIn 0 = .ok (.aload_n 0, 1) := by decide +kernel
theorem dX7_offsetIn_1 : decode cX7_offsetIn 1 = .ok (.getfield 30, 3) := by decide +kernel
theorem dX7_offsetIn_4 : decode cX7_offsetIn 4 = .ok (.iload_n 1, 1) := by decide +kernel
theorem dX7_offsetIn_5 : decode cX7_offsetIn 5 = .ok (.iaload, 1) := by decide +kernel
theorem dX7_offsetIn_6 : decode cX7_offsetIn 6 = .ok (.ireturn, 1) := by decide +kernel
theorem dX7_offsetAt_0 : decode cX7_offsetAt 0 = .ok (.aload_n 0, 1) := by decide +kernel
theorem dX7_offsetAt_1 : decode cX7_offsetAt 1 = .ok (.getfield 30, 3) := by decide +kernel
theorem dX7_offsetAt_4 : decode cX7_offsetAt 4 = .ok (.aload_n 0, 1) := by decide +kernel
theorem dX7_offsetAt_5 : decode cX7_offsetAt 5 = .ok (.iload_n 1, 1) := by decide +kernel
theorem dX7_offsetAt_6 : decode cX7_offsetAt 6 = .ok (.invokevirtual 97, 3) := by decide +kernel
theorem dX7_offsetAt_9 : decode cX7_offsetAt 9 = .ok (.iaload, 1) := by decide +kernel
theorem dX7_offsetAt_10 : decode cX7_offsetAt 10 = .ok (.ireturn, 1) := by decide +kernel
theorem dX7_spanAt_0 : decode cX7_spanAt 0 = .ok (.iconst 0, 1) := by decide +kernel
theorem dX7_spanAt_1 : decode cX7_spanAt 1 = .ok (.istore_n 2, 1) := by decide +kernel
theorem dX7_spanAt_2 : decode cX7_spanAt 2 = .ok (.aload_n 0, 1) := by decide +kernel
theorem dX7_spanAt_3 : decode cX7_spanAt 3 = .ok (.getfield 37, 3) := by decide +kernel
theorem dX7_spanAt_6 : decode cX7_spanAt 6 = .ok (.istore_n 3, 1) := by decide +kernel
theorem dX7_spanAt_7 : decode cX7_spanAt 7 = .ok (.iload_n 2, 1) := by decide +kernel
theorem dX7_spanAt_8 : decode cX7_spanAt 8 = .ok (.iload_n 3, 1) := by decide +kernel
theorem dX7_spanAt_9 : decode cX7_spanAt 9 = .ok (.if_icmp .ge 35, 3) := by decide +kernel
theorem dX7_spanAt_12 : decode cX7_spanAt 12 = .ok (.iload_n 2, 1) := by decide +kernel
theorem dX7_spanAt_13 : decode cX7_spanAt 13 = .ok (.iload_n 3, 1) := by decide +kernel
theorem dX7_spanAt_14 : decode cX7_spanAt 14 = .ok (.iadd, 1) := by decide +kernel
theorem dX7_spanAt_15 : decode cX7_spanAt 15 = .ok (.iconst 2, 1) := by decide +kernel
theorem dX7_spanAt_16 : decode cX7_spanAt 16 = .ok (.idiv, 1) := by decide +kernel
theorem dX7_spanAt_17 : decode cX7_spanAt 17 = .ok (.istore 4, 2) := by decide +kernel
theorem dX7_spanAt_19 : decode cX7_spanAt 19 = .ok (.aload_n 0, 1) := by decide +kernel
theorem dX7_spanAt_20 : decode cX7_spanAt 20 = .ok (.getfield 9, 3) := by decide +kernel
theorem dX7_spanAt_23 : decode cX7_spanAt 23 = .ok (.iload 4, 2) := by decide +kernel
theorem dX7_spanAt_25 : decode cX7_spanAt 25 = .ok (.iaload, 1) := by decide +kernel
theorem dX7_spanAt_26 : decode cX7_spanAt 26 = .ok (.iload_n 1, 1) := by decide +kernel
theorem dX7_spanAt_27 : decode cX7_spanAt 27 = .ok (.if_icmp .gt 11, 3) := by decide +kernel
theorem dX7_spanAt_30 : decode cX7_spanAt 30 = .ok (.iload 4, 2) := by decide +kernel
theorem dX7_spanAt_32 : decode cX7_spanAt 32 = .ok (.iconst 1, 1) := by decide +kernel
theorem dX7_spanAt_33 : decode cX7_spanAt 33 = .ok (.iadd, 1) := by decide +kernel
theorem dX7_spanAt_34 : decode cX7_spanAt 34 = .ok (.istore_n 2, 1) := by decide +kernel
theorem dX7_spanAt_35 : decode cX7_spanAt 35 = .ok (.goto 6, 3) := by decide +kernel
theorem dX7_spanAt_38 : decode cX7_spanAt 38 = .ok (.iload 4, 2) := by decide +kernel
theorem dX7_spanAt_40 : decode cX7_spanAt 40 = .ok (.istore_n 3, 1) := by decide +kernel
theorem dX7_spanAt_41 : decode cX7_spanAt 41 = .ok (.goto (-34), 3) := by decide +kernel
theorem dX7_spanAt_44 : decode cX7_spanAt 44 = .ok (.iload_n 2, 1) := by decide +kernel
theorem dX7_spanAt_45 : decode cX7_spanAt 45 = .ok (.ireturn, 1) := by decide +kernel
theorem dX7_spanHolds_0 : decode cX7_spanHolds 0 = .ok (.iload_n 1, 1) := by decide +kernel
theorem dX7_spanHolds_1 : decode cX7_spanHolds 1 = .ok (.ifCond .eq 15, 3) := by decide +kernel
theorem dX7_spanHolds_4 : decode cX7_spanHolds 4 = .ok (.aload_n 0, 1) := by decide +kernel
theorem dX7_spanHolds_5 : decode cX7_spanHolds 5 = .ok (.getfield 9, 3) := by decide +kernel
theorem dX7_spanHolds_8 : decode cX7_spanHolds 8 = .ok (.iload_n 1, 1) := by decide +kernel
theorem dX7_spanHolds_9 : decode cX7_spanHolds 9 = .ok (.iconst 1, 1) := by decide +kernel
theorem dX7_spanHolds_10 : decode cX7_spanHolds 10 = .ok (.isub, 1) := by decide +kernel
theorem dX7_spanHolds_11 : decode cX7_spanHolds 11 = .ok (.iaload, 1) := by decide +kernel
theorem dX7_spanHolds_12 : decode cX7_spanHolds 12 = .ok (.iload_n 2, 1) := by decide +kernel
theorem dX7_spanHolds_13 : decode cX7_spanHolds 13 = .ok (.if_icmp .gt 25, 3) := by decide +kernel
theorem dX7_spanHolds_16 : decode cX7_spanHolds 16 = .ok (.iload_n 1, 1) := by decide +kernel
theorem dX7_spanHolds_17 : decode cX7_spanHolds 17 = .ok (.aload_n 0, 1) := by decide +kernel
theorem dX7_spanHolds_18 : decode cX7_spanHolds 18 = .ok (.getfield 37, 3) := by decide +kernel
theorem dX7_spanHolds_21 : decode cX7_spanHolds 21 = .ok (.if_icmp .eq 13, 3) := by decide +kernel
theorem dX7_spanHolds_24 : decode cX7_spanHolds 24 = .ok (.iload_n 2, 1) := by decide +kernel
theorem dX7_spanHolds_25 : decode cX7_spanHolds 25 = .ok (.aload_n 0, 1) := by decide +kernel
theorem dX7_spanHolds_26 : decode cX7_spanHolds 26 = .ok (.getfield 9, 3) := by decide +kernel
theorem dX7_spanHolds_29 : decode cX7_spanHolds 29 = .ok (.iload_n 1, 1) := by decide +kernel
theorem dX7_spanHolds_30 : decode cX7_spanHolds 30 = .ok (.iaload, 1) := by decide +kernel
theorem dX7_spanHolds_31 : decode cX7_spanHolds 31 = .ok (.if_icmp .ge 7, 3) := by decide +kernel
theorem dX7_spanHolds_34 : decode cX7_spanHolds 34 = .ok (.iconst 1, 1) := by decide +kernel
theorem dX7_spanHolds_35 : decode cX7_spanHolds 35 = .ok (.goto 4, 3) := by decide +kernel
theorem dX7_spanHolds_38 : decode cX7_spanHolds 38 = .ok (.iconst 0, 1) := by decide +kernel
theorem dX7_spanHolds_39 : decode cX7_spanHolds 39 = .ok (.ireturn, 1) := by decide +kernel
theorem dX7_look_0 : decode cX7_look 0 = .ok (.aload_n 0, 1) := by decide +kernel
theorem dX7_look_1 : decode cX7_look 1 = .ok (.iconst 0, 1) := by decide +kernel
theorem dX7_look_2 : decode cX7_look 2 = .ok (.putfield 101, 3) := by decide +kernel
theorem dX7_look_5 : decode cX7_look 5 = .ok (.aload_n 0, 1) := by decide +kernel
theorem dX7_look_6 : decode cX7_look 6 = .ok (.ldc 104, 2) := by decide +kernel
theorem dX7_look_8 : decode cX7_look 8 = .ok (.putfield 105, 3) := by decide +kernel
theorem dX7_look_11 : decode cX7_look 11 = .ok (.aload_n 0, 1) := by decide +kernel
theorem dX7_look_12 : decode cX7_look 12 = .ok (.ldc 104, 2) := by decide +kernel
theorem dX7_look_14 : decode cX7_look 14 = .ok (.putfield 108, 3) := by decide +kernel
theorem dX7_look_17 : decode cX7_look 17 = .ok (.iload_n 1, 1) := by decide +kernel
theorem dX7_look_18 : decode cX7_look 18 = .ok (.aload_n 0, 1) := by decide +kernel
theorem dX7_look_19 : decode cX7_look 19 = .ok (.getfield 51, 3) := by decide +kernel
theorem dX7_look_22 : decode cX7_look 22 = .ok (.isub, 1) := by decide +kernel
theorem dX7_look_23 : decode cX7_look 23 = .ok (.istore_n 2, 1) := by decide +kernel
theorem dX7_look_24 : decode cX7_look 24 = .ok (.aload_n 0, 1) := by decide +kernel
theorem dX7_look_25 : decode cX7_look 25 = .ok (.iload_n 1, 1) := by decide +kernel
theorem dX7_look_26 : decode cX7_look 26 = .ok (.aload_n 0, 1) := by decide +kernel
theorem dX7_look_27 : decode cX7_look 27 = .ok (.getfield 48, 3) := by decide +kernel
theorem dX7_look_30 : decode cX7_look 30 = .ok (.isub, 1) := by decide +kernel
theorem dX7_look_31 : decode cX7_look 31 = .ok (.invokevirtual 97, 3) := by decide +kernel
theorem dX7_look_34 : decode cX7_look 34 = .ok (.istore_n 3, 1) := by decide +kernel
theorem dX7_look_35 : decode cX7_look 35 = .ok (.iload_n 3, 1) := by decide +kernel
theorem dX7_look_36 : decode cX7_look 36 = .ok (.aload_n 0, 1) := by decide +kernel
theorem dX7_look_37 : decode cX7_look 37 = .ok (.getfield 37, 3) := by decide +kernel
theorem dX7_look_40 : decode cX7_look 40 = .ok (.if_icmp .gt 84, 3) := by decide +kernel
theorem dX7_look_43 : decode cX7_look 43 = .ok (.iload_n 3, 1) := by decide +kernel
theorem dX7_look_44 : decode cX7_look 44 = .ok (.ifCond .le 18, 3) := by decide +kernel
theorem dX7_look_47 : decode cX7_look 47 = .ok (.aload_n 0, 1) := by decide +kernel
theorem dX7_look_48 : decode cX7_look 48 = .ok (.getfield 9, 3) := by decide +kernel
theorem dX7_look_51 : decode cX7_look 51 = .ok (.iload_n 3, 1) := by decide +kernel
theorem dX7_look_52 : decode cX7_look 52 = .ok (.iconst 1, 1) := by decide +kernel
theorem dX7_look_53 : decode cX7_look 53 = .ok (.isub, 1) := by decide +kernel
theorem dX7_look_54 : decode cX7_look 54 = .ok (.iaload, 1) := by decide +kernel
theorem dX7_look_55 : decode cX7_look 55 = .ok (.iload_n 2, 1) := by decide +kernel
theorem dX7_look_56 : decode cX7_look 56 = .ok (.if_icmp .le 6, 3) := by decide +kernel
theorem dX7_look_59 : decode cX7_look 59 = .ok (.goto 65, 3) := by decide +kernel
theorem dX7_look_62 : decode cX7_look 62 = .ok (.iload_n 1, 1) := by decide +kernel
theorem dX7_look_63 : decode cX7_look 63 = .ok (.aload_n 0, 1) := by decide +kernel
theorem dX7_look_64 : decode cX7_look 64 = .ok (.getfield 30, 3) := by decide +kernel
theorem dX7_look_67 : decode cX7_look 67 = .ok (.iload_n 3, 1) := by decide +kernel
theorem dX7_look_68 : decode cX7_look 68 = .ok (.iaload, 1) := by decide +kernel
theorem dX7_look_69 : decode cX7_look 69 = .ok (.isub, 1) := by decide +kernel
theorem dX7_look_70 : decode cX7_look 70 = .ok (.istore 4, 2) := by decide +kernel
theorem dX7_look_72 : decode cX7_look 72 = .ok (.aload_n 0, 1) := by decide +kernel
theorem dX7_look_73 : decode cX7_look 73 = .ok (.iload_n 3, 1) := by decide +kernel
theorem dX7_look_74 : decode cX7_look 74 = .ok (.iload 4, 2) := by decide +kernel
theorem dX7_look_76 : decode cX7_look 76 = .ok (.invokevirtual 111, 3) := by decide +kernel
theorem dX7_look_79 : decode cX7_look 79 = .ok (.ifCond .eq 39, 3) := by decide +kernel
theorem dX7_look_82 : decode cX7_look 82 = .ok (.aload_n 0, 1) := by decide +kernel
theorem dX7_look_83 : decode cX7_look 83 = .ok (.aload_n 0, 1) := by decide +kernel
theorem dX7_look_84 : decode cX7_look 84 = .ok (.getfield 101, 3) := by decide +kernel
theorem dX7_look_87 : decode cX7_look 87 = .ok (.ifCond .ne 8, 3) := by decide +kernel
theorem dX7_look_90 : decode cX7_look 90 = .ok (.iload 4, 2) := by decide +kernel
theorem dX7_look_92 : decode cX7_look 92 = .ok (.goto 7, 3) := by decide +kernel
theorem dX7_look_95 : decode cX7_look 95 = .ok (.aload_n 0, 1) := by decide +kernel
theorem dX7_look_96 : decode cX7_look 96 = .ok (.getfield 105, 3) := by decide +kernel
theorem dX7_look_99 : decode cX7_look 99 = .ok (.putfield 105, 3) := by decide +kernel
theorem dX7_look_102 : decode cX7_look 102 = .ok (.aload_n 0, 1) := by decide +kernel
theorem dX7_look_103 : decode cX7_look 103 = .ok (.iload 4, 2) := by decide +kernel
theorem dX7_look_105 : decode cX7_look 105 = .ok (.putfield 108, 3) := by decide +kernel
theorem dX7_look_108 : decode cX7_look 108 = .ok (.aload_n 0, 1) := by decide +kernel
theorem dX7_look_109 : decode cX7_look 109 = .ok (.dup, 1) := by decide +kernel
theorem dX7_look_110 : decode cX7_look 110 = .ok (.getfield 101, 3) := by decide +kernel
theorem dX7_look_113 : decode cX7_look 113 = .ok (.iconst 1, 1) := by decide +kernel
theorem dX7_look_114 : decode cX7_look 114 = .ok (.iadd, 1) := by decide +kernel
theorem dX7_look_115 : decode cX7_look 115 = .ok (.putfield 101, 3) := by decide +kernel
theorem dX7_look_118 : decode cX7_look 118 = .ok (.iinc 3 1, 3) := by decide +kernel
theorem dX7_look_121 : decode cX7_look 121 = .ok (.goto (-86), 3) := by decide +kernel
theorem dX7_look_124 : decode cX7_look 124 = .ok (.return_, 1) := by decide +kernel
theorem dX7_gapOf_0 : decode cX7_gapOf 0 = .ok (.aload_n 0, 1) := by decide +kernel
theorem dX7_gapOf_1 : decode cX7_gapOf 1 = .ok (.iload_n 1, 1) := by decide +kernel
theorem dX7_gapOf_2 : decode cX7_gapOf 2 = .ok (.aload_n 0, 1) := by decide +kernel
theorem dX7_gapOf_3 : decode cX7_gapOf 3 = .ok (.getfield 48, 3) := by decide +kernel
theorem dX7_gapOf_6 : decode cX7_gapOf 6 = .ok (.isub, 1) := by decide +kernel
theorem dX7_gapOf_7 : decode cX7_gapOf 7 = .ok (.invokevirtual 97, 3) := by decide +kernel
theorem dX7_gapOf_10 : decode cX7_gapOf 10 = .ok (.istore_n 2, 1) := by decide +kernel
theorem dX7_gapOf_11 : decode cX7_gapOf 11 = .ok (.iload_n 2, 1) := by decide +kernel
theorem dX7_gapOf_12 : decode cX7_gapOf 12 = .ok (.aload_n 0, 1) := by decide +kernel
theorem dX7_gapOf_13 : decode cX7_gapOf 13 = .ok (.getfield 37, 3) := by decide +kernel
theorem dX7_gapOf_16 : decode cX7_gapOf 16 = .ok (.if_icmp .ge 47, 3) := by decide +kernel
theorem dX7_gapOf_19 : decode cX7_gapOf 19 = .ok (.aload_n 0, 1) := by decide +kernel
theorem dX7_gapOf_20 : decode cX7_gapOf 20 = .ok (.getfield 9, 3) := by decide +kernel
theorem dX7_gapOf_23 : decode cX7_gapOf 23 = .ok (.iload_n 2, 1) := by decide +kernel
theorem dX7_gapOf_24 : decode cX7_gapOf 24 = .ok (.iaload, 1) := by decide +kernel
theorem dX7_gapOf_25 : decode cX7_gapOf 25 = .ok (.aload_n 0, 1) := by decide +kernel
theorem dX7_gapOf_26 : decode cX7_gapOf 26 = .ok (.getfield 30, 3) := by decide +kernel
theorem dX7_gapOf_29 : decode cX7_gapOf 29 = .ok (.iload_n 2, 1) := by decide +kernel
theorem dX7_gapOf_30 : decode cX7_gapOf 30 = .ok (.iaload, 1) := by decide +kernel
theorem dX7_gapOf_31 : decode cX7_gapOf 31 = .ok (.iadd, 1) := by decide +kernel
theorem dX7_gapOf_32 : decode cX7_gapOf 32 = .ok (.iload_n 1, 1) := by decide +kernel
theorem dX7_gapOf_33 : decode cX7_gapOf 33 = .ok (.if_icmp .gt 24, 3) := by decide +kernel
theorem dX7_gapOf_36 : decode cX7_gapOf 36 = .ok (.aload_n 0, 1) := by decide +kernel
theorem dX7_gapOf_37 : decode cX7_gapOf 37 = .ok (.getfield 9, 3) := by decide +kernel
theorem dX7_gapOf_40 : decode cX7_gapOf 40 = .ok (.iload_n 2, 1) := by decide +kernel
theorem dX7_gapOf_41 : decode cX7_gapOf 41 = .ok (.iaload, 1) := by decide +kernel
theorem dX7_gapOf_42 : decode cX7_gapOf 42 = .ok (.aload_n 0, 1) := by decide +kernel
theorem dX7_gapOf_43 : decode cX7_gapOf 43 = .ok (.getfield 30, 3) := by decide +kernel
theorem dX7_gapOf_46 : decode cX7_gapOf 46 = .ok (.iload_n 2, 1) := by decide +kernel
theorem dX7_gapOf_47 : decode cX7_gapOf 47 = .ok (.iconst 1, 1) := by decide +kernel
theorem dX7_gapOf_48 : decode cX7_gapOf 48 = .ok (.iadd, 1) := by decide +kernel
theorem dX7_gapOf_49 : decode cX7_gapOf 49 = .ok (.iaload, 1) := by decide +kernel
theorem dX7_gapOf_50 : decode cX7_gapOf 50 = .ok (.iadd, 1) := by decide +kernel
theorem dX7_gapOf_51 : decode cX7_gapOf 51 = .ok (.iload_n 1, 1) := by decide +kernel
theorem dX7_gapOf_52 : decode cX7_gapOf 52 = .ok (.if_icmp .le 5, 3) := by decide +kernel
theorem dX7_gapOf_55 : decode cX7_gapOf 55 = .ok (.iload_n 2, 1) := by decide +kernel
theorem dX7_gapOf_56 : decode cX7_gapOf 56 = .ok (.ireturn, 1) := by decide +kernel
theorem dX7_gapOf_57 : decode cX7_gapOf 57 = .ok (.iinc 2 1, 3) := by decide +kernel
theorem dX7_gapOf_60 : decode cX7_gapOf 60 = .ok (.goto (-49), 3) := by decide +kernel
theorem dX7_gapOf_63 : decode cX7_gapOf 63 = .ok (.iconst (-1), 1) := by decide +kernel
theorem dX7_gapOf_64 : decode cX7_gapOf 64 = .ok (.ireturn, 1) := by decide +kernel
theorem dX7_causeOf_0 : decode cX7_causeOf 0 = .ok (.aload_n 0, 1) := by decide +kernel
theorem dX7_causeOf_1 : decode cX7_causeOf 1 = .ok (.iload_n 1, 1) := by decide +kernel
theorem dX7_causeOf_2 : decode cX7_causeOf 2 = .ok (.invokevirtual 115, 3) := by decide +kernel
theorem dX7_causeOf_5 : decode cX7_causeOf 5 = .ok (.aload_n 0, 1) := by decide +kernel
theorem dX7_causeOf_6 : decode cX7_causeOf 6 = .ok (.getfield 101, 3) := by decide +kernel
theorem dX7_causeOf_9 : decode cX7_causeOf 9 = .ok (.ifCond .ne 9, 3) := by decide +kernel
theorem dX7_causeOf_12 : decode cX7_causeOf 12 = .ok (.aload_n 0, 1) := by decide +kernel
theorem dX7_causeOf_13 : decode cX7_causeOf 13 = .ok (.iload_n 1, 1) := by decide +kernel
theorem dX7_causeOf_14 : decode cX7_causeOf 14 = .ok (.invokevirtual 118, 3) := by decide +kernel
theorem dX7_causeOf_17 : decode cX7_causeOf 17 = .ok (.ireturn, 1) := by decide +kernel
theorem dX7_causeOf_18 : decode cX7_causeOf 18 = .ok (.aload_n 0, 1) := by decide +kernel
theorem dX7_causeOf_19 : decode cX7_causeOf 19 = .ok (.getfield 101, 3) := by decide +kernel
theorem dX7_causeOf_22 : decode cX7_causeOf 22 = .ok (.iconst 1, 1) := by decide +kernel
theorem dX7_causeOf_23 : decode cX7_causeOf 23 = .ok (.if_icmp .ne 7, 3) := by decide +kernel
theorem dX7_causeOf_26 : decode cX7_causeOf 26 = .ok (.iconst (-1), 1) := by decide +kernel
theorem dX7_causeOf_27 : decode cX7_causeOf 27 = .ok (.goto 11, 3) := by decide +kernel
theorem dX7_causeOf_30 : decode cX7_causeOf 30 = .ok (.aload_n 0, 1) := by decide +kernel
theorem dX7_causeOf_31 : decode cX7_causeOf 31 = .ok (.aload_n 0, 1) := by decide +kernel
theorem dX7_causeOf_32 : decode cX7_causeOf 32 = .ok (.getfield 105, 3) := by decide +kernel
theorem dX7_causeOf_35 : decode cX7_causeOf 35 = .ok (.invokevirtual 97, 3) := by decide +kernel
theorem dX7_causeOf_38 : decode cX7_causeOf 38 = .ok (.ireturn, 1) := by decide +kernel
theorem dX7_instantOf_0 : decode cX7_instantOf 0 = .ok (.aload_n 0, 1) := by decide +kernel
theorem dX7_instantOf_1 : decode cX7_instantOf 1 = .ok (.iload_n 1, 1) := by decide +kernel
theorem dX7_instantOf_2 : decode cX7_instantOf 2 = .ok (.invokevirtual 115, 3) := by decide +kernel
theorem dX7_instantOf_5 : decode cX7_instantOf 5 = .ok (.aload_n 0, 1) := by decide +kernel
theorem dX7_instantOf_6 : decode cX7_instantOf 6 = .ok (.getfield 101, 3) := by decide +kernel
theorem dX7_instantOf_9 : decode cX7_instantOf 9 = .ok (.iconst 1, 1) := by decide +kernel
theorem dX7_instantOf_10 : decode cX7_instantOf 10 = .ok (.if_icmp .ne 8, 3) := by decide +kernel
theorem dX7_instantOf_13 : decode cX7_instantOf 13 = .ok (.aload_n 0, 1) := by decide +kernel
theorem dX7_instantOf_14 : decode cX7_instantOf 14 = .ok (.getfield 105, 3) := by decide +kernel
theorem dX7_instantOf_17 : decode cX7_instantOf 17 = .ok (.ireturn, 1) := by decide +kernel
theorem dX7_instantOf_18 : decode cX7_instantOf 18 = .ok (.iload_n 2, 1) := by decide +kernel
theorem dX7_instantOf_19 : decode cX7_instantOf 19 = .ok (.iconst 3, 1) := by decide +kernel
theorem dX7_instantOf_20 : decode cX7_instantOf 20 = .ok (.if_icmp .ne 6, 3) := by decide +kernel
theorem dX7_instantOf_23 : decode cX7_instantOf 23 = .ok (.ldc 104, 2) := by decide +kernel
theorem dX7_instantOf_25 : decode cX7_instantOf 25 = .ok (.ireturn, 1) := by decide +kernel
theorem dX7_instantOf_26 : decode cX7_instantOf 26 = .ok (.aload_n 0, 1) := by decide +kernel
theorem dX7_instantOf_27 : decode cX7_instantOf 27 = .ok (.getfield 101, 3) := by decide +kernel
theorem dX7_instantOf_30 : decode cX7_instantOf 30 = .ok (.iconst 1, 1) := by decide +kernel
theorem dX7_instantOf_31 : decode cX7_instantOf 31 = .ok (.if_icmp .le 20, 3) := by decide +kernel
theorem dX7_instantOf_34 : decode cX7_instantOf 34 = .ok (.iload_n 2, 1) := by decide +kernel
theorem dX7_instantOf_35 : decode cX7_instantOf 35 = .ok (.iconst 1, 1) := by decide +kernel
theorem dX7_instantOf_36 : decode cX7_instantOf 36 = .ok (.if_icmp .ne 10, 3) := by decide +kernel
theorem dX7_instantOf_39 : decode cX7_instantOf 39 = .ok (.aload_n 0, 1) := by decide +kernel
theorem dX7_instantOf_40 : decode cX7_instantOf 40 = .ok (.getfield 108, 3) := by decide +kernel
theorem dX7_instantOf_43 : decode cX7_instantOf 43 = .ok (.goto 7, 3) := by decide +kernel
theorem dX7_instantOf_46 : decode cX7_instantOf 46 = .ok (.aload_n 0, 1) := by decide +kernel
theorem dX7_instantOf_47 : decode cX7_instantOf 47 = .ok (.getfield 105, 3) := by decide +kernel
theorem dX7_instantOf_50 : decode cX7_instantOf 50 = .ok (.ireturn, 1) := by decide +kernel
theorem dX7_instantOf_51 : decode cX7_instantOf 51 = .ok (.aload_n 0, 1) := by decide +kernel
theorem dX7_instantOf_52 : decode cX7_instantOf 52 = .ok (.iload_n 1, 1) := by decide +kernel
theorem dX7_instantOf_53 : decode cX7_instantOf 53 = .ok (.invokevirtual 118, 3) := by decide +kernel
theorem dX7_instantOf_56 : decode cX7_instantOf 56 = .ok (.istore_n 3, 1) := by decide +kernel
theorem dX7_instantOf_57 : decode cX7_instantOf 57 = .ok (.iload_n 3, 1) := by decide +kernel
theorem dX7_instantOf_58 : decode cX7_instantOf 58 = .ok (.ifCond .ge 6, 3) := by decide +kernel
theorem dX7_instantOf_61 : decode cX7_instantOf 61 = .ok (.ldc 104, 2) := by decide +kernel
theorem dX7_instantOf_63 : decode cX7_instantOf 63 = .ok (.ireturn, 1) := by decide +kernel
theorem dX7_instantOf_64 : decode cX7_instantOf 64 = .ok (.iload_n 2, 1) := by decide +kernel
theorem dX7_instantOf_65 : decode cX7_instantOf 65 = .ok (.iconst 2, 1) := by decide +kernel
theorem dX7_instantOf_66 : decode cX7_instantOf 66 = .ok (.if_icmp .ne 12, 3) := by decide +kernel
theorem dX7_instantOf_69 : decode cX7_instantOf 69 = .ok (.aload_n 0, 1) := by decide +kernel
theorem dX7_instantOf_70 : decode cX7_instantOf 70 = .ok (.getfield 9, 3) := by decide +kernel
theorem dX7_instantOf_73 : decode cX7_instantOf 73 = .ok (.iload_n 3, 1) := by decide +kernel
theorem dX7_instantOf_74 : decode cX7_instantOf 74 = .ok (.iaload, 1) := by decide +kernel
theorem dX7_instantOf_75 : decode cX7_instantOf 75 = .ok (.goto 13, 3) := by decide +kernel
theorem dX7_instantOf_78 : decode cX7_instantOf 78 = .ok (.iload_n 1, 1) := by decide +kernel
theorem dX7_instantOf_79 : decode cX7_instantOf 79 = .ok (.aload_n 0, 1) := by decide +kernel
theorem dX7_instantOf_80 : decode cX7_instantOf 80 = .ok (.getfield 30, 3) := by decide +kernel
theorem dX7_instantOf_83 : decode cX7_instantOf 83 = .ok (.iload_n 3, 1) := by decide +kernel
theorem dX7_instantOf_84 : decode cX7_instantOf 84 = .ok (.iload_n 2, 1) := by decide +kernel
theorem dX7_instantOf_85 : decode cX7_instantOf 85 = .ok (.iadd, 1) := by decide +kernel
theorem dX7_instantOf_86 : decode cX7_instantOf 86 = .ok (.iaload, 1) := by decide +kernel
theorem dX7_instantOf_87 : decode cX7_instantOf 87 = .ok (.isub, 1) := by decide +kernel
theorem dX7_instantOf_88 : decode cX7_instantOf 88 = .ok (.ireturn, 1) := by decide +kernel
theorem dX7_beginningOf_0 : decode cX7_beginningOf 0 = .ok (.aload_n 0, 1) := by decide +kernel
theorem dX7_beginningOf_1 : decode cX7_beginningOf 1 = .ok (.sipush 1440, 3) := by decide +kernel
theorem dX7_beginningOf_4 : decode cX7_beginningOf 4 = .ok (.iload_n 1, 1) := by decide +kernel
theorem dX7_beginningOf_5 : decode cX7_beginningOf 5 = .ok (.imul, 1) := by decide +kernel
theorem dX7_beginningOf_6 : decode cX7_beginningOf 6 = .ok (.iconst 2, 1) := by decide +kernel
theorem dX7_beginningOf_7 : decode cX7_beginningOf 7 = .ok (.invokevirtual 121, 3) := by decide +kernel
theorem dX7_beginningOf_10 : decode cX7_beginningOf 10 = .ok (.ireturn, 1) := by decide +kernel
theorem dX7_countMinutes_0 : decode cX7_countMinutes 0 = .ok (.iconst 0, 1) := by decide +kernel
theorem dX7_countMinutes_1 : decode cX7_countMinutes 1 = .ok (.istore 4, 2) := by decide +kernel
theorem dX7_countMinutes_3 : decode cX7_countMinutes 3 = .ok (.iload_n 1, 1) := by decide +kernel
theorem dX7_countMinutes_4 : decode cX7_countMinutes 4 = .ok (.istore 5, 2) := by decide +kernel
theorem dX7_countMinutes_6 : decode cX7_countMinutes 6 = .ok (.iconst 0, 1) := by decide +kernel
theorem dX7_countMinutes_7 : decode cX7_countMinutes 7 = .ok (.istore 6, 2) := by decide +kernel
theorem dX7_countMinutes_9 : decode cX7_countMinutes 9 = .ok (.iload 6, 2) := by decide +kernel
theorem dX7_countMinutes_11 : decode cX7_countMinutes 11 = .ok (.iconst 2, 1) := by decide +kernel
theorem dX7_countMinutes_12 : decode cX7_countMinutes 12 = .ok (.aload_n 0, 1) := by decide +kernel
theorem dX7_countMinutes_13 : decode cX7_countMinutes 13 = .ok (.getfield 37, 3) := by decide +kernel
theorem dX7_countMinutes_16 : decode cX7_countMinutes 16 = .ok (.imul, 1) := by decide +kernel
theorem dX7_countMinutes_17 : decode cX7_countMinutes 17 = .ok (.if_icmp .gt 72, 3) := by decide +kernel
theorem dX7_countMinutes_20 : decode cX7_countMinutes 20 = .ok (.iload 5, 2) := by decide +kernel
theorem dX7_countMinutes_22 : decode cX7_countMinutes 22 = .ok (.iload_n 2, 1) := by decide +kernel
theorem dX7_countMinutes_23 : decode cX7_countMinutes 23 = .ok (.if_icmp .ge 66, 3) := by decide +kernel
theorem dX7_countMinutes_26 : decode cX7_countMinutes 26 = .ok (.aload_n 0, 1) := by decide +kernel
theorem dX7_countMinutes_27 : decode cX7_countMinutes 27 = .ok (.iload 5, 2) := by decide +kernel
theorem dX7_countMinutes_29 : decode cX7_countMinutes 29 = .ok (.iload_n 2, 1) := by decide +kernel
theorem dX7_countMinutes_30 : decode cX7_countMinutes 30 = .ok (.invokevirtual 124, 3) := by decide +kernel
theorem dX7_countMinutes_33 : decode cX7_countMinutes 33 = .ok (.istore 7, 2) := by decide +kernel
theorem dX7_countMinutes_35 : decode cX7_countMinutes 35 = .ok (.aload_n 0, 1) := by decide +kernel
theorem dX7_countMinutes_36 : decode cX7_countMinutes 36 = .ok (.iload 5, 2) := by decide +kernel
theorem dX7_countMinutes_38 : decode cX7_countMinutes 38 = .ok (.invokevirtual 115, 3) := by decide +kernel
theorem dX7_countMinutes_41 : decode cX7_countMinutes 41 = .ok (.iload_n 3, 1) := by decide +kernel
theorem dX7_countMinutes_42 : decode cX7_countMinutes 42 = .ok (.ifCond .eq 12, 3) := by decide +kernel
theorem dX7_countMinutes_45 : decode cX7_countMinutes 45 = .ok (.iconst 1, 1) := by decide +kernel
theorem dX7_countMinutes_46 : decode cX7_countMinutes 46 = .ok (.aload_n 0, 1) := by decide +kernel
theorem dX7_countMinutes_47 : decode cX7_countMinutes 47 = .ok (.getfield 101, 3) := by decide +kernel
theorem dX7_countMinutes_50 : decode cX7_countMinutes 50 = .ok (.isub, 1) := by decide +kernel
theorem dX7_countMinutes_51 : decode cX7_countMinutes 51 = .ok (.goto 9, 3) := by decide +kernel
theorem dX7_countMinutes_54 : decode cX7_countMinutes 54 = .ok (.aload_n 0, 1) := by decide +kernel
theorem dX7_countMinutes_55 : decode cX7_countMinutes 55 = .ok (.getfield 101, 3) := by decide +kernel
theorem dX7_countMinutes_58 : decode cX7_countMinutes 58 = .ok (.iconst 1, 1) := by decide +kernel
theorem dX7_countMinutes_59 : decode cX7_countMinutes 59 = .ok (.isub, 1) := by decide +kernel
theorem dX7_countMinutes_60 : decode cX7_countMinutes 60 = .ok (.istore 8, 2) := by decide +kernel
theorem dX7_countMinutes_62 : decode cX7_countMinutes 62 = .ok (.iload 4, 2) := by decide +kernel
theorem dX7_countMinutes_64 : decode cX7_countMinutes 64 = .ok (.iload 8, 2) := by decide +kernel
theorem dX7_countMinutes_66 : decode cX7_countMinutes 66 = .ok (.iconst 0, 1) := by decide +kernel
theorem dX7_countMinutes_67 : decode cX7_countMinutes 67 = .ok (.invokestatic 88, 3) := by decide +kernel
theorem dX7_countMinutes_70 : decode cX7_countMinutes 70 = .ok (.iload 7, 2) := by decide +kernel
theorem dX7_countMinutes_72 : decode cX7_countMinutes 72 = .ok (.iload 5, 2) := by decide +kernel
theorem dX7_countMinutes_74 : decode cX7_countMinutes 74 = .ok (.isub, 1) := by decide +kernel
theorem dX7_countMinutes_75 : decode cX7_countMinutes 75 = .ok (.imul, 1) := by decide +kernel
theorem dX7_countMinutes_76 : decode cX7_countMinutes 76 = .ok (.iadd, 1) := by decide +kernel
theorem dX7_countMinutes_77 : decode cX7_countMinutes 77 = .ok (.istore 4, 2) := by decide +kernel
theorem dX7_countMinutes_79 : decode cX7_countMinutes 79 = .ok (.iload 7, 2) := by decide +kernel
theorem dX7_countMinutes_81 : decode cX7_countMinutes 81 = .ok (.istore 5, 2) := by decide +kernel
theorem dX7_countMinutes_83 : decode cX7_countMinutes 83 = .ok (.iinc 6 1, 3) := by decide +kernel
theorem dX7_countMinutes_86 : decode cX7_countMinutes 86 = .ok (.goto (-77), 3) := by decide +kernel
theorem dX7_countMinutes_89 : decode cX7_countMinutes 89 = .ok (.iload 4, 2) := by decide +kernel
theorem dX7_countMinutes_91 : decode cX7_countMinutes 91 = .ok (.ireturn, 1) := by decide +kernel
theorem dX7_nextEdge_0 : decode cX7_nextEdge 0 = .ok (.iload_n 2, 1) := by decide +kernel
theorem dX7_nextEdge_1 : decode cX7_nextEdge 1 = .ok (.istore_n 3, 1) := by decide +kernel
theorem dX7_nextEdge_2 : decode cX7_nextEdge 2 = .ok (.aload_n 0, 1) := by decide +kernel
theorem dX7_nextEdge_3 : decode cX7_nextEdge 3 = .ok (.iload_n 1, 1) := by decide +kernel
theorem dX7_nextEdge_4 : decode cX7_nextEdge 4 = .ok (.aload_n 0, 1) := by decide +kernel
theorem dX7_nextEdge_5 : decode cX7_nextEdge 5 = .ok (.getfield 48, 3) := by decide +kernel
theorem dX7_nextEdge_8 : decode cX7_nextEdge 8 = .ok (.isub, 1) := by decide +kernel
theorem dX7_nextEdge_9 : decode cX7_nextEdge 9 = .ok (.invokevirtual 97, 3) := by decide +kernel
theorem dX7_nextEdge_12 : decode cX7_nextEdge 12 = .ok (.istore 4, 2) := by decide +kernel
theorem dX7_nextEdge_14 : decode cX7_nextEdge 14 = .ok (.iload 4, 2) := by decide +kernel
theorem dX7_nextEdge_16 : decode cX7_nextEdge 16 = .ok (.aload_n 0, 1) := by decide +kernel
theorem dX7_nextEdge_17 : decode cX7_nextEdge 17 = .ok (.getfield 37, 3) := by decide +kernel
theorem dX7_nextEdge_20 : decode cX7_nextEdge 20 = .ok (.if_icmp .ge 69, 3) := by decide +kernel
theorem dX7_nextEdge_23 : decode cX7_nextEdge 23 = .ok (.aload_n 0, 1) := by decide +kernel
theorem dX7_nextEdge_24 : decode cX7_nextEdge 24 = .ok (.getfield 9, 3) := by decide +kernel
theorem dX7_nextEdge_27 : decode cX7_nextEdge 27 = .ok (.iload 4, 2) := by decide +kernel
theorem dX7_nextEdge_29 : decode cX7_nextEdge 29 = .ok (.iaload, 1) := by decide +kernel
theorem dX7_nextEdge_30 : decode cX7_nextEdge 30 = .ok (.aload_n 0, 1) := by decide +kernel
theorem dX7_nextEdge_31 : decode cX7_nextEdge 31 = .ok (.getfield 51, 3) := by decide +kernel
theorem dX7_nextEdge_34 : decode cX7_nextEdge 34 = .ok (.iadd, 1) := by decide +kernel
theorem dX7_nextEdge_35 : decode cX7_nextEdge 35 = .ok (.iload_n 3, 1) := by decide +kernel
theorem dX7_nextEdge_36 : decode cX7_nextEdge 36 = .ok (.if_icmp .ge 53, 3) := by decide +kernel
theorem dX7_nextEdge_39 : decode cX7_nextEdge 39 = .ok (.iload_n 1, 1) := by decide +kernel
theorem dX7_nextEdge_40 : decode cX7_nextEdge 40 = .ok (.aload_n 0, 1) := by decide +kernel
theorem dX7_nextEdge_41 : decode cX7_nextEdge 41 = .ok (.getfield 9, 3) := by decide +kernel
theorem dX7_nextEdge_44 : decode cX7_nextEdge 44 = .ok (.iload 4, 2) := by decide +kernel
theorem dX7_nextEdge_46 : decode cX7_nextEdge 46 = .ok (.iaload, 1) := by decide +kernel
theorem dX7_nextEdge_47 : decode cX7_nextEdge 47 = .ok (.aload_n 0, 1) := by decide +kernel
theorem dX7_nextEdge_48 : decode cX7_nextEdge 48 = .ok (.getfield 30, 3) := by decide +kernel
theorem dX7_nextEdge_51 : decode cX7_nextEdge 51 = .ok (.iload 4, 2) := by decide +kernel
theorem dX7_nextEdge_53 : decode cX7_nextEdge 53 = .ok (.iaload, 1) := by decide +kernel
theorem dX7_nextEdge_54 : decode cX7_nextEdge 54 = .ok (.iadd, 1) := by decide +kernel
theorem dX7_nextEdge_55 : decode cX7_nextEdge 55 = .ok (.iload_n 3, 1) := by decide +kernel
theorem dX7_nextEdge_56 : decode cX7_nextEdge 56 = .ok (.invokestatic 127, 3) := by decide +kernel
theorem dX7_nextEdge_59 : decode cX7_nextEdge 59 = .ok (.istore_n 3, 1) := by decide +kernel
theorem dX7_nextEdge_60 : decode cX7_nextEdge 60 = .ok (.iload_n 1, 1) := by decide +kernel
theorem dX7_nextEdge_61 : decode cX7_nextEdge 61 = .ok (.aload_n 0, 1) := by decide +kernel
theorem dX7_nextEdge_62 : decode cX7_nextEdge 62 = .ok (.getfield 9, 3) := by decide +kernel
theorem dX7_nextEdge_65 : decode cX7_nextEdge 65 = .ok (.iload 4, 2) := by decide +kernel
theorem dX7_nextEdge_67 : decode cX7_nextEdge 67 = .ok (.iaload, 1) := by decide +kernel
theorem dX7_nextEdge_68 : decode cX7_nextEdge 68 = .ok (.aload_n 0, 1) := by decide +kernel
theorem dX7_nextEdge_69 : decode cX7_nextEdge 69 = .ok (.getfield 30, 3) := by decide +kernel
theorem dX7_nextEdge_72 : decode cX7_nextEdge 72 = .ok (.iload 4, 2) := by decide +kernel
theorem dX7_nextEdge_74 : decode cX7_nextEdge 74 = .ok (.iconst 1, 1) := by decide +kernel
theorem dX7_nextEdge_75 : decode cX7_nextEdge 75 = .ok (.iadd, 1) := by decide +kernel
theorem dX7_nextEdge_76 : decode cX7_nextEdge 76 = .ok (.iaload, 1) := by decide +kernel
theorem dX7_nextEdge_77 : decode cX7_nextEdge 77 = .ok (.iadd, 1) := by decide +kernel
theorem dX7_nextEdge_78 : decode cX7_nextEdge 78 = .ok (.iload_n 3, 1) := by decide +kernel
theorem dX7_nextEdge_79 : decode cX7_nextEdge 79 = .ok (.invokestatic 127, 3) := by decide +kernel
theorem dX7_nextEdge_82 : decode cX7_nextEdge 82 = .ok (.istore_n 3, 1) := by decide +kernel
theorem dX7_nextEdge_83 : decode cX7_nextEdge 83 = .ok (.iinc 4 1, 3) := by decide +kernel
theorem dX7_nextEdge_86 : decode cX7_nextEdge 86 = .ok (.goto (-72), 3) := by decide +kernel
theorem dX7_nextEdge_89 : decode cX7_nextEdge 89 = .ok (.iload_n 3, 1) := by decide +kernel
theorem dX7_nextEdge_90 : decode cX7_nextEdge 90 = .ok (.ireturn, 1) := by decide +kernel
theorem dX7_earlierEdge_0 : decode cX7_earlierEdge 0 = .ok (.iload_n 1, 1) := by decide +kernel
theorem dX7_earlierEdge_1 : decode cX7_earlierEdge 1 = .ok (.iload_n 0, 1) := by decide +kernel
theorem dX7_earlierEdge_2 : decode cX7_earlierEdge 2 = .ok (.if_icmp .le 12, 3) := by decide +kernel
theorem dX7_earlierEdge_5 : decode cX7_earlierEdge 5 = .ok (.iload_n 1, 1) := by decide +kernel
theorem dX7_earlierEdge_6 : decode cX7_earlierEdge 6 = .ok (.iload_n 2, 1) := by decide +kernel
theorem dX7_earlierEdge_7 : decode cX7_earlierEdge 7 = .ok (.if_icmp .ge 7, 3) := by decide +kernel
theorem dX7_earlierEdge_10 : decode cX7_earlierEdge 10 = .ok (.iload_n 1, 1) := by decide +kernel
theorem dX7_earlierEdge_11 : decode cX7_earlierEdge 11 = .ok (.goto 4, 3) := by decide +kernel
theorem dX7_earlierEdge_14 : decode cX7_earlierEdge 14 = .ok (.iload_n 2, 1) := by decide +kernel
theorem dX7_earlierEdge_15 : decode cX7_earlierEdge 15 = .ok (.ireturn, 1) := by decide +kernel
theorem dX8_init_0 : decode cX8_init 0 = .ok (.aload_n 0, 1) := by decide +kernel
theorem dX8_init_1 : decode cX8_init 1 = .ok (.invokespecial 3, 3) := by decide +kernel
theorem dX8_init_4 : decode cX8_init 4 = .ok (.aload_n 0, 1) := by decide +kernel
theorem dX8_init_5 : decode cX8_init 5 = .ok (.bipush 60, 2) := by decide +kernel
theorem dX8_init_7 : decode cX8_init 7 = .ok (.newarray .char, 2) := by decide +kernel
theorem dX8_init_9 : decode cX8_init 9 = .ok (.putfield 9, 3) := by decide +kernel
theorem dX8_init_12 : decode cX8_init 12 = .ok (.return_, 1) := by decide +kernel
theorem dX8_writeRule_0 : decode cX8_writeRule 0 = .ok (.aload_n 0, 1) := by decide +kernel
theorem dX8_writeRule_1 : decode cX8_writeRule 1 = .ok (.iconst 0, 1) := by decide +kernel
theorem dX8_writeRule_2 : decode cX8_writeRule 2 = .ok (.putfield 15, 3) := by decide +kernel
theorem dX8_writeRule_5 : decode cX8_writeRule 5 = .ok (.aload_n 0, 1) := by decide +kernel
theorem dX8_writeRule_6 : decode cX8_writeRule 6 = .ok (.sipush 2000, 3) := by decide +kernel
theorem dX8_writeRule_9 : decode cX8_writeRule 9 = .ok (.aload_n 1, 1) := by decide +kernel
theorem dX8_writeRule_10 : decode cX8_writeRule 10 = .ok (.iload_n 2, 1) := by decide +kernel
theorem dX8_writeRule_11 : decode cX8_writeRule 11 = .ok (.iconst 0, 1) := by decide +kernel
theorem dX8_writeRule_12 : decode cX8_writeRule 12 = .ok (.invokevirtual 19, 3) := by decide +kernel
theorem dX8_writeRule_15 : decode cX8_writeRule 15 = .ok (.iadd, 1) := by decide +kernel
theorem dX8_writeRule_16 : decode cX8_writeRule 16 = .ok (.invokevirtual 25, 3) := by decide +kernel
theorem dX8_writeRule_19 : decode cX8_writeRule 19 = .ok (.aload_n 0, 1) := by decide +kernel
theorem dX8_writeRule_20 : decode cX8_writeRule 20 = .ok (.bipush 44, 2) := by decide +kernel
theorem dX8_writeRule_22 : decode cX8_writeRule 22 = .ok (.invokevirtual 29, 3) := by decide +kernel
theorem dX8_writeRule_25 : decode cX8_writeRule 25 = .ok (.aload_n 0, 1) := by decide +kernel
theorem dX8_writeRule_26 : decode cX8_writeRule 26 = .ok (.sipush 2000, 3) := by decide +kernel
theorem dX8_writeRule_29 : decode cX8_writeRule 29 = .ok (.aload_n 1, 1) := by decide +kernel
theorem dX8_writeRule_30 : decode cX8_writeRule 30 = .ok (.iload_n 2, 1) := by decide +kernel
theorem dX8_writeRule_31 : decode cX8_writeRule 31 = .ok (.iconst 1, 1) := by decide +kernel
theorem dX8_writeRule_32 : decode cX8_writeRule 32 = .ok (.invokevirtual 19, 3) := by decide +kernel
theorem dX8_writeRule_35 : decode cX8_writeRule 35 = .ok (.iadd, 1) := by decide +kernel
theorem dX8_writeRule_36 : decode cX8_writeRule 36 = .ok (.invokevirtual 25, 3) := by decide +kernel
theorem dX8_writeRule_39 : decode cX8_writeRule 39 = .ok (.aload_n 0, 1) := by decide +kernel
theorem dX8_writeRule_40 : decode cX8_writeRule 40 = .ok (.bipush 44, 2) := by decide +kernel
theorem dX8_writeRule_42 : decode cX8_writeRule 42 = .ok (.invokevirtual 29, 3) := by decide +kernel
theorem dX8_writeRule_45 : decode cX8_writeRule 45 = .ok (.aload_n 0, 1) := by decide +kernel
theorem dX8_writeRule_46 : decode cX8_writeRule 46 = .ok (.aload_n 1, 1) := by decide +kernel
theorem dX8_writeRule_47 : decode cX8_writeRule 47 = .ok (.iload_n 2, 1) := by decide +kernel
theorem dX8_writeRule_48 : decode cX8_writeRule 48 = .ok (.iconst 2, 1) := by decide +kernel
theorem dX8_writeRule_49 : decode cX8_writeRule 49 = .ok (.invokevirtual 19, 3) := by decide +kernel
theorem dX8_writeRule_52 : decode cX8_writeRule 52 = .ok (.invokevirtual 25, 3) := by decide +kernel
theorem dX8_writeRule_55 : decode cX8_writeRule 55 = .ok (.aload_n 0, 1) := by decide +kernel
theorem dX8_writeRule_56 : decode cX8_writeRule 56 = .ok (.bipush 44, 2) := by decide +kernel
theorem dX8_writeRule_58 : decode cX8_writeRule 58 = .ok (.invokevirtual 29, 3) := by decide +kernel
theorem dX8_writeRule_61 : decode cX8_writeRule 61 = .ok (.aload_n 0, 1) := by decide +kernel
theorem dX8_writeRule_62 : decode cX8_writeRule 62 = .ok (.aload_n 1, 1) := by decide +kernel
theorem dX8_writeRule_63 : decode cX8_writeRule 63 = .ok (.iload_n 2, 1) := by decide +kernel
theorem dX8_writeRule_64 : decode cX8_writeRule 64 = .ok (.iconst 3, 1) := by decide +kernel
theorem dX8_writeRule_65 : decode cX8_writeRule 65 = .ok (.invokevirtual 19, 3) := by decide +kernel
theorem dX8_writeRule_68 : decode cX8_writeRule 68 = .ok (.invokevirtual 33, 3) := by decide +kernel
theorem dX8_writeRule_71 : decode cX8_writeRule 71 = .ok (.aload_n 0, 1) := by decide +kernel
theorem dX8_writeRule_72 : decode cX8_writeRule 72 = .ok (.bipush 44, 2) := by decide +kernel
theorem dX8_writeRule_74 : decode cX8_writeRule 74 = .ok (.invokevirtual 29, 3) := by decide +kernel
theorem dX8_writeRule_77 : decode cX8_writeRule 77 = .ok (.aload_n 0, 1) := by decide +kernel
theorem dX8_writeRule_78 : decode cX8_writeRule 78 = .ok (.aload_n 1, 1) := by decide +kernel
theorem dX8_writeRule_79 : decode cX8_writeRule 79 = .ok (.iload_n 2, 1) := by decide +kernel
theorem dX8_writeRule_80 : decode cX8_writeRule 80 = .ok (.iconst 4, 1) := by decide +kernel
theorem dX8_writeRule_81 : decode cX8_writeRule 81 = .ok (.invokevirtual 19, 3) := by decide +kernel
theorem dX8_writeRule_84 : decode cX8_writeRule 84 = .ok (.invokevirtual 25, 3) := by decide +kernel
theorem dX8_writeRule_87 : decode cX8_writeRule 87 = .ok (.aload_n 0, 1) := by decide +kernel
theorem dX8_writeRule_88 : decode cX8_writeRule 88 = .ok (.bipush 44, 2) := by decide +kernel
theorem dX8_writeRule_90 : decode cX8_writeRule 90 = .ok (.invokevirtual 29, 3) := by decide +kernel
theorem dX8_writeRule_93 : decode cX8_writeRule 93 = .ok (.aload_n 0, 1) := by decide +kernel
theorem dX8_writeRule_94 : decode cX8_writeRule 94 = .ok (.aload_n 1, 1) := by decide +kernel
theorem dX8_writeRule_95 : decode cX8_writeRule 95 = .ok (.iload_n 2, 1) := by decide +kernel
theorem dX8_writeRule_96 : decode cX8_writeRule 96 = .ok (.iconst 5, 1) := by decide +kernel
theorem dX8_writeRule_97 : decode cX8_writeRule 97 = .ok (.invokevirtual 19, 3) := by decide +kernel
theorem dX8_writeRule_100 : decode cX8_writeRule 100 = .ok (.invokevirtual 36, 3) := by decide +kernel
theorem dX8_writeRule_103 : decode cX8_writeRule 103 = .ok (.aload_n 0, 1) := by decide +kernel
theorem dX8_writeRule_104 : decode cX8_writeRule 104 = .ok (.bipush 44, 2) := by decide +kernel
theorem dX8_writeRule_106 : decode cX8_writeRule 106 = .ok (.invokevirtual 29, 3) := by decide +kernel
theorem dX8_writeRule_109 : decode cX8_writeRule 109 = .ok (.aload_n 0, 1) := by decide +kernel
theorem dX8_writeRule_110 : decode cX8_writeRule 110 = .ok (.aload_n 1, 1) := by decide +kernel
theorem dX8_writeRule_111 : decode cX8_writeRule 111 = .ok (.iload_n 2, 1) := by decide +kernel
theorem dX8_writeRule_112 : decode cX8_writeRule 112 = .ok (.bipush 6, 2) := by decide +kernel
theorem dX8_writeRule_114 : decode cX8_writeRule 114 = .ok (.invokevirtual 19, 3) := by decide +kernel
theorem dX8_writeRule_117 : decode cX8_writeRule 117 = .ok (.invokevirtual 25, 3) := by decide +kernel
theorem dX8_writeRule_120 : decode cX8_writeRule 120 = .ok (.return_, 1) := by decide +kernel
theorem dX8_putDate_0 : decode cX8_putDate 0 = .ok (.iload_n 1, 1) := by decide +kernel
theorem dX8_putDate_1 : decode cX8_putDate 1 = .ok (.bipush 31, 2) := by decide +kernel
theorem dX8_putDate_3 : decode cX8_putDate 3 = .ok (.if_icmp .gt 11, 3) := by decide +kernel
theorem dX8_putDate_6 : decode cX8_putDate 6 = .ok (.aload_n 0, 1) := by decide +kernel
theorem dX8_putDate_7 : decode cX8_putDate 7 = .ok (.iload_n 1, 1) := by decide +kernel
theorem dX8_putDate_8 : decode cX8_putDate 8 = .ok (.invokevirtual 25, 3) := by decide +kernel
theorem dX8_putDate_11 : decode cX8_putDate 11 = .ok (.goto 85, 3) := by decide +kernel
theorem dX8_putDate_14 : decode cX8_putDate 14 = .ok (.iload_n 1, 1) := by decide +kernel
theorem dX8_putDate_15 : decode cX8_putDate 15 = .ok (.sipush 500, 3) := by decide +kernel
theorem dX8_putDate_18 : decode cX8_putDate 18 = .ok (.if_icmp .ge 28, 3) := by decide +kernel
theorem dX8_putDate_21 : decode cX8_putDate 21 = .ok (.aload_n 0, 1) := by decide +kernel
theorem dX8_putDate_22 : decode cX8_putDate 22 = .ok (.iload_n 1, 1) := by decide +kernel
theorem dX8_putDate_23 : decode cX8_putDate 23 = .ok (.bipush 100, 2) := by decide +kernel
theorem dX8_putDate_25 : decode cX8_putDate 25 = .ok (.idiv, 1) := by decide +kernel
theorem dX8_putDate_26 : decode cX8_putDate 26 = .ok (.invokevirtual 25, 3) := by decide +kernel
theorem dX8_putDate_29 : decode cX8_putDate 29 = .ok (.aload_n 0, 1) := by decide +kernel
theorem dX8_putDate_30 : decode cX8_putDate 30 = .ok (.bipush 120, 2) := by decide +kernel
theorem dX8_putDate_32 : decode cX8_putDate 32 = .ok (.invokevirtual 29, 3) := by decide +kernel
theorem dX8_putDate_35 : decode cX8_putDate 35 = .ok (.aload_n 0, 1) := by decide +kernel
theorem dX8_putDate_36 : decode cX8_putDate 36 = .ok (.iload_n 1, 1) := by decide +kernel
theorem dX8_putDate_37 : decode cX8_putDate 37 = .ok (.bipush 100, 2) := by decide +kernel
theorem dX8_putDate_39 : decode cX8_putDate 39 = .ok (.irem, 1) := by decide +kernel
theorem dX8_putDate_40 : decode cX8_putDate 40 = .ok (.invokevirtual 25, 3) := by decide +kernel
theorem dX8_putDate_43 : decode cX8_putDate 43 = .ok (.goto 53, 3) := by decide +kernel
theorem dX8_putDate_46 : decode cX8_putDate 46 = .ok (.iload_n 1, 1) := by decide +kernel
theorem dX8_putDate_47 : decode cX8_putDate 47 = .ok (.sipush 1000, 3) := by decide +kernel
theorem dX8_putDate_50 : decode cX8_putDate 50 = .ok (.if_icmp .ge 20, 3) := by decide +kernel
theorem dX8_putDate_53 : decode cX8_putDate 53 = .ok (.aload_n 0, 1) := by decide +kernel
theorem dX8_putDate_54 : decode cX8_putDate 54 = .ok (.bipush 108, 2) := by decide +kernel
theorem dX8_putDate_56 : decode cX8_putDate 56 = .ok (.invokevirtual 29, 3) := by decide +kernel
theorem dX8_putDate_59 : decode cX8_putDate 59 = .ok (.aload_n 0, 1) := by decide +kernel
theorem dX8_putDate_60 : decode cX8_putDate 60 = .ok (.iload_n 1, 1) := by decide +kernel
theorem dX8_putDate_61 : decode cX8_putDate 61 = .ok (.bipush 100, 2) := by decide +kernel
theorem dX8_putDate_63 : decode cX8_putDate 63 = .ok (.irem, 1) := by decide +kernel
theorem dX8_putDate_64 : decode cX8_putDate 64 = .ok (.invokevirtual 25, 3) := by decide +kernel
theorem dX8_putDate_67 : decode cX8_putDate 67 = .ok (.goto 29, 3) := by decide +kernel
theorem dX8_putDate_70 : decode cX8_putDate 70 = .ok (.aload_n 0, 1) := by decide +kernel
theorem dX8_putDate_71 : decode cX8_putDate 71 = .ok (.iload_n 1, 1) := by decide +kernel
theorem dX8_putDate_72 : decode cX8_putDate 72 = .ok (.bipush 10, 2) := by decide +kernel
theorem dX8_putDate_74 : decode cX8_putDate 74 = .ok (.irem, 1) := by decide +kernel
theorem dX8_putDate_75 : decode cX8_putDate 75 = .ok (.invokevirtual 25, 3) := by decide +kernel
theorem dX8_putDate_78 : decode cX8_putDate 78 = .ok (.aload_n 0, 1) := by decide +kernel
theorem dX8_putDate_79 : decode cX8_putDate 79 = .ok (.bipush 62, 2) := by decide +kernel
theorem dX8_putDate_81 : decode cX8_putDate 81 = .ok (.invokevirtual 29, 3) := by decide +kernel
theorem dX8_putDate_84 : decode cX8_putDate 84 = .ok (.aload_n 0, 1) := by decide +kernel
theorem dX8_putDate_85 : decode cX8_putDate 85 = .ok (.iload_n 1, 1) := by decide +kernel
theorem dX8_putDate_86 : decode cX8_putDate 86 = .ok (.sipush 1000, 3) := by decide +kernel
theorem dX8_putDate_89 : decode cX8_putDate 89 = .ok (.isub, 1) := by decide +kernel
theorem dX8_putDate_90 : decode cX8_putDate 90 = .ok (.bipush 10, 2) := by decide +kernel
theorem dX8_putDate_92 : decode cX8_putDate 92 = .ok (.idiv, 1) := by decide +kernel
theorem dX8_putDate_93 : decode cX8_putDate 93 = .ok (.invokevirtual 25, 3) := by decide +kernel
theorem dX8_putDate_96 : decode cX8_putDate 96 = .ok (.return_, 1) := by decide +kernel
theorem dX8_putClock_0 : decode cX8_putClock 0 = .ok (.iload_n 1, 1) := by decide +kernel
theorem dX8_putClock_1 : decode cX8_putClock 1 = .ok (.lookupswitch 45 #[(0, 27), (1, 36)], 27) := by decide +kernel
theorem dX8_putClock_28 : decode cX8_putClock 28 = .ok (.aload_n 0, 1) := by decide +kernel
theorem dX8_putClock_29 : decode cX8_putClock 29 = .ok (.bipush 119, 2) := by decide +kernel
theorem dX8_putClock_31 : decode cX8_putClock 31 = .ok (.invokevirtual 29, 3) := by decide +kernel
theorem dX8_putClock_34 : decode cX8_putClock 34 = .ok (.goto 18, 3) := by decide +kernel
theorem dX8_putClock_37 : decode cX8_putClock 37 = .ok (.aload_n 0, 1) := by decide +kernel
theorem dX8_putClock_38 : decode cX8_putClock 38 = .ok (.bipush 98, 2) := by decide +kernel
theorem dX8_putClock_40 : decode cX8_putClock 40 = .ok (.invokevirtual 29, 3) := by decide +kernel
theorem dX8_putClock_43 : decode cX8_putClock 43 = .ok (.goto 9, 3) := by decide +kernel
theorem dX8_putClock_46 : decode cX8_putClock 46 = .ok (.aload_n 0, 1) := by decide +kernel
theorem dX8_putClock_47 : decode cX8_putClock 47 = .ok (.bipush 105, 2) := by decide +kernel
theorem dX8_putClock_49 : decode cX8_putClock 49 = .ok (.invokevirtual 29, 3) := by decide +kernel
theorem dX8_putClock_52 : decode cX8_putClock 52 = .ok (.return_, 1) := by decide +kernel
theorem dX8_putNumber_0 : decode cX8_putNumber 0 = .ok (.sipush 1000, 3) := by decide +kernel
theorem dX8_putNumber_3 : decode cX8_putNumber 3 = .ok (.istore_n 2, 1) := by decide +kernel
theorem dX8_putNumber_4 : decode cX8_putNumber 4 = .ok (.iload_n 2, 1) := by decide +kernel
theorem dX8_putNumber_5 : decode cX8_putNumber 5 = .ok (.iconst 1, 1) := by decide +kernel
theorem dX8_putNumber_6 : decode cX8_putNumber 6 = .ok (.if_icmp .le 30, 3) := by decide +kernel
theorem dX8_putNumber_9 : decode cX8_putNumber 9 = .ok (.iload_n 1, 1) := by decide +kernel
theorem dX8_putNumber_10 : decode cX8_putNumber 10 = .ok (.iload_n 2, 1) := by decide +kernel
theorem dX8_putNumber_11 : decode cX8_putNumber 11 = .ok (.if_icmp .lt 17, 3) := by decide +kernel
theorem dX8_putNumber_14 : decode cX8_putNumber 14 = .ok (.aload_n 0, 1) := by decide +kernel
theorem dX8_putNumber_15 : decode cX8_putNumber 15 = .ok (.bipush 48, 2) := by decide +kernel
theorem dX8_putNumber_17 : decode cX8_putNumber 17 = .ok (.iload_n 1, 1) := by decide +kernel
theorem dX8_putNumber_18 : decode cX8_putNumber 18 = .ok (.iload_n 2, 1) := by decide +kernel
theorem dX8_putNumber_19 : decode cX8_putNumber 19 = .ok (.idiv, 1) := by decide +kernel
theorem dX8_putNumber_20 : decode cX8_putNumber 20 = .ok (.bipush 10, 2) := by decide +kernel
theorem dX8_putNumber_22 : decode cX8_putNumber 22 = .ok (.irem, 1) := by decide +kernel
theorem dX8_putNumber_23 : decode cX8_putNumber 23 = .ok (.iadd, 1) := by decide +kernel
theorem dX8_putNumber_24 : decode cX8_putNumber 24 = .ok (.i2c, 1) := by decide +kernel
theorem dX8_putNumber_25 : decode cX8_putNumber 25 = .ok (.invokevirtual 29, 3) := by decide +kernel
theorem dX8_putNumber_28 : decode cX8_putNumber 28 = .ok (.iload_n 2, 1) := by decide +kernel
theorem dX8_putNumber_29 : decode cX8_putNumber 29 = .ok (.bipush 10, 2) := by decide +kernel
theorem dX8_putNumber_31 : decode cX8_putNumber 31 = .ok (.idiv, 1) := by decide +kernel
theorem dX8_putNumber_32 : decode cX8_putNumber 32 = .ok (.istore_n 2, 1) := by decide +kernel
theorem dX8_putNumber_33 : decode cX8_putNumber 33 = .ok (.goto (-29), 3) := by decide +kernel
theorem dX8_putNumber_36 : decode cX8_putNumber 36 = .ok (.aload_n 0, 1) := by decide +kernel
theorem dX8_putNumber_37 : decode cX8_putNumber 37 = .ok (.bipush 48, 2) := by decide +kernel
theorem dX8_putNumber_39 : decode cX8_putNumber 39 = .ok (.iload_n 1, 1) := by decide +kernel
theorem dX8_putNumber_40 : decode cX8_putNumber 40 = .ok (.bipush 10, 2) := by decide +kernel
theorem dX8_putNumber_42 : decode cX8_putNumber 42 = .ok (.irem, 1) := by decide +kernel
theorem dX8_putNumber_43 : decode cX8_putNumber 43 = .ok (.iadd, 1) := by decide +kernel
theorem dX8_putNumber_44 : decode cX8_putNumber 44 = .ok (.i2c, 1) := by decide +kernel
theorem dX8_putNumber_45 : decode cX8_putNumber 45 = .ok (.invokevirtual 29, 3) := by decide +kernel
theorem dX8_putNumber_48 : decode cX8_putNumber 48 = .ok (.return_, 1) := by decide +kernel
theorem dX8_put_0 : decode cX8_put 0 = .ok (.aload_n 0, 1) := by decide +kernel
theorem dX8_put_1 : decode cX8_put 1 = .ok (.getfield 15, 3) := by decide +kernel
theorem dX8_put_4 : decode cX8_put 4 = .ok (.aload_n 0, 1) := by decide +kernel
theorem dX8_put_5 : decode cX8_put 5 = .ok (.getfield 9, 3) := by decide +kernel
theorem dX8_put_8 : decode cX8_put 8 = .ok (.arraylength, 1) := by decide +kernel
theorem dX8_put_9 : decode cX8_put 9 = .ok (.if_icmp .ge 23, 3) := by decide +kernel
theorem dX8_put_12 : decode cX8_put 12 = .ok (.aload_n 0, 1) := by decide +kernel
theorem dX8_put_13 : decode cX8_put 13 = .ok (.getfield 9, 3) := by decide +kernel
theorem dX8_put_16 : decode cX8_put 16 = .ok (.aload_n 0, 1) := by decide +kernel
theorem dX8_put_17 : decode cX8_put 17 = .ok (.getfield 15, 3) := by decide +kernel
theorem dX8_put_20 : decode cX8_put 20 = .ok (.iload_n 1, 1) := by decide +kernel
theorem dX8_put_21 : decode cX8_put 21 = .ok (.castore, 1) := by decide +kernel
theorem dX8_put_22 : decode cX8_put 22 = .ok (.aload_n 0, 1) := by decide +kernel
theorem dX8_put_23 : decode cX8_put 23 = .ok (.dup, 1) := by decide +kernel
theorem dX8_put_24 : decode cX8_put 24 = .ok (.getfield 15, 3) := by decide +kernel
theorem dX8_put_27 : decode cX8_put 27 = .ok (.iconst 1, 1) := by decide +kernel
theorem dX8_put_28 : decode cX8_put 28 = .ok (.iadd, 1) := by decide +kernel
theorem dX8_put_29 : decode cX8_put 29 = .ok (.putfield 15, 3) := by decide +kernel
theorem dX8_put_32 : decode cX8_put 32 = .ok (.return_, 1) := by decide +kernel
theorem dX9_init_0 : decode cX9_init 0 = .ok (.aload_n 0, 1) := by decide +kernel
theorem dX9_init_1 : decode cX9_init 1 = .ok (.invokespecial 3, 3) := by decide +kernel
theorem dX9_init_4 : decode cX9_init 4 = .ok (.aload_n 0, 1) := by decide +kernel
theorem dX9_init_5 : decode cX9_init 5 = .ok (.bipush 56, 2) := by decide +kernel
theorem dX9_init_7 : decode cX9_init 7 = .ok (.newarray .int, 2) := by decide +kernel
theorem dX9_init_9 : decode cX9_init 9 = .ok (.putfield 9, 3) := by decide +kernel
theorem dX9_init_12 : decode cX9_init 12 = .ok (.aload_n 0, 1) := by decide +kernel
theorem dX9_init_13 : decode cX9_init 13 = .ok (.iconst 4, 1) := by decide +kernel
theorem dX9_init_14 : decode cX9_init 14 = .ok (.newarray .int, 2) := by decide +kernel
theorem dX9_init_16 : decode cX9_init 16 = .ok (.putfield 15, 3) := by decide +kernel
theorem dX9_init_19 : decode cX9_init 19 = .ok (.aload_n 0, 1) := by decide +kernel
theorem dX9_init_20 : decode cX9_init 20 = .ok (.iconst 4, 1) := by decide +kernel
theorem dX9_init_21 : decode cX9_init 21 = .ok (.newarray .int, 2) := by decide +kernel
theorem dX9_init_23 : decode cX9_init 23 = .ok (.putfield 18, 3) := by decide +kernel
theorem dX9_init_26 : decode cX9_init 26 = .ok (.return_, 1) := by decide +kernel
theorem dX9_begin_0 : decode cX9_begin 0 = .ok (.aload_n 0, 1) := by decide +kernel
theorem dX9_begin_1 : decode cX9_begin 1 = .ok (.iload_n 1, 1) := by decide +kernel
theorem dX9_begin_2 : decode cX9_begin 2 = .ok (.putfield 21, 3) := by decide +kernel
theorem dX9_begin_5 : decode cX9_begin 5 = .ok (.aload_n 0, 1) := by decide +kernel
theorem dX9_begin_6 : decode cX9_begin 6 = .ok (.iconst 0, 1) := by decide +kernel
theorem dX9_begin_7 : decode cX9_begin 7 = .ok (.putfield 25, 3) := by decide +kernel
theorem dX9_begin_10 : decode cX9_begin 10 = .ok (.aload_n 0, 1) := by decide +kernel
theorem dX9_begin_11 : decode cX9_begin 11 = .ok (.iconst 0, 1) := by decide +kernel
theorem dX9_begin_12 : decode cX9_begin 12 = .ok (.putfield 28, 3) := by decide +kernel
theorem dX9_begin_15 : decode cX9_begin 15 = .ok (.return_, 1) := by decide +kernel
theorem dX9_copyFrom_0 : decode cX9_copyFrom 0 = .ok (.aload_n 0, 1) := by decide +kernel
theorem dX9_copyFrom_1 : decode cX9_copyFrom 1 = .ok (.aload_n 1, 1) := by decide +kernel
theorem dX9_copyFrom_2 : decode cX9_copyFrom 2 = .ok (.getfield 21, 3) := by decide +kernel
theorem dX9_copyFrom_5 : decode cX9_copyFrom 5 = .ok (.putfield 21, 3) := by decide +kernel
theorem dX9_copyFrom_8 : decode cX9_copyFrom 8 = .ok (.aload_n 0, 1) := by decide +kernel
theorem dX9_copyFrom_9 : decode cX9_copyFrom 9 = .ok (.aload_n 1, 1) := by decide +kernel
theorem dX9_copyFrom_10 : decode cX9_copyFrom 10 = .ok (.getfield 25, 3) := by decide +kernel
theorem dX9_copyFrom_13 : decode cX9_copyFrom 13 = .ok (.putfield 25, 3) := by decide +kernel
theorem dX9_copyFrom_16 : decode cX9_copyFrom 16 = .ok (.aload_n 0, 1) := by decide +kernel
theorem dX9_copyFrom_17 : decode cX9_copyFrom 17 = .ok (.aload_n 1, 1) := by decide +kernel
theorem dX9_copyFrom_18 : decode cX9_copyFrom 18 = .ok (.getfield 28, 3) := by decide +kernel
theorem dX9_copyFrom_21 : decode cX9_copyFrom 21 = .ok (.putfield 28, 3) := by decide +kernel
theorem dX9_copyFrom_24 : decode cX9_copyFrom 24 = .ok (.aload_n 1, 1) := by decide +kernel
theorem dX9_copyFrom_25 : decode cX9_copyFrom 25 = .ok (.getfield 9, 3) := by decide +kernel
theorem dX9_copyFrom_28 : decode cX9_copyFrom 28 = .ok (.iconst 0, 1) := by decide +kernel
theorem dX9_copyFrom_29 : decode cX9_copyFrom 29 = .ok (.aload_n 0, 1) := by decide +kernel
theorem dX9_copyFrom_30 : decode cX9_copyFrom 30 = .ok (.getfield 9, 3) := by decide +kernel
theorem dX9_copyFrom_33 : decode cX9_copyFrom 33 = .ok (.iconst 0, 1) := by decide +kernel
theorem dX9_copyFrom_34 : decode cX9_copyFrom 34 = .ok (.aload_n 0, 1) := by decide +kernel
theorem dX9_copyFrom_35 : decode cX9_copyFrom 35 = .ok (.getfield 25, 3) := by decide +kernel
theorem dX9_copyFrom_38 : decode cX9_copyFrom 38 = .ok (.bipush 7, 2) := by decide +kernel
theorem dX9_copyFrom_40 : decode cX9_copyFrom 40 = .ok (.imul, 1) := by decide +kernel
theorem dX9_copyFrom_41 : decode cX9_copyFrom 41 = .ok (.invokestatic 31, 3) := by decide +kernel
theorem dX9_copyFrom_44 : decode cX9_copyFrom 44 = .ok (.aload_n 1, 1) := by decide +kernel
theorem dX9_copyFrom_45 : decode cX9_copyFrom 45 = .ok (.getfield 15, 3) := by decide +kernel
theorem dX9_copyFrom_48 : decode cX9_copyFrom 48 = .ok (.iconst 0, 1) := by decide +kernel
theorem dX9_copyFrom_49 : decode cX9_copyFrom 49 = .ok (.aload_n 0, 1) := by decide +kernel
theorem dX9_copyFrom_50 : decode cX9_copyFrom 50 = .ok (.getfield 15, 3) := by decide +kernel
theorem dX9_copyFrom_53 : decode cX9_copyFrom 53 = .ok (.iconst 0, 1) := by decide +kernel
theorem dX9_copyFrom_54 : decode cX9_copyFrom 54 = .ok (.aload_n 0, 1) := by decide +kernel
theorem dX9_copyFrom_55 : decode cX9_copyFrom 55 = .ok (.getfield 28, 3) := by decide +kernel
theorem dX9_copyFrom_58 : decode cX9_copyFrom 58 = .ok (.invokestatic 31, 3) := by decide +kernel
theorem dX9_copyFrom_61 : decode cX9_copyFrom 61 = .ok (.aload_n 1, 1) := by decide +kernel
theorem dX9_copyFrom_62 : decode cX9_copyFrom 62 = .ok (.getfield 18, 3) := by decide +kernel
theorem dX9_copyFrom_65 : decode cX9_copyFrom 65 = .ok (.iconst 0, 1) := by decide +kernel
theorem dX9_copyFrom_66 : decode cX9_copyFrom 66 = .ok (.aload_n 0, 1) := by decide +kernel
theorem dX9_copyFrom_67 : decode cX9_copyFrom 67 = .ok (.getfield 18, 3) := by decide +kernel
theorem dX9_copyFrom_70 : decode cX9_copyFrom 70 = .ok (.iconst 0, 1) := by decide +kernel
theorem dX9_copyFrom_71 : decode cX9_copyFrom 71 = .ok (.aload_n 0, 1) := by decide +kernel
theorem dX9_copyFrom_72 : decode cX9_copyFrom 72 = .ok (.getfield 28, 3) := by decide +kernel
theorem dX9_copyFrom_75 : decode cX9_copyFrom 75 = .ok (.invokestatic 31, 3) := by decide +kernel
theorem dX9_copyFrom_78 : decode cX9_copyFrom 78 = .ok (.return_, 1) := by decide +kernel
theorem dX9_putChange_0 : decode cX9_putChange 0 = .ok (.aload_n 0, 1) := by decide +kernel
theorem dX9_putChange_1 : decode cX9_putChange 1 = .ok (.getfield 15, 3) := by decide +kernel
theorem dX9_putChange_4 : decode cX9_putChange 4 = .ok (.aload_n 0, 1) := by decide +kernel
theorem dX9_putChange_5 : decode cX9_putChange 5 = .ok (.getfield 28, 3) := by decide +kernel
theorem dX9_putChange_8 : decode cX9_putChange 8 = .ok (.iload_n 1, 1) := by decide +kernel
theorem dX9_putChange_9 : decode cX9_putChange 9 = .ok (.iastore, 1) := by decide +kernel
theorem dX9_putChange_10 : decode cX9_putChange 10 = .ok (.aload_n 0, 1) := by decide +kernel
theorem dX9_putChange_11 : decode cX9_putChange 11 = .ok (.getfield 18, 3) := by decide +kernel
theorem dX9_putChange_14 : decode cX9_putChange 14 = .ok (.aload_n 0, 1) := by decide +kernel
theorem dX9_putChange_15 : decode cX9_putChange 15 = .ok (.getfield 28, 3) := by decide +kernel
theorem dX9_putChange_18 : decode cX9_putChange 18 = .ok (.iload_n 2, 1) := by decide +kernel
theorem dX9_putChange_19 : decode cX9_putChange 19 = .ok (.iastore, 1) := by decide +kernel
theorem dX9_putChange_20 : decode cX9_putChange 20 = .ok (.aload_n 0, 1) := by decide +kernel
theorem dX9_putChange_21 : decode cX9_putChange 21 = .ok (.dup, 1) := by decide +kernel
theorem dX9_putChange_22 : decode cX9_putChange 22 = .ok (.getfield 28, 3) := by decide +kernel
theorem dX9_putChange_25 : decode cX9_putChange 25 = .ok (.iconst 1, 1) := by decide +kernel
theorem dX9_putChange_26 : decode cX9_putChange 26 = .ok (.iadd, 1) := by decide +kernel
theorem dX9_putChange_27 : decode cX9_putChange 27 = .ok (.putfield 28, 3) := by decide +kernel
theorem dX9_putChange_30 : decode cX9_putChange 30 = .ok (.aload_n 0, 1) := by decide +kernel
theorem dX9_putChange_31 : decode cX9_putChange 31 = .ok (.getfield 28, 3) := by decide +kernel
theorem dX9_putChange_34 : decode cX9_putChange 34 = .ok (.iconst 1, 1) := by decide +kernel
theorem dX9_putChange_35 : decode cX9_putChange 35 = .ok (.isub, 1) := by decide +kernel
theorem dX9_putChange_36 : decode cX9_putChange 36 = .ok (.ireturn, 1) := by decide +kernel
theorem dX9_putRule_0 : decode cX9_putRule 0 = .ok (.aload_n 0, 1) := by decide +kernel
theorem dX9_putRule_1 : decode cX9_putRule 1 = .ok (.getfield 25, 3) := by decide +kernel
theorem dX9_putRule_4 : decode cX9_putRule 4 = .ok (.bipush 7, 2) := by decide +kernel
theorem dX9_putRule_6 : decode cX9_putRule 6 = .ok (.imul, 1) := by decide +kernel
theorem dX9_putRule_7 : decode cX9_putRule 7 = .ok (.istore 6, 2) := by decide +kernel
theorem dX9_putRule_9 : decode cX9_putRule 9 = .ok (.aload_n 0, 1) := by decide +kernel
theorem dX9_putRule_10 : decode cX9_putRule 10 = .ok (.getfield 9, 3) := by decide +kernel
theorem dX9_putRule_13 : decode cX9_putRule 13 = .ok (.iload 6, 2) := by decide +kernel
theorem dX9_putRule_15 : decode cX9_putRule 15 = .ok (.iconst 0, 1) := by decide +kernel
theorem dX9_putRule_16 : decode cX9_putRule 16 = .ok (.iadd, 1) := by decide +kernel
theorem dX9_putRule_17 : decode cX9_putRule 17 = .ok (.iload_n 1, 1) := by decide +kernel
theorem dX9_putRule_18 : decode cX9_putRule 18 = .ok (.bipush 100, 2) := by decide +kernel
theorem dX9_putRule_20 : decode cX9_putRule 20 = .ok (.idiv, 1) := by decide +kernel
theorem dX9_putRule_21 : decode cX9_putRule 21 = .ok (.iastore, 1) := by decide +kernel
theorem dX9_putRule_22 : decode cX9_putRule 22 = .ok (.aload_n 0, 1) := by decide +kernel
theorem dX9_putRule_23 : decode cX9_putRule 23 = .ok (.getfield 9, 3) := by decide +kernel
theorem dX9_putRule_26 : decode cX9_putRule 26 = .ok (.iload 6, 2) := by decide +kernel
theorem dX9_putRule_28 : decode cX9_putRule 28 = .ok (.iconst 1, 1) := by decide +kernel
theorem dX9_putRule_29 : decode cX9_putRule 29 = .ok (.iadd, 1) := by decide +kernel
theorem dX9_putRule_30 : decode cX9_putRule 30 = .ok (.iload_n 1, 1) := by decide +kernel
theorem dX9_putRule_31 : decode cX9_putRule 31 = .ok (.bipush 100, 2) := by decide +kernel
theorem dX9_putRule_33 : decode cX9_putRule 33 = .ok (.irem, 1) := by decide +kernel
theorem dX9_putRule_34 : decode cX9_putRule 34 = .ok (.iastore, 1) := by decide +kernel
theorem dX9_putRule_35 : decode cX9_putRule 35 = .ok (.aload_n 0, 1) := by decide +kernel
theorem dX9_putRule_36 : decode cX9_putRule 36 = .ok (.getfield 9, 3) := by decide +kernel
theorem dX9_putRule_39 : decode cX9_putRule 39 = .ok (.iload 6, 2) := by decide +kernel
theorem dX9_putRule_41 : decode cX9_putRule 41 = .ok (.iconst 2, 1) := by decide +kernel
theorem dX9_putRule_42 : decode cX9_putRule 42 = .ok (.iadd, 1) := by decide +kernel
theorem dX9_putRule_43 : decode cX9_putRule 43 = .ok (.iload_n 2, 1) := by decide +kernel
theorem dX9_putRule_44 : decode cX9_putRule 44 = .ok (.iastore, 1) := by decide +kernel
theorem dX9_putRule_45 : decode cX9_putRule 45 = .ok (.aload_n 0, 1) := by decide +kernel
theorem dX9_putRule_46 : decode cX9_putRule 46 = .ok (.getfield 9, 3) := by decide +kernel
theorem dX9_putRule_49 : decode cX9_putRule 49 = .ok (.iload 6, 2) := by decide +kernel
theorem dX9_putRule_51 : decode cX9_putRule 51 = .ok (.iconst 3, 1) := by decide +kernel
theorem dX9_putRule_52 : decode cX9_putRule 52 = .ok (.iadd, 1) := by decide +kernel
theorem dX9_putRule_53 : decode cX9_putRule 53 = .ok (.iload_n 3, 1) := by decide +kernel
theorem dX9_putRule_54 : decode cX9_putRule 54 = .ok (.iastore, 1) := by decide +kernel
theorem dX9_putRule_55 : decode cX9_putRule 55 = .ok (.aload_n 0, 1) := by decide +kernel
theorem dX9_putRule_56 : decode cX9_putRule 56 = .ok (.getfield 9, 3) := by decide +kernel
theorem dX9_putRule_59 : decode cX9_putRule 59 = .ok (.iload 6, 2) := by decide +kernel
theorem dX9_putRule_61 : decode cX9_putRule 61 = .ok (.iconst 4, 1) := by decide +kernel
theorem dX9_putRule_62 : decode cX9_putRule 62 = .ok (.iadd, 1) := by decide +kernel
theorem dX9_putRule_63 : decode cX9_putRule 63 = .ok (.iload 4, 2) := by decide +kernel
theorem dX9_putRule_65 : decode cX9_putRule 65 = .ok (.bipush 10, 2) := by decide +kernel
theorem dX9_putRule_67 : decode cX9_putRule 67 = .ok (.idiv, 1) := by decide +kernel
theorem dX9_putRule_68 : decode cX9_putRule 68 = .ok (.iastore, 1) := by decide +kernel
theorem dX9_putRule_69 : decode cX9_putRule 69 = .ok (.aload_n 0, 1) := by decide +kernel
theorem dX9_putRule_70 : decode cX9_putRule 70 = .ok (.getfield 9, 3) := by decide +kernel
theorem dX9_putRule_73 : decode cX9_putRule 73 = .ok (.iload 6, 2) := by decide +kernel
theorem dX9_putRule_75 : decode cX9_putRule 75 = .ok (.iconst 5, 1) := by decide +kernel
theorem dX9_putRule_76 : decode cX9_putRule 76 = .ok (.iadd, 1) := by decide +kernel
theorem dX9_putRule_77 : decode cX9_putRule 77 = .ok (.iload 4, 2) := by decide +kernel
theorem dX9_putRule_79 : decode cX9_putRule 79 = .ok (.bipush 10, 2) := by decide +kernel
theorem dX9_putRule_81 : decode cX9_putRule 81 = .ok (.irem, 1) := by decide +kernel
theorem dX9_putRule_82 : decode cX9_putRule 82 = .ok (.iastore, 1) := by decide +kernel
theorem dX9_putRule_83 : decode cX9_putRule 83 = .ok (.aload_n 0, 1) := by decide +kernel
theorem dX9_putRule_84 : decode cX9_putRule 84 = .ok (.getfield 9, 3) := by decide +kernel
theorem dX9_putRule_87 : decode cX9_putRule 87 = .ok (.iload 6, 2) := by decide +kernel
theorem dX9_putRule_89 : decode cX9_putRule 89 = .ok (.bipush 6, 2) := by decide +kernel
theorem dX9_putRule_91 : decode cX9_putRule 91 = .ok (.iadd, 1) := by decide +kernel
theorem dX9_putRule_92 : decode cX9_putRule 92 = .ok (.iload 5, 2) := by decide +kernel
theorem dX9_putRule_94 : decode cX9_putRule 94 = .ok (.iastore, 1) := by decide +kernel
theorem dX9_putRule_95 : decode cX9_putRule 95 = .ok (.aload_n 0, 1) := by decide +kernel
theorem dX9_putRule_96 : decode cX9_putRule 96 = .ok (.dup, 1) := by decide +kernel
theorem dX9_putRule_97 : decode cX9_putRule 97 = .ok (.getfield 25, 3) := by decide +kernel
theorem dX9_putRule_100 : decode cX9_putRule 100 = .ok (.iconst 1, 1) := by decide +kernel
theorem dX9_putRule_101 : decode cX9_putRule 101 = .ok (.iadd, 1) := by decide +kernel
theorem dX9_putRule_102 : decode cX9_putRule 102 = .ok (.putfield 25, 3) := by decide +kernel
theorem dX9_putRule_105 : decode cX9_putRule 105 = .ok (.aload_n 0, 1) := by decide +kernel
theorem dX9_putRule_106 : decode cX9_putRule 106 = .ok (.getfield 25, 3) := by decide +kernel
theorem dX9_putRule_109 : decode cX9_putRule 109 = .ok (.iconst 1, 1) := by decide +kernel
theorem dX9_putRule_110 : decode cX9_putRule 110 = .ok (.isub, 1) := by decide +kernel
theorem dX9_putRule_111 : decode cX9_putRule 111 = .ok (.ireturn, 1) := by decide +kernel
theorem dX9_takeRule_0 : decode cX9_takeRule 0 = .ok (.iload_n 1, 1) := by decide +kernel
theorem dX9_takeRule_1 : decode cX9_takeRule 1 = .ok (.iconst 1, 1) := by decide +kernel
theorem dX9_takeRule_2 : decode cX9_takeRule 2 = .ok (.iadd, 1) := by decide +kernel
theorem dX9_takeRule_3 : decode cX9_takeRule 3 = .ok (.bipush 7, 2) := by decide +kernel
theorem dX9_takeRule_5 : decode cX9_takeRule 5 = .ok (.imul, 1) := by decide +kernel
theorem dX9_takeRule_6 : decode cX9_takeRule 6 = .ok (.istore_n 2, 1) := by decide +kernel
theorem dX9_takeRule_7 : decode cX9_takeRule 7 = .ok (.aload_n 0, 1) := by decide +kernel
theorem dX9_takeRule_8 : decode cX9_takeRule 8 = .ok (.getfield 9, 3) := by decide +kernel
theorem dX9_takeRule_11 : decode cX9_takeRule 11 = .ok (.iload_n 2, 1) := by decide +kernel
theorem dX9_takeRule_12 : decode cX9_takeRule 12 = .ok (.aload_n 0, 1) := by decide +kernel
theorem dX9_takeRule_13 : decode cX9_takeRule 13 = .ok (.getfield 9, 3) := by decide +kernel
theorem dX9_takeRule_16 : decode cX9_takeRule 16 = .ok (.iload_n 1, 1) := by decide +kernel
theorem dX9_takeRule_17 : decode cX9_takeRule 17 = .ok (.bipush 7, 2) := by decide +kernel
theorem dX9_takeRule_19 : decode cX9_takeRule 19 = .ok (.imul, 1) := by decide +kernel
theorem dX9_takeRule_20 : decode cX9_takeRule 20 = .ok (.aload_n 0, 1) := by decide +kernel
theorem dX9_takeRule_21 : decode cX9_takeRule 21 = .ok (.getfield 25, 3) := by decide +kernel
theorem dX9_takeRule_24 : decode cX9_takeRule 24 = .ok (.bipush 7, 2) := by decide +kernel
theorem dX9_takeRule_26 : decode cX9_takeRule 26 = .ok (.imul, 1) := by decide +kernel
theorem dX9_takeRule_27 : decode cX9_takeRule 27 = .ok (.iload_n 2, 1) := by decide +kernel
theorem dX9_takeRule_28 : decode cX9_takeRule 28 = .ok (.isub, 1) := by decide +kernel
theorem dX9_takeRule_29 : decode cX9_takeRule 29 = .ok (.invokestatic 31, 3) := by decide +kernel
theorem dX9_takeRule_32 : decode cX9_takeRule 32 = .ok (.aload_n 0, 1) := by decide +kernel
theorem dX9_takeRule_33 : decode cX9_takeRule 33 = .ok (.dup, 1) := by decide +kernel
theorem dX9_takeRule_34 : decode cX9_takeRule 34 = .ok (.getfield 25, 3) := by decide +kernel
theorem dX9_takeRule_37 : decode cX9_takeRule 37 = .ok (.iconst 1, 1) := by decide +kernel
theorem dX9_takeRule_38 : decode cX9_takeRule 38 = .ok (.isub, 1) := by decide +kernel
theorem dX9_takeRule_39 : decode cX9_takeRule 39 = .ok (.putfield 25, 3) := by decide +kernel
theorem dX9_takeRule_42 : decode cX9_takeRule 42 = .ok (.return_, 1) := by decide +kernel
theorem dX9_ruleNumber_0 : decode cX9_ruleNumber 0 = .ok (.aload_n 0, 1) := by decide +kernel
theorem dX9_ruleNumber_1 : decode cX9_ruleNumber 1 = .ok (.getfield 9, 3) := by decide +kernel
theorem dX9_ruleNumber_4 : decode cX9_ruleNumber 4 = .ok (.iload_n 1, 1) := by decide +kernel
theorem dX9_ruleNumber_5 : decode cX9_ruleNumber 5 = .ok (.bipush 7, 2) := by decide +kernel
theorem dX9_ruleNumber_7 : decode cX9_ruleNumber 7 = .ok (.imul, 1) := by decide +kernel
theorem dX9_ruleNumber_8 : decode cX9_ruleNumber 8 = .ok (.iload_n 2, 1) := by decide +kernel
theorem dX9_ruleNumber_9 : decode cX9_ruleNumber 9 = .ok (.iadd, 1) := by decide +kernel
theorem dX9_ruleNumber_10 : decode cX9_ruleNumber 10 = .ok (.iaload, 1) := by decide +kernel
theorem dX9_ruleNumber_11 : decode cX9_ruleNumber 11 = .ok (.ireturn, 1) := by decide +kernel
theorem dX9_dayOfEvent_0 : decode cX9_dayOfEvent 0 = .ok (.iload_n 1, 1) := by decide +kernel
theorem dX9_dayOfEvent_1 : decode cX9_dayOfEvent 1 = .ok (.bipush 7, 2) := by decide +kernel
theorem dX9_dayOfEvent_3 : decode cX9_dayOfEvent 3 = .ok (.imul, 1) := by decide +kernel
theorem dX9_dayOfEvent_4 : decode cX9_dayOfEvent 4 = .ok (.istore_n 3, 1) := by decide +kernel
theorem dX9_dayOfEvent_5 : decode cX9_dayOfEvent 5 = .ok (.iload_n 2, 1) := by decide +kernel
theorem dX9_dayOfEvent_6 : decode cX9_dayOfEvent 6 = .ok (.aload_n 0, 1) := by decide +kernel
theorem dX9_dayOfEvent_7 : decode cX9_dayOfEvent 7 = .ok (.getfield 9, 3) := by decide +kernel
theorem dX9_dayOfEvent_10 : decode cX9_dayOfEvent 10 = .ok (.iload_n 3, 1) := by decide +kernel
theorem dX9_dayOfEvent_11 : decode cX9_dayOfEvent 11 = .ok (.iconst 0, 1) := by decide +kernel
theorem dX9_dayOfEvent_12 : decode cX9_dayOfEvent 12 = .ok (.iadd, 1) := by decide +kernel
theorem dX9_dayOfEvent_13 : decode cX9_dayOfEvent 13 = .ok (.iaload, 1) := by decide +kernel
theorem dX9_dayOfEvent_14 : decode cX9_dayOfEvent 14 = .ok (.if_icmp .lt 15, 3) := by decide +kernel
theorem dX9_dayOfEvent_17 : decode cX9_dayOfEvent 17 = .ok (.iload_n 2, 1) := by decide +kernel
theorem dX9_dayOfEvent_18 : decode cX9_dayOfEvent 18 = .ok (.aload_n 0, 1) := by decide +kernel
theorem dX9_dayOfEvent_19 : decode cX9_dayOfEvent 19 = .ok (.getfield 9, 3) := by decide +kernel
theorem dX9_dayOfEvent_22 : decode cX9_dayOfEvent 22 = .ok (.iload_n 3, 1) := by decide +kernel
theorem dX9_dayOfEvent_23 : decode cX9_dayOfEvent 23 = .ok (.iconst 1, 1) := by decide +kernel
theorem dX9_dayOfEvent_24 : decode cX9_dayOfEvent 24 = .ok (.iadd, 1) := by decide +kernel
theorem dX9_dayOfEvent_25 : decode cX9_dayOfEvent 25 = .ok (.iaload, 1) := by decide +kernel
theorem dX9_dayOfEvent_26 : decode cX9_dayOfEvent 26 = .ok (.if_icmp .le 5, 3) := by decide +kernel
theorem dX9_dayOfEvent_29 : decode cX9_dayOfEvent 29 = .ok (.iconst (-1), 1) := by decide +kernel
theorem dX9_dayOfEvent_30 : decode cX9_dayOfEvent 30 = .ok (.ireturn, 1) := by decide +kernel
theorem dX9_dayOfEvent_31 : decode cX9_dayOfEvent 31 = .ok (.iload_n 2, 1) := by decide +kernel
theorem dX9_dayOfEvent_32 : decode cX9_dayOfEvent 32 = .ok (.aload_n 0, 1) := by decide +kernel
theorem dX9_dayOfEvent_33 : decode cX9_dayOfEvent 33 = .ok (.getfield 9, 3) := by decide +kernel
theorem dX9_dayOfEvent_36 : decode cX9_dayOfEvent 36 = .ok (.iload_n 3, 1) := by decide +kernel
theorem dX9_dayOfEvent_37 : decode cX9_dayOfEvent 37 = .ok (.iconst 2, 1) := by decide +kernel
theorem dX9_dayOfEvent_38 : decode cX9_dayOfEvent 38 = .ok (.iadd, 1) := by decide +kernel
theorem dX9_dayOfEvent_39 : decode cX9_dayOfEvent 39 = .ok (.iaload, 1) := by decide +kernel
theorem dX9_dayOfEvent_40 : decode cX9_dayOfEvent 40 = .ok (.aload_n 0, 1) := by decide +kernel
theorem dX9_dayOfEvent_41 : decode cX9_dayOfEvent 41 = .ok (.getfield 9, 3) := by decide +kernel
theorem dX9_dayOfEvent_44 : decode cX9_dayOfEvent 44 = .ok (.iload_n 3, 1) := by decide +kernel
theorem dX9_dayOfEvent_45 : decode cX9_dayOfEvent 45 = .ok (.iconst 3, 1) := by decide +kernel
theorem dX9_dayOfEvent_46 : decode cX9_dayOfEvent 46 = .ok (.iadd, 1) := by decide +kernel
theorem dX9_dayOfEvent_47 : decode cX9_dayOfEvent 47 = .ok (.iaload, 1) := by decide +kernel
theorem dX9_dayOfEvent_48 : decode cX9_dayOfEvent 48 = .ok (.invokestatic 37, 3) := by decide +kernel
theorem dX9_dayOfEvent_51 : decode cX9_dayOfEvent 51 = .ok (.ireturn, 1) := by decide +kernel
theorem dX9_listEvents_0 : decode cX9_listEvents 0 = .ok (.iconst 0, 1) := by decide +kernel
theorem dX9_listEvents_1 : decode cX9_listEvents 1 = .ok (.istore_n 2, 1) := by decide +kernel
theorem dX9_listEvents_2 : decode cX9_listEvents 2 = .ok (.iconst 0, 1) := by decide +kernel
theorem dX9_listEvents_3 : decode cX9_listEvents 3 = .ok (.istore_n 3, 1) := by decide +kernel
theorem dX9_listEvents_4 : decode cX9_listEvents 4 = .ok (.iload_n 3, 1) := by decide +kernel
theorem dX9_listEvents_5 : decode cX9_listEvents 5 = .ok (.aload_n 0, 1) := by decide +kernel
theorem dX9_listEvents_6 : decode cX9_listEvents 6 = .ok (.getfield 28, 3) := by decide +kernel
theorem dX9_listEvents_9 : decode cX9_listEvents 9 = .ok (.if_icmp .ge 23, 3) := by decide +kernel
theorem dX9_listEvents_12 : decode cX9_listEvents 12 = .ok (.aload_n 0, 1) := by decide +kernel
theorem dX9_listEvents_13 : decode cX9_listEvents 13 = .ok (.aload_n 1, 1) := by decide +kernel
theorem dX9_listEvents_14 : decode cX9_listEvents 14 = .ok (.iload_n 2, 1) := by decide +kernel
theorem dX9_listEvents_15 : decode cX9_listEvents 15 = .ok (.aload_n 0, 1) := by decide +kernel
theorem dX9_listEvents_16 : decode cX9_listEvents 16 = .ok (.getfield 15, 3) := by decide +kernel
theorem dX9_listEvents_19 : decode cX9_listEvents 19 = .ok (.iload_n 3, 1) := by decide +kernel
theorem dX9_listEvents_20 : decode cX9_listEvents 20 = .ok (.iaload, 1) := by decide +kernel
theorem dX9_listEvents_21 : decode cX9_listEvents 21 = .ok (.iload_n 3, 1) := by decide +kernel
theorem dX9_listEvents_22 : decode cX9_listEvents 22 = .ok (.invokevirtual 43, 3) := by decide +kernel
theorem dX9_listEvents_25 : decode cX9_listEvents 25 = .ok (.istore_n 2, 1) := by decide +kernel
theorem dX9_listEvents_26 : decode cX9_listEvents 26 = .ok (.iinc 3 1, 3) := by decide +kernel
theorem dX9_listEvents_29 : decode cX9_listEvents 29 = .ok (.goto (-25), 3) := by decide +kernel
theorem dX9_listEvents_32 : decode cX9_listEvents 32 = .ok (.iconst 0, 1) := by decide +kernel
theorem dX9_listEvents_33 : decode cX9_listEvents 33 = .ok (.istore_n 3, 1) := by decide +kernel
theorem dX9_listEvents_34 : decode cX9_listEvents 34 = .ok (.iload_n 3, 1) := by decide +kernel
theorem dX9_listEvents_35 : decode cX9_listEvents 35 = .ok (.aload_n 0, 1) := by decide +kernel
theorem dX9_listEvents_36 : decode cX9_listEvents 36 = .ok (.getfield 25, 3) := by decide +kernel
theorem dX9_listEvents_39 : decode cX9_listEvents 39 = .ok (.if_icmp .ge 77, 3) := by decide +kernel
theorem dX9_listEvents_42 : decode cX9_listEvents 42 = .ok (.aload_n 0, 1) := by decide +kernel
theorem dX9_listEvents_43 : decode cX9_listEvents 43 = .ok (.iload_n 3, 1) := by decide +kernel
theorem dX9_listEvents_44 : decode cX9_listEvents 44 = .ok (.iconst 2, 1) := by decide +kernel
theorem dX9_listEvents_45 : decode cX9_listEvents 45 = .ok (.invokevirtual 47, 3) := by decide +kernel
theorem dX9_listEvents_48 : decode cX9_listEvents 48 = .ok (.istore 4, 2) := by decide +kernel
theorem dX9_listEvents_50 : decode cX9_listEvents 50 = .ok (.aload_n 0, 1) := by decide +kernel
theorem dX9_listEvents_51 : decode cX9_listEvents 51 = .ok (.iload_n 3, 1) := by decide +kernel
theorem dX9_listEvents_52 : decode cX9_listEvents 52 = .ok (.iconst 3, 1) := by decide +kernel
theorem dX9_listEvents_53 : decode cX9_listEvents 53 = .ok (.invokevirtual 47, 3) := by decide +kernel
theorem dX9_listEvents_56 : decode cX9_listEvents 56 = .ok (.istore 5, 2) := by decide +kernel
theorem dX9_listEvents_58 : decode cX9_listEvents 58 = .ok (.aload_n 0, 1) := by decide +kernel
theorem dX9_listEvents_59 : decode cX9_listEvents 59 = .ok (.iload_n 3, 1) := by decide +kernel
theorem dX9_listEvents_60 : decode cX9_listEvents 60 = .ok (.iconst 1, 1) := by decide +kernel
theorem dX9_listEvents_61 : decode cX9_listEvents 61 = .ok (.invokevirtual 47, 3) := by decide +kernel
theorem dX9_listEvents_64 : decode cX9_listEvents 64 = .ok (.istore 6, 2) := by decide +kernel
theorem dX9_listEvents_66 : decode cX9_listEvents 66 = .ok (.aload_n 0, 1) := by decide +kernel
theorem dX9_listEvents_67 : decode cX9_listEvents 67 = .ok (.iload_n 3, 1) := by decide +kernel
theorem dX9_listEvents_68 : decode cX9_listEvents 68 = .ok (.iconst 0, 1) := by decide +kernel
theorem dX9_listEvents_69 : decode cX9_listEvents 69 = .ok (.invokevirtual 47, 3) := by decide +kernel
theorem dX9_listEvents_72 : decode cX9_listEvents 72 = .ok (.istore 7, 2) := by decide +kernel
theorem dX9_listEvents_74 : decode cX9_listEvents 74 = .ok (.iload 7, 2) := by decide +kernel
theorem dX9_listEvents_76 : decode cX9_listEvents 76 = .ok (.iload 6, 2) := by decide +kernel
theorem dX9_listEvents_78 : decode cX9_listEvents 78 = .ok (.if_icmp .gt 32, 3) := by decide +kernel
theorem dX9_listEvents_81 : decode cX9_listEvents 81 = .ok (.iload 7, 2) := by decide +kernel
theorem dX9_listEvents_83 : decode cX9_listEvents 83 = .ok (.iload 4, 2) := by decide +kernel
theorem dX9_listEvents_85 : decode cX9_listEvents 85 = .ok (.iload 5, 2) := by decide +kernel
theorem dX9_listEvents_87 : decode cX9_listEvents 87 = .ok (.invokestatic 37, 3) := by decide +kernel
theorem dX9_listEvents_90 : decode cX9_listEvents 90 = .ok (.istore 8, 2) := by decide +kernel
theorem dX9_listEvents_92 : decode cX9_listEvents 92 = .ok (.aload_n 0, 1) := by decide +kernel
theorem dX9_listEvents_93 : decode cX9_listEvents 93 = .ok (.aload_n 1, 1) := by decide +kernel
theorem dX9_listEvents_94 : decode cX9_listEvents 94 = .ok (.iload_n 2, 1) := by decide +kernel
theorem dX9_listEvents_95 : decode cX9_listEvents 95 = .ok (.iload 8, 2) := by decide +kernel
theorem dX9_listEvents_97 : decode cX9_listEvents 97 = .ok (.iconst 4, 1) := by decide +kernel
theorem dX9_listEvents_98 : decode cX9_listEvents 98 = .ok (.iload_n 3, 1) := by decide +kernel
theorem dX9_listEvents_99 : decode cX9_listEvents 99 = .ok (.iadd, 1) := by decide +kernel
theorem dX9_listEvents_100 : decode cX9_listEvents 100 = .ok (.invokevirtual 43, 3) := by decide +kernel
theorem dX9_listEvents_103 : decode cX9_listEvents 103 = .ok (.istore_n 2, 1) := by decide +kernel
theorem dX9_listEvents_104 : decode cX9_listEvents 104 = .ok (.iinc 7 1, 3) := by decide +kernel
theorem dX9_listEvents_107 : decode cX9_listEvents 107 = .ok (.goto (-33), 3) := by decide +kernel
theorem dX9_listEvents_110 : decode cX9_listEvents 110 = .ok (.iinc 3 1, 3) := by decide +kernel
theorem dX9_listEvents_113 : decode cX9_listEvents 113 = .ok (.goto (-79), 3) := by decide +kernel
theorem dX9_listEvents_116 : decode cX9_listEvents 116 = .ok (.iload_n 2, 1) := by decide +kernel
theorem dX9_listEvents_117 : decode cX9_listEvents 117 = .ok (.ireturn, 1) := by decide +kernel
theorem dX9_listEventsOfYear_0 : decode cX9_listEventsOfYear 0 = .ok (.iconst 0, 1) := by decide +kernel
theorem dX9_listEventsOfYear_1 : decode cX9_listEventsOfYear 1 = .ok (.istore_n 3, 1) := by decide +kernel
theorem dX9_listEventsOfYear_2 : decode cX9_listEventsOfYear 2 = .ok (.iconst 0, 1) := by decide +kernel
theorem dX9_listEventsOfYear_3 : decode cX9_listEventsOfYear 3 = .ok (.istore 4, 2) := by decide +kernel
theorem dX9_listEventsOfYear_5 : decode cX9_listEventsOfYear 5 = .ok (.iload 4, 2) := by decide +kernel
theorem dX9_listEventsOfYear_7 : decode cX9_listEventsOfYear 7 = .ok (.aload_n 0, 1) := by decide +kernel
theorem dX9_listEventsOfYear_8 : decode cX9_listEventsOfYear 8 = .ok (.getfield 28, 3) := by decide +kernel
theorem dX9_listEventsOfYear_11 : decode cX9_listEventsOfYear 11 = .ok (.if_icmp .ge 65, 3) := by decide +kernel
theorem dX9_listEventsOfYear_14 : decode cX9_listEventsOfYear 14 = .ok (.aload_n 0, 1) := by decide +kernel
theorem dX9_listEventsOfYear_15 : decode cX9_listEventsOfYear 15 = .ok (.getfield 15, 3) := by decide +kernel
theorem dX9_listEventsOfYear_18 : decode cX9_listEventsOfYear 18 = .ok (.iload 4, 2) := by decide +kernel
theorem dX9_listEventsOfYear_20 : decode cX9_listEventsOfYear 20 = .ok (.iaload, 1) := by decide +kernel
theorem dX9_listEventsOfYear_21 : decode cX9_listEventsOfYear 21 = .ok (.istore 5, 2) := by decide +kernel
theorem dX9_listEventsOfYear_23 : decode cX9_listEventsOfYear 23 = .ok (.iload 5, 2) := by decide +kernel
theorem dX9_listEventsOfYear_25 : decode cX9_listEventsOfYear 25 = .ok (.iload_n 1, 1) := by decide +kernel
theorem dX9_listEventsOfYear_26 : decode cX9_listEventsOfYear 26 = .ok (.invokestatic 51, 3) := by decide +kernel
theorem dX9_listEventsOfYear_29 : decode cX9_listEventsOfYear 29 = .ok (.if_icmp .lt 18, 3) := by decide +kernel
theorem dX9_listEventsOfYear_32 : decode cX9_listEventsOfYear 32 = .ok (.iload 5, 2) := by decide +kernel
theorem dX9_listEventsOfYear_34 : decode cX9_listEventsOfYear 34 = .ok (.iload_n 1, 1) := by decide +kernel
theorem dX9_listEventsOfYear_35 : decode cX9_listEventsOfYear 35 = .ok (.iconst 1, 1) := by decide +kernel
theorem dX9_listEventsOfYear_36 : decode cX9_listEventsOfYear 36 = .ok (.iadd, 1) := by decide +kernel
theorem dX9_listEventsOfYear_37 : decode cX9_listEventsOfYear 37 = .ok (.invokestatic 51, 3) := by decide +kernel
theorem dX9_listEventsOfYear_40 : decode cX9_listEventsOfYear 40 = .ok (.if_icmp .ge 7, 3) := by decide +kernel
theorem dX9_listEventsOfYear_43 : decode cX9_listEventsOfYear 43 = .ok (.iconst 1, 1) := by decide +kernel
theorem dX9_listEventsOfYear_44 : decode cX9_listEventsOfYear 44 = .ok (.goto 4, 3) := by decide +kernel
theorem dX9_listEventsOfYear_47 : decode cX9_listEventsOfYear 47 = .ok (.iconst 0, 1) := by decide +kernel
theorem dX9_listEventsOfYear_48 : decode cX9_listEventsOfYear 48 = .ok (.istore 6, 2) := by decide +kernel
theorem dX9_listEventsOfYear_50 : decode cX9_listEventsOfYear 50 = .ok (.aload_n 0, 1) := by decide +kernel
theorem dX9_listEventsOfYear_51 : decode cX9_listEventsOfYear 51 = .ok (.aload_n 2, 1) := by decide +kernel
theorem dX9_listEventsOfYear_52 : decode cX9_listEventsOfYear 52 = .ok (.iload_n 3, 1) := by decide +kernel
theorem dX9_listEventsOfYear_53 : decode cX9_listEventsOfYear 53 = .ok (.iload 6, 2) := by decide +kernel
theorem dX9_listEventsOfYear_55 : decode cX9_listEventsOfYear 55 = .ok (.ifCond .eq 8, 3) := by decide +kernel
theorem dX9_listEventsOfYear_58 : decode cX9_listEventsOfYear 58 = .ok (.iload 5, 2) := by decide +kernel
theorem dX9_listEventsOfYear_60 : decode cX9_listEventsOfYear 60 = .ok (.goto 4, 3) := by decide +kernel
theorem dX9_listEventsOfYear_63 : decode cX9_listEventsOfYear 63 = .ok (.iconst (-1), 1) := by decide +kernel
theorem dX9_listEventsOfYear_64 : decode cX9_listEventsOfYear 64 = .ok (.iload 4, 2) := by decide +kernel
theorem dX9_listEventsOfYear_66 : decode cX9_listEventsOfYear 66 = .ok (.invokevirtual 43, 3) := by decide +kernel
theorem dX9_listEventsOfYear_69 : decode cX9_listEventsOfYear 69 = .ok (.istore_n 3, 1) := by decide +kernel
theorem dX9_listEventsOfYear_70 : decode cX9_listEventsOfYear 70 = .ok (.iinc 4 1, 3) := by decide +kernel
theorem dX9_listEventsOfYear_73 : decode cX9_listEventsOfYear 73 = .ok (.goto (-68), 3) := by decide +kernel
theorem dX9_listEventsOfYear_76 : decode cX9_listEventsOfYear 76 = .ok (.iconst 0, 1) := by decide +kernel
theorem dX9_listEventsOfYear_77 : decode cX9_listEventsOfYear 77 = .ok (.istore 4, 2) := by decide +kernel
theorem dX9_listEventsOfYear_79 : decode cX9_listEventsOfYear 79 = .ok (.iload 4, 2) := by decide +kernel
theorem dX9_listEventsOfYear_81 : decode cX9_listEventsOfYear 81 = .ok (.aload_n 0, 1) := by decide +kernel
theorem dX9_listEventsOfYear_82 : decode cX9_listEventsOfYear 82 = .ok (.getfield 25, 3) := by decide +kernel
theorem dX9_listEventsOfYear_85 : decode cX9_listEventsOfYear 85 = .ok (.if_icmp .ge 27, 3) := by decide +kernel
theorem dX9_listEventsOfYear_88 : decode cX9_listEventsOfYear 88 = .ok (.aload_n 0, 1) := by decide +kernel
theorem dX9_listEventsOfYear_89 : decode cX9_listEventsOfYear 89 = .ok (.aload_n 2, 1) := by decide +kernel
theorem dX9_listEventsOfYear_90 : decode cX9_listEventsOfYear 90 = .ok (.iload_n 3, 1) := by decide +kernel
theorem dX9_listEventsOfYear_91 : decode cX9_listEventsOfYear 91 = .ok (.aload_n 0, 1) := by decide +kernel
theorem dX9_listEventsOfYear_92 : decode cX9_listEventsOfYear 92 = .ok (.iload 4, 2) := by decide +kernel
theorem dX9_listEventsOfYear_94 : decode cX9_listEventsOfYear 94 = .ok (.iload_n 1, 1) := by decide +kernel
theorem dX9_listEventsOfYear_95 : decode cX9_listEventsOfYear 95 = .ok (.invokevirtual 55, 3) := by decide +kernel
theorem dX9_listEventsOfYear_98 : decode cX9_listEventsOfYear 98 = .ok (.iconst 4, 1) := by decide +kernel
theorem dX9_listEventsOfYear_99 : decode cX9_listEventsOfYear 99 = .ok (.iload 4, 2) := by decide +kernel
theorem dX9_listEventsOfYear_101 : decode cX9_listEventsOfYear 101 = .ok (.iadd, 1) := by decide +kernel
theorem dX9_listEventsOfYear_102 : decode cX9_listEventsOfYear 102 = .ok (.invokevirtual 43, 3) := by decide +kernel
theorem dX9_listEventsOfYear_105 : decode cX9_listEventsOfYear 105 = .ok (.istore_n 3, 1) := by decide +kernel
theorem dX9_listEventsOfYear_106 : decode cX9_listEventsOfYear 106 = .ok (.iinc 4 1, 3) := by decide +kernel
theorem dX9_listEventsOfYear_109 : decode cX9_listEventsOfYear 109 = .ok (.goto (-30), 3) := by decide +kernel
theorem dX9_listEventsOfYear_112 : decode cX9_listEventsOfYear 112 = .ok (.iload_n 3, 1) := by decide +kernel
theorem dX9_listEventsOfYear_113 : decode cX9_listEventsOfYear 113 = .ok (.ireturn, 1) := by decide +kernel
theorem dX9_putKey_0 : decode cX9_putKey 0 = .ok (.iload_n 3, 1) := by decide +kernel
theorem dX9_putKey_1 : decode cX9_putKey 1 = .ok (.ifCond .lt 9, 3) := by decide +kernel
theorem dX9_putKey_4 : decode cX9_putKey 4 = .ok (.iload_n 2, 1) := by decide +kernel
theorem dX9_putKey_5 : decode cX9_putKey 5 = .ok (.aload_n 1, 1) := by decide +kernel
theorem dX9_putKey_6 : decode cX9_putKey 6 = .ok (.arraylength, 1) := by decide +kernel
theorem dX9_putKey_7 : decode cX9_putKey 7 = .ok (.if_icmp .lt 5, 3) := by decide +kernel
theorem dX9_putKey_10 : decode cX9_putKey 10 = .ok (.iload_n 2, 1) := by decide +kernel
theorem dX9_putKey_11 : decode cX9_putKey 11 = .ok (.ireturn, 1) := by decide +kernel
theorem dX9_putKey_12 : decode cX9_putKey 12 = .ok (.iload 4, 2) := by decide +kernel
theorem dX9_putKey_14 : decode cX9_putKey 14 = .ok (.iconst 4, 1) := by decide +kernel
theorem dX9_putKey_15 : decode cX9_putKey 15 = .ok (.if_icmp .ge 7, 3) := by decide +kernel
theorem dX9_putKey_18 : decode cX9_putKey 18 = .ok (.iconst 0, 1) := by decide +kernel
theorem dX9_putKey_19 : decode cX9_putKey 19 = .ok (.goto 12, 3) := by decide +kernel
theorem dX9_putKey_22 : decode cX9_putKey 22 = .ok (.aload_n 0, 1) := by decide +kernel
theorem dX9_putKey_23 : decode cX9_putKey 23 = .ok (.iload 4, 2) := by decide +kernel
theorem dX9_putKey_25 : decode cX9_putKey 25 = .ok (.iconst 4, 1) := by decide +kernel
theorem dX9_putKey_26 : decode cX9_putKey 26 = .ok (.isub, 1) := by decide +kernel
theorem dX9_putKey_27 : decode cX9_putKey 27 = .ok (.iconst 4, 1) := by decide +kernel
theorem dX9_putKey_28 : decode cX9_putKey 28 = .ok (.invokevirtual 47, 3) := by decide +kernel
theorem dX9_putKey_31 : decode cX9_putKey 31 = .ok (.istore 5, 2) := by decide +kernel
theorem dX9_putKey_33 : decode cX9_putKey 33 = .ok (.aload_n 1, 1) := by decide +kernel
theorem dX9_putKey_34 : decode cX9_putKey 34 = .ok (.iload_n 2, 1) := by decide +kernel
theorem dX9_putKey_35 : decode cX9_putKey 35 = .ok (.sipush 1440, 3) := by decide +kernel
theorem dX9_putKey_38 : decode cX9_putKey 38 = .ok (.iload_n 3, 1) := by decide +kernel
theorem dX9_putKey_39 : decode cX9_putKey 39 = .ok (.imul, 1) := by decide +kernel
theorem dX9_putKey_40 : decode cX9_putKey 40 = .ok (.iload 5, 2) := by decide +kernel
theorem dX9_putKey_42 : decode cX9_putKey 42 = .ok (.iadd, 1) := by decide +kernel
theorem dX9_putKey_43 : decode cX9_putKey 43 = .ok (.i2l, 1) := by decide +kernel
theorem dX9_putKey_44 : decode cX9_putKey 44 = .ok (.ldc2_w 58, 3) := by decide +kernel
theorem dX9_putKey_47 : decode cX9_putKey 47 = .ok (.lmul, 1) := by decide +kernel
theorem dX9_putKey_48 : decode cX9_putKey 48 = .ok (.iload 4, 2) := by decide +kernel
theorem dX9_putKey_50 : decode cX9_putKey 50 = .ok (.i2l, 1) := by decide +kernel
theorem dX9_putKey_51 : decode cX9_putKey 51 = .ok (.ladd, 1) := by decide +kernel
theorem dX9_putKey_52 : decode cX9_putKey 52 = .ok (.lastore, 1) := by decide +kernel
theorem dX9_putKey_53 : decode cX9_putKey 53 = .ok (.iload_n 2, 1) := by decide +kernel
theorem dX9_putKey_54 : decode cX9_putKey 54 = .ok (.iconst 1, 1) := by decide +kernel
theorem dX9_putKey_55 : decode cX9_putKey 55 = .ok (.iadd, 1) := by decide +kernel
theorem dX9_putKey_56 : decode cX9_putKey 56 = .ok (.ireturn, 1) := by decide +kernel
theorem dX10_init_0 : decode cX10_init 0 = .ok (.aload_n 0, 1) := by decide +kernel
theorem dX10_init_1 : decode cX10_init 1 = .ok (.invokespecial 3, 3) := by decide +kernel
theorem dX10_init_4 : decode cX10_init 4 = .ok (.aload_n 0, 1) := by decide +kernel
theorem dX10_init_5 : decode cX10_init 5 = .ok (.new 9, 3) := by decide +kernel
theorem dX10_init_8 : decode cX10_init 8 = .ok (.dup, 1) := by decide +kernel
theorem dX10_init_9 : decode cX10_init 9 = .ok (.invokespecial 11, 3) := by decide +kernel
theorem dX10_init_12 : decode cX10_init 12 = .ok (.putfield 12, 3) := by decide +kernel
theorem dX10_init_15 : decode cX10_init 15 = .ok (.aload_n 0, 1) := by decide +kernel
theorem dX10_init_16 : decode cX10_init 16 = .ok (.new 16, 3) := by decide +kernel
theorem dX10_init_19 : decode cX10_init 19 = .ok (.dup, 1) := by decide +kernel
theorem dX10_init_20 : decode cX10_init 20 = .ok (.invokespecial 18, 3) := by decide +kernel
theorem dX10_init_23 : decode cX10_init 23 = .ok (.putfield 19, 3) := by decide +kernel
theorem dX10_init_26 : decode cX10_init 26 = .ok (.aload_n 0, 1) := by decide +kernel
theorem dX10_init_27 : decode cX10_init 27 = .ok (.bipush 6, 2) := by decide +kernel
theorem dX10_init_29 : decode cX10_init 29 = .ok (.anewarray 23, 3) := by decide +kernel
theorem dX10_init_32 : decode cX10_init 32 = .ok (.putfield 25, 3) := by decide +kernel
theorem dX10_init_35 : decode cX10_init 35 = .ok (.iconst 0, 1) := by decide +kernel
theorem dX10_init_36 : decode cX10_init 36 = .ok (.istore_n 1, 1) := by decide +kernel
theorem dX10_init_37 : decode cX10_init 37 = .ok (.iload_n 1, 1) := by decide +kernel
theorem dX10_init_38 : decode cX10_init 38 = .ok (.bipush 6, 2) := by decide +kernel
theorem dX10_init_40 : decode cX10_init 40 = .ok (.if_icmp .ge 22, 3) := by decide +kernel
theorem dX10_init_43 : decode cX10_init 43 = .ok (.aload_n 0, 1) := by decide +kernel
theorem dX10_init_44 : decode cX10_init 44 = .ok (.getfield 25, 3) := by decide +kernel
theorem dX10_init_47 : decode cX10_init 47 = .ok (.iload_n 1, 1) := by decide +kernel
theorem dX10_init_48 : decode cX10_init 48 = .ok (.new 23, 3) := by decide +kernel
theorem dX10_init_51 : decode cX10_init 51 = .ok (.dup, 1) := by decide +kernel
theorem dX10_init_52 : decode cX10_init 52 = .ok (.invokespecial 29, 3) := by decide +kernel
theorem dX10_init_55 : decode cX10_init 55 = .ok (.aastore, 1) := by decide +kernel
theorem dX10_init_56 : decode cX10_init 56 = .ok (.iinc 1 1, 3) := by decide +kernel
theorem dX10_init_59 : decode cX10_init 59 = .ok (.goto (-22), 3) := by decide +kernel
theorem dX10_init_62 : decode cX10_init 62 = .ok (.aload_n 0, 1) := by decide +kernel
theorem dX10_init_63 : decode cX10_init 63 = .ok (.bipush 10, 2) := by decide +kernel
theorem dX10_init_65 : decode cX10_init 65 = .ok (.anewarray 30, 3) := by decide +kernel
theorem dX10_init_68 : decode cX10_init 68 = .ok (.putfield 32, 3) := by decide +kernel
theorem dX10_init_71 : decode cX10_init 71 = .ok (.iconst 0, 1) := by decide +kernel
theorem dX10_init_72 : decode cX10_init 72 = .ok (.istore_n 1, 1) := by decide +kernel
theorem dX10_init_73 : decode cX10_init 73 = .ok (.iload_n 1, 1) := by decide +kernel
theorem dX10_init_74 : decode cX10_init 74 = .ok (.bipush 10, 2) := by decide +kernel
theorem dX10_init_76 : decode cX10_init 76 = .ok (.if_icmp .ge 22, 3) := by decide +kernel
theorem dX10_init_79 : decode cX10_init 79 = .ok (.aload_n 0, 1) := by decide +kernel
theorem dX10_init_80 : decode cX10_init 80 = .ok (.getfield 32, 3) := by decide +kernel
theorem dX10_init_83 : decode cX10_init 83 = .ok (.iload_n 1, 1) := by decide +kernel
theorem dX10_init_84 : decode cX10_init 84 = .ok (.new 30, 3) := by decide +kernel
theorem dX10_init_87 : decode cX10_init 87 = .ok (.dup, 1) := by decide +kernel
theorem dX10_init_88 : decode cX10_init 88 = .ok (.invokespecial 36, 3) := by decide +kernel
theorem dX10_init_91 : decode cX10_init 91 = .ok (.aastore, 1) := by decide +kernel
theorem dX10_init_92 : decode cX10_init 92 = .ok (.iinc 1 1, 3) := by decide +kernel
theorem dX10_init_95 : decode cX10_init 95 = .ok (.goto (-22), 3) := by decide +kernel
theorem dX10_init_98 : decode cX10_init 98 = .ok (.aload_n 0, 1) := by decide +kernel
theorem dX10_init_99 : decode cX10_init 99 = .ok (.new 37, 3) := by decide +kernel
theorem dX10_init_102 : decode cX10_init 102 = .ok (.dup, 1) := by decide +kernel
theorem dX10_init_103 : decode cX10_init 103 = .ok (.invokespecial 39, 3) := by decide +kernel
theorem dX10_init_106 : decode cX10_init 106 = .ok (.putfield 40, 3) := by decide +kernel
theorem dX10_init_109 : decode cX10_init 109 = .ok (.aload_n 0, 1) := by decide +kernel
theorem dX10_init_110 : decode cX10_init 110 = .ok (.new 44, 3) := by decide +kernel
theorem dX10_init_113 : decode cX10_init 113 = .ok (.dup, 1) := by decide +kernel
theorem dX10_init_114 : decode cX10_init 114 = .ok (.invokespecial 46, 3) := by decide +kernel
theorem dX10_init_117 : decode cX10_init 117 = .ok (.putfield 47, 3) := by decide +kernel
theorem dX10_init_120 : decode cX10_init 120 = .ok (.aload_n 0, 1) := by decide +kernel
theorem dX10_init_121 : decode cX10_init 121 = .ok (.new 51, 3) := by decide +kernel
theorem dX10_init_124 : decode cX10_init 124 = .ok (.dup, 1) := by decide +kernel
theorem dX10_init_125 : decode cX10_init 125 = .ok (.invokespecial 53, 3) := by decide +kernel
theorem dX10_init_128 : decode cX10_init 128 = .ok (.putfield 54, 3) := by decide +kernel
theorem dX10_init_131 : decode cX10_init 131 = .ok (.aload_n 0, 1) := by decide +kernel
theorem dX10_init_132 : decode cX10_init 132 = .ok (.sipush 260, 3) := by decide +kernel
theorem dX10_init_135 : decode cX10_init 135 = .ok (.newarray .long, 2) := by decide +kernel
theorem dX10_init_137 : decode cX10_init 137 = .ok (.putfield 58, 3) := by decide +kernel
theorem dX10_init_140 : decode cX10_init 140 = .ok (.aload_n 0, 1) := by decide +kernel
theorem dX10_init_141 : decode cX10_init 141 = .ok (.sipush 400, 3) := by decide +kernel
theorem dX10_init_144 : decode cX10_init 144 = .ok (.newarray .long, 2) := by decide +kernel
theorem dX10_init_146 : decode cX10_init 146 = .ok (.putfield 62, 3) := by decide +kernel
theorem dX10_init_149 : decode cX10_init 149 = .ok (.return_, 1) := by decide +kernel
theorem dX10_day_0 : decode cX10_day 0 = .ok (.iload_n 1, 1) := by decide +kernel
theorem dX10_day_1 : decode cX10_day 1 = .ok (.invokestatic 65, 3) := by decide +kernel
theorem dX10_day_4 : decode cX10_day 4 = .ok (.ifCond .eq 14, 3) := by decide +kernel
theorem dX10_day_7 : decode cX10_day 7 = .ok (.iload_n 2, 1) := by decide +kernel
theorem dX10_day_8 : decode cX10_day 8 = .ok (.invokestatic 69, 3) := by decide +kernel
theorem dX10_day_11 : decode cX10_day 11 = .ok (.ifCond .eq 7, 3) := by decide +kernel
theorem dX10_day_14 : decode cX10_day 14 = .ok (.iconst 1, 1) := by decide +kernel
theorem dX10_day_15 : decode cX10_day 15 = .ok (.goto 4, 3) := by decide +kernel
theorem dX10_day_18 : decode cX10_day 18 = .ok (.iconst 0, 1) := by decide +kernel
theorem dX10_day_19 : decode cX10_day 19 = .ok (.invokestatic 72, 3) := by decide +kernel
theorem dX10_day_22 : decode cX10_day 22 = .ok (.iload_n 3, 1) := by decide +kernel
theorem dX10_day_23 : decode cX10_day 23 = .ok (.iconst 1, 1) := by decide +kernel
theorem dX10_day_24 : decode cX10_day 24 = .ok (.if_icmp .lt 16, 3) := by decide +kernel
theorem dX10_day_27 : decode cX10_day 27 = .ok (.iload_n 3, 1) := by decide +kernel
theorem dX10_day_28 : decode cX10_day 28 = .ok (.iload_n 1, 1) := by decide +kernel
theorem dX10_day_29 : decode cX10_day 29 = .ok (.iload_n 2, 1) := by decide +kernel
theorem dX10_day_30 : decode cX10_day 30 = .ok (.invokestatic 76, 3) := by decide +kernel
theorem dX10_day_33 : decode cX10_day 33 = .ok (.if_icmp .gt 7, 3) := by decide +kernel
theorem dX10_day_36 : decode cX10_day 36 = .ok (.iconst 1, 1) := by decide +kernel
theorem dX10_day_37 : decode cX10_day 37 = .ok (.goto 4, 3) := by decide +kernel
theorem dX10_day_40 : decode cX10_day 40 = .ok (.iconst 0, 1) := by decide +kernel
theorem dX10_day_41 : decode cX10_day 41 = .ok (.invokestatic 72, 3) := by decide +kernel
theorem dX10_day_44 : decode cX10_day 44 = .ok (.iload_n 1, 1) := by decide +kernel
theorem dX10_day_45 : decode cX10_day 45 = .ok (.iload_n 2, 1) := by decide +kernel
theorem dX10_day_46 : decode cX10_day 46 = .ok (.invokestatic 82, 3) := by decide +kernel
theorem dX10_day_49 : decode cX10_day 49 = .ok (.iload_n 3, 1) := by decide +kernel
theorem dX10_day_50 : decode cX10_day 50 = .ok (.iadd, 1) := by decide +kernel
theorem dX10_day_51 : decode cX10_day 51 = .ok (.iconst 1, 1) := by decide +kernel
theorem dX10_day_52 : decode cX10_day 52 = .ok (.isub, 1) := by decide +kernel
theorem dX10_day_53 : decode cX10_day 53 = .ok (.ireturn, 1) := by decide +kernel
theorem dX10_date_0 : decode cX10_date 0 = .ok (.iload_n 1, 1) := by decide +kernel
theorem dX10_date_1 : decode cX10_date 1 = .ok (.invokestatic 85, 3) := by decide +kernel
theorem dX10_date_4 : decode cX10_date 4 = .ok (.invokestatic 88, 3) := by decide +kernel
theorem dX10_date_7 : decode cX10_date 7 = .ok (.iload_n 2, 1) := by decide +kernel
theorem dX10_date_8 : decode cX10_date 8 = .ok (.ifCond .lt 12, 3) := by decide +kernel
theorem dX10_date_11 : decode cX10_date 11 = .ok (.iload_n 2, 1) := by decide +kernel
theorem dX10_date_12 : decode cX10_date 12 = .ok (.iconst 5, 1) := by decide +kernel
theorem dX10_date_13 : decode cX10_date 13 = .ok (.if_icmp .gt 7, 3) := by decide +kernel
theorem dX10_date_16 : decode cX10_date 16 = .ok (.iconst 1, 1) := by decide +kernel
theorem dX10_date_17 : decode cX10_date 17 = .ok (.goto 4, 3) := by decide +kernel
theorem dX10_date_20 : decode cX10_date 20 = .ok (.iconst 0, 1) := by decide +kernel
theorem dX10_date_21 : decode cX10_date 21 = .ok (.invokestatic 72, 3) := by decide +kernel
theorem dX10_date_24 : decode cX10_date 24 = .ok (.iload_n 1, 1) := by decide +kernel
theorem dX10_date_25 : decode cX10_date 25 = .ok (.invokestatic 91, 3) := by decide +kernel
theorem dX10_date_28 : decode cX10_date 28 = .ok (.istore_n 3, 1) := by decide +kernel
theorem dX10_date_29 : decode cX10_date 29 = .ok (.iload_n 3, 1) := by decide +kernel
theorem dX10_date_30 : decode cX10_date 30 = .ok (.iload_n 1, 1) := by decide +kernel
theorem dX10_date_31 : decode cX10_date 31 = .ok (.invokestatic 95, 3) := by decide +kernel
theorem dX10_date_34 : decode cX10_date 34 = .ok (.istore 4, 2) := by decide +kernel
theorem dX10_date_36 : decode cX10_date 36 = .ok (.iload_n 1, 1) := by decide +kernel
theorem dX10_date_37 : decode cX10_date 37 = .ok (.iload_n 3, 1) := by decide +kernel
theorem dX10_date_38 : decode cX10_date 38 = .ok (.iload 4, 2) := by decide +kernel
theorem dX10_date_40 : decode cX10_date 40 = .ok (.invokestatic 82, 3) := by decide +kernel
theorem dX10_date_43 : decode cX10_date 43 = .ok (.isub, 1) := by decide +kernel
theorem dX10_date_44 : decode cX10_date 44 = .ok (.iconst 1, 1) := by decide +kernel
theorem dX10_date_45 : decode cX10_date 45 = .ok (.iadd, 1) := by decide +kernel
theorem dX10_date_46 : decode cX10_date 46 = .ok (.istore 5, 2) := by decide +kernel
theorem dX10_date_48 : decode cX10_date 48 = .ok (.iload_n 2, 1) := by decide +kernel
theorem dX10_date_49 : decode cX10_date 49 = .ok (.tableswitch 57 0 4 #[35, 37, 40, 43, 48], 35) := by decide +kernel
theorem dX10_date_84 : decode cX10_date 84 = .ok (.iload_n 3, 1) := by decide +kernel
theorem dX10_date_85 : decode cX10_date 85 = .ok (.ireturn, 1) := by decide +kernel
theorem dX10_date_86 : decode cX10_date 86 = .ok (.iload 4, 2) := by decide +kernel
theorem dX10_date_88 : decode cX10_date 88 = .ok (.ireturn, 1) := by decide +kernel
theorem dX10_date_89 : decode cX10_date 89 = .ok (.iload 5, 2) := by decide +kernel
theorem dX10_date_91 : decode cX10_date 91 = .ok (.ireturn, 1) := by decide +kernel
theorem dX10_date_92 : decode cX10_date 92 = .ok (.iload_n 1, 1) := by decide +kernel
theorem dX10_date_93 : decode cX10_date 93 = .ok (.invokestatic 98, 3) := by decide +kernel
theorem dX10_date_96 : decode cX10_date 96 = .ok (.ireturn, 1) := by decide +kernel
theorem dX10_date_97 : decode cX10_date 97 = .ok (.iload_n 1, 1) := by decide +kernel
theorem dX10_date_98 : decode cX10_date 98 = .ok (.iload_n 3, 1) := by decide +kernel
theorem dX10_date_99 : decode cX10_date 99 = .ok (.invokestatic 101, 3) := by decide +kernel
theorem dX10_date_102 : decode cX10_date 102 = .ok (.isub, 1) := by decide +kernel
theorem dX10_date_103 : decode cX10_date 103 = .ok (.iconst 1, 1) := by decide +kernel
theorem dX10_date_104 : decode cX10_date 104 = .ok (.iadd, 1) := by decide +kernel
theorem dX10_date_105 : decode cX10_date 105 = .ok (.ireturn, 1) := by decide +kernel
theorem dX10_date_106 : decode cX10_date 106 = .ok (.iload 5, 2) := by decide +kernel
theorem dX10_date_108 : decode cX10_date 108 = .ok (.iconst 1, 1) := by decide +kernel
theorem dX10_date_109 : decode cX10_date 109 = .ok (.isub, 1) := by decide +kernel
theorem dX10_date_110 : decode cX10_date 110 = .ok (.bipush 7, 2) := by decide +kernel
theorem dX10_date_112 : decode cX10_date 112 = .ok (.idiv, 1) := by decide +kernel
theorem dX10_date_113 : decode cX10_date 113 = .ok (.iconst 1, 1) := by decide +kernel
theorem dX10_date_114 : decode cX10_date 114 = .ok (.iadd, 1) := by decide +kernel
theorem dX10_date_115 : decode cX10_date 115 = .ok (.ireturn, 1) := by decide +kernel
theorem dX10_addZone_0 : decode cX10_addZone 0 = .ok (.aload_n 0, 1) := by decide +kernel
theorem dX10_addZone_1 : decode cX10_addZone 1 = .ok (.iload_n 1, 1) := by decide +kernel
theorem dX10_addZone_2 : decode cX10_addZone 2 = .ok (.invokevirtual 104, 3) := by decide +kernel
theorem dX10_addZone_5 : decode cX10_addZone 5 = .ok (.invokestatic 107, 3) := by decide +kernel
theorem dX10_addZone_8 : decode cX10_addZone 8 = .ok (.aload_n 0, 1) := by decide +kernel
theorem dX10_addZone_9 : decode cX10_addZone 9 = .ok (.invokevirtual 111, 3) := by decide +kernel
theorem dX10_addZone_12 : decode cX10_addZone 12 = .ok (.aload_n 0, 1) := by decide +kernel
theorem dX10_addZone_13 : decode cX10_addZone 13 = .ok (.iload_n 1, 1) := by decide +kernel
theorem dX10_addZone_14 : decode cX10_addZone 14 = .ok (.invokevirtual 114, 3) := by decide +kernel
theorem dX10_addZone_17 : decode cX10_addZone 17 = .ok (.ireturn, 1) := by decide +kernel
theorem dX10_changeBase_0 : decode cX10_changeBase 0 = .ok (.aload_n 0, 1) := by decide +kernel
theorem dX10_changeBase_1 : decode cX10_changeBase 1 = .ok (.iload_n 1, 1) := by decide +kernel
theorem dX10_changeBase_2 : decode cX10_changeBase 2 = .ok (.iload_n 2, 1) := by decide +kernel
theorem dX10_changeBase_3 : decode cX10_changeBase 3 = .ok (.iload_n 3, 1) := by decide +kernel
theorem dX10_changeBase_4 : decode cX10_changeBase 4 = .ok (.invokevirtual 117, 3) := by decide +kernel
theorem dX10_changeBase_7 : decode cX10_changeBase 7 = .ok (.invokestatic 107, 3) := by decide +kernel
theorem dX10_changeBase_10 : decode cX10_changeBase 10 = .ok (.aload_n 0, 1) := by decide +kernel
theorem dX10_changeBase_11 : decode cX10_changeBase 11 = .ok (.invokevirtual 111, 3) := by decide +kernel
theorem dX10_changeBase_14 : decode cX10_changeBase 14 = .ok (.aload_n 0, 1) := by decide +kernel
theorem dX10_changeBase_15 : decode cX10_changeBase 15 = .ok (.iload_n 1, 1) := by decide +kernel
theorem dX10_changeBase_16 : decode cX10_changeBase 16 = .ok (.iload_n 2, 1) := by decide +kernel
theorem dX10_changeBase_17 : decode cX10_changeBase 17 = .ok (.iload_n 3, 1) := by decide +kernel
theorem dX10_changeBase_18 : decode cX10_changeBase 18 = .ok (.invokevirtual 121, 3) := by decide +kernel
theorem dX10_changeBase_21 : decode cX10_changeBase 21 = .ok (.ireturn, 1) := by decide +kernel
theorem dX10_addRule_0 : decode cX10_addRule 0 = .ok (.aload_n 0, 1) := by decide +kernel
theorem dX10_addRule_1 : decode cX10_addRule 1 = .ok (.iload_n 1, 1) := by decide +kernel
theorem dX10_addRule_2 : decode cX10_addRule 2 = .ok (.iload_n 2, 1) := by decide +kernel
theorem dX10_addRule_3 : decode cX10_addRule 3 = .ok (.iload_n 3, 1) := by decide +kernel
theorem dX10_addRule_4 : decode cX10_addRule 4 = .ok (.iload 4, 2) := by decide +kernel
theorem dX10_addRule_6 : decode cX10_addRule 6 = .ok (.iload 5, 2) := by decide +kernel
theorem dX10_addRule_8 : decode cX10_addRule 8 = .ok (.iload 6, 2) := by decide +kernel
theorem dX10_addRule_10 : decode cX10_addRule 10 = .ok (.invokevirtual 124, 3) := by decide +kernel
theorem dX10_addRule_13 : decode cX10_addRule 13 = .ok (.invokestatic 107, 3) := by decide +kernel
theorem dX10_addRule_16 : decode cX10_addRule 16 = .ok (.aload_n 0, 1) := by decide +kernel
theorem dX10_addRule_17 : decode cX10_addRule 17 = .ok (.invokevirtual 111, 3) := by decide +kernel
theorem dX10_addRule_20 : decode cX10_addRule 20 = .ok (.aload_n 0, 1) := by decide +kernel
theorem dX10_addRule_21 : decode cX10_addRule 21 = .ok (.iload_n 1, 1) := by decide +kernel
theorem dX10_addRule_22 : decode cX10_addRule 22 = .ok (.iload_n 2, 1) := by decide +kernel
theorem dX10_addRule_23 : decode cX10_addRule 23 = .ok (.iload_n 3, 1) := by decide +kernel
theorem dX10_addRule_24 : decode cX10_addRule 24 = .ok (.iload 4, 2) := by decide +kernel
theorem dX10_addRule_26 : decode cX10_addRule 26 = .ok (.iload 5, 2) := by decide +kernel
theorem dX10_addRule_28 : decode cX10_addRule 28 = .ok (.iload 6, 2) := by decide +kernel
theorem dX10_addRule_30 : decode cX10_addRule 30 = .ok (.invokevirtual 128, 3) := by decide +kernel
theorem dX10_addRule_33 : decode cX10_addRule 33 = .ok (.ireturn, 1) := by decide +kernel
theorem dX10_dropRule_0 : decode cX10_dropRule 0 = .ok (.aload_n 0, 1) := by decide +kernel
theorem dX10_dropRule_1 : decode cX10_dropRule 1 = .ok (.iload_n 1, 1) := by decide +kernel
theorem dX10_dropRule_2 : decode cX10_dropRule 2 = .ok (.iload_n 2, 1) := by decide +kernel
theorem dX10_dropRule_3 : decode cX10_dropRule 3 = .ok (.invokevirtual 131, 3) := by decide +kernel
theorem dX10_dropRule_6 : decode cX10_dropRule 6 = .ok (.invokestatic 107, 3) := by decide +kernel
theorem dX10_dropRule_9 : decode cX10_dropRule 9 = .ok (.aload_n 0, 1) := by decide +kernel
theorem dX10_dropRule_10 : decode cX10_dropRule 10 = .ok (.invokevirtual 111, 3) := by decide +kernel
theorem dX10_dropRule_13 : decode cX10_dropRule 13 = .ok (.aload_n 0, 1) := by decide +kernel
theorem dX10_dropRule_14 : decode cX10_dropRule 14 = .ok (.iload_n 1, 1) := by decide +kernel
theorem dX10_dropRule_15 : decode cX10_dropRule 15 = .ok (.iload_n 2, 1) := by decide +kernel
theorem dX10_dropRule_16 : decode cX10_dropRule 16 = .ok (.invokevirtual 134, 3) := by decide +kernel
theorem dX10_dropRule_19 : decode cX10_dropRule 19 = .ok (.ireturn, 1) := by decide +kernel
theorem dX10_zone_0 : decode cX10_zone 0 = .ok (.aload_n 0, 1) := by decide +kernel
theorem dX10_zone_1 : decode cX10_zone 1 = .ok (.iload_n 1, 1) := by decide +kernel
theorem dX10_zone_2 : decode cX10_zone 2 = .ok (.invokevirtual 137, 3) := by decide +kernel
theorem dX10_zone_5 : decode cX10_zone 5 = .ok (.iload_n 2, 1) := by decide +kernel
theorem dX10_zone_6 : decode cX10_zone 6 = .ok (.ifCond .lt 13, 3) := by decide +kernel
theorem dX10_zone_9 : decode cX10_zone 9 = .ok (.iload_n 2, 1) := by decide +kernel
theorem dX10_zone_10 : decode cX10_zone 10 = .ok (.bipush 8, 2) := by decide +kernel
theorem dX10_zone_12 : decode cX10_zone 12 = .ok (.if_icmp .gt 7, 3) := by decide +kernel
theorem dX10_zone_15 : decode cX10_zone 15 = .ok (.iconst 1, 1) := by decide +kernel
theorem dX10_zone_16 : decode cX10_zone 16 = .ok (.goto 4, 3) := by decide +kernel
theorem dX10_zone_19 : decode cX10_zone 19 = .ok (.iconst 0, 1) := by decide +kernel
theorem dX10_zone_20 : decode cX10_zone 20 = .ok (.invokestatic 72, 3) := by decide +kernel
theorem dX10_zone_23 : decode cX10_zone 23 = .ok (.aload_n 0, 1) := by decide +kernel
theorem dX10_zone_24 : decode cX10_zone 24 = .ok (.getfield 12, 3) := by decide +kernel
theorem dX10_zone_27 : decode cX10_zone 27 = .ok (.getfield 140, 3) := by decide +kernel
theorem dX10_zone_30 : decode cX10_zone 30 = .ok (.iload_n 1, 1) := by decide +kernel
theorem dX10_zone_31 : decode cX10_zone 31 = .ok (.aaload, 1) := by decide +kernel
theorem dX10_zone_32 : decode cX10_zone 32 = .ok (.astore_n 3, 1) := by decide +kernel
theorem dX10_zone_33 : decode cX10_zone 33 = .ok (.aload_n 0, 1) := by decide +kernel
theorem dX10_zone_34 : decode cX10_zone 34 = .ok (.iload_n 1, 1) := by decide +kernel
theorem dX10_zone_35 : decode cX10_zone 35 = .ok (.invokevirtual 144, 3) := by decide +kernel
theorem dX10_zone_38 : decode cX10_zone 38 = .ok (.astore 4, 2) := by decide +kernel
theorem dX10_zone_40 : decode cX10_zone 40 = .ok (.iload_n 2, 1) := by decide +kernel
theorem dX10_zone_41 : decode cX10_zone 41 = .ok (.tableswitch 97 0 7 #[47, 52, 57, 62, 68, 74, 80, 91], 47) := by decide +kernel
theorem dX10_zone_88 : decode cX10_zone 88 = .ok (.aload_n 3, 1) := by decide +kernel
theorem dX10_zone_89 : decode cX10_zone 89 = .ok (.getfield 148, 3) := by decide +kernel
theorem dX10_zone_92 : decode cX10_zone 92 = .ok (.ireturn, 1) := by decide +kernel
theorem dX10_zone_93 : decode cX10_zone 93 = .ok (.aload_n 3, 1) := by decide +kernel
theorem dX10_zone_94 : decode cX10_zone 94 = .ok (.getfield 154, 3) := by decide +kernel
theorem dX10_zone_97 : decode cX10_zone 97 = .ok (.ireturn, 1) := by decide +kernel
theorem dX10_zone_98 : decode cX10_zone 98 = .ok (.aload_n 3, 1) := by decide +kernel
theorem dX10_zone_99 : decode cX10_zone 99 = .ok (.getfield 157, 3) := by decide +kernel
theorem dX10_zone_102 : decode cX10_zone 102 = .ok (.ireturn, 1) := by decide +kernel
theorem dX10_zone_103 : decode cX10_zone 103 = .ok (.aload 4, 2) := by decide +kernel
theorem dX10_zone_105 : decode cX10_zone 105 = .ok (.getfield 160, 3) := by decide +kernel
theorem dX10_zone_108 : decode cX10_zone 108 = .ok (.ireturn, 1) := by decide +kernel
theorem dX10_zone_109 : decode cX10_zone 109 = .ok (.aload 4, 2) := by decide +kernel
theorem dX10_zone_111 : decode cX10_zone 111 = .ok (.getfield 163, 3) := by decide +kernel
theorem dX10_zone_114 : decode cX10_zone 114 = .ok (.ireturn, 1) := by decide +kernel
theorem dX10_zone_115 : decode cX10_zone 115 = .ok (.aload 4, 2) := by decide +kernel
theorem dX10_zone_117 : decode cX10_zone 117 = .ok (.getfield 166, 3) := by decide +kernel
theorem dX10_zone_120 : decode cX10_zone 120 = .ok (.ireturn, 1) := by decide +kernel
theorem dX10_zone_121 : decode cX10_zone 121 = .ok (.aload 4, 2) := by decide +kernel
theorem dX10_zone_123 : decode cX10_zone 123 = .ok (.aload 4, 2) := by decide +kernel
theorem dX10_zone_125 : decode cX10_zone 125 = .ok (.getfield 160, 3) := by decide +kernel
theorem dX10_zone_128 : decode cX10_zone 128 = .ok (.invokevirtual 169, 3) := by decide +kernel
theorem dX10_zone_131 : decode cX10_zone 131 = .ok (.ireturn, 1) := by decide +kernel
theorem dX10_zone_132 : decode cX10_zone 132 = .ok (.aload 4, 2) := by decide +kernel
theorem dX10_zone_134 : decode cX10_zone 134 = .ok (.getfield 172, 3) := by decide +kernel
theorem dX10_zone_137 : decode cX10_zone 137 = .ok (.ireturn, 1) := by decide +kernel
theorem dX10_zone_138 : decode cX10_zone 138 = .ok (.aload 4, 2) := by decide +kernel
theorem dX10_zone_140 : decode cX10_zone 140 = .ok (.getfield 175, 3) := by decide +kernel
theorem dX10_zone_143 : decode cX10_zone 143 = .ok (.ireturn, 1) := by decide +kernel
theorem dX10_rule_0 : decode cX10_rule 0 = .ok (.aload_n 0, 1) := by decide +kernel
theorem dX10_rule_1 : decode cX10_rule 1 = .ok (.iload_n 1, 1) := by decide +kernel
theorem dX10_rule_2 : decode cX10_rule 2 = .ok (.iload_n 2, 1) := by decide +kernel
theorem dX10_rule_3 : decode cX10_rule 3 = .ok (.invokevirtual 131, 3) := by decide +kernel
theorem dX10_rule_6 : decode cX10_rule 6 = .ok (.invokestatic 107, 3) := by decide +kernel
theorem dX10_rule_9 : decode cX10_rule 9 = .ok (.iload_n 3, 1) := by decide +kernel
theorem dX10_rule_10 : decode cX10_rule 10 = .ok (.ifCond .lt 13, 3) := by decide +kernel
theorem dX10_rule_13 : decode cX10_rule 13 = .ok (.iload_n 3, 1) := by decide +kernel
theorem dX10_rule_14 : decode cX10_rule 14 = .ok (.bipush 7, 2) := by decide +kernel
theorem dX10_rule_16 : decode cX10_rule 16 = .ok (.if_icmp .ge 7, 3) := by decide +kernel
theorem dX10_rule_19 : decode cX10_rule 19 = .ok (.iconst 1, 1) := by decide +kernel
theorem dX10_rule_20 : decode cX10_rule 20 = .ok (.goto 4, 3) := by decide +kernel
theorem dX10_rule_23 : decode cX10_rule 23 = .ok (.iconst 0, 1) := by decide +kernel
theorem dX10_rule_24 : decode cX10_rule 24 = .ok (.invokestatic 72, 3) := by decide +kernel
theorem dX10_rule_27 : decode cX10_rule 27 = .ok (.aload_n 0, 1) := by decide +kernel
theorem dX10_rule_28 : decode cX10_rule 28 = .ok (.getfield 12, 3) := by decide +kernel
theorem dX10_rule_31 : decode cX10_rule 31 = .ok (.getfield 140, 3) := by decide +kernel
theorem dX10_rule_34 : decode cX10_rule 34 = .ok (.iload_n 1, 1) := by decide +kernel
theorem dX10_rule_35 : decode cX10_rule 35 = .ok (.aaload, 1) := by decide +kernel
theorem dX10_rule_36 : decode cX10_rule 36 = .ok (.iload_n 2, 1) := by decide +kernel
theorem dX10_rule_37 : decode cX10_rule 37 = .ok (.iload_n 3, 1) := by decide +kernel
theorem dX10_rule_38 : decode cX10_rule 38 = .ok (.invokevirtual 178, 3) := by decide +kernel
theorem dX10_rule_41 : decode cX10_rule 41 = .ok (.ireturn, 1) := by decide +kernel
theorem dX10_eventDay_0 : decode cX10_eventDay 0 = .ok (.aload_n 0, 1) := by decide +kernel
theorem dX10_eventDay_1 : decode cX10_eventDay 1 = .ok (.iload_n 1, 1) := by decide +kernel
theorem dX10_eventDay_2 : decode cX10_eventDay 2 = .ok (.iload_n 2, 1) := by decide +kernel
theorem dX10_eventDay_3 : decode cX10_eventDay 3 = .ok (.invokevirtual 131, 3) := by decide +kernel
theorem dX10_eventDay_6 : decode cX10_eventDay 6 = .ok (.invokestatic 107, 3) := by decide +kernel
theorem dX10_eventDay_9 : decode cX10_eventDay 9 = .ok (.iload_n 3, 1) := by decide +kernel
theorem dX10_eventDay_10 : decode cX10_eventDay 10 = .ok (.invokestatic 65, 3) := by decide +kernel
theorem dX10_eventDay_13 : decode cX10_eventDay 13 = .ok (.invokestatic 72, 3) := by decide +kernel
theorem dX10_eventDay_16 : decode cX10_eventDay 16 = .ok (.aload_n 0, 1) := by decide +kernel
theorem dX10_eventDay_17 : decode cX10_eventDay 17 = .ok (.getfield 12, 3) := by decide +kernel
theorem dX10_eventDay_20 : decode cX10_eventDay 20 = .ok (.getfield 140, 3) := by decide +kernel
theorem dX10_eventDay_23 : decode cX10_eventDay 23 = .ok (.iload_n 1, 1) := by decide +kernel
theorem dX10_eventDay_24 : decode cX10_eventDay 24 = .ok (.aaload, 1) := by decide +kernel
theorem dX10_eventDay_25 : decode cX10_eventDay 25 = .ok (.iload_n 2, 1) := by decide +kernel
theorem dX10_eventDay_26 : decode cX10_eventDay 26 = .ok (.iload_n 3, 1) := by decide +kernel
theorem dX10_eventDay_27 : decode cX10_eventDay 27 = .ok (.invokevirtual 181, 3) := by decide +kernel
theorem dX10_eventDay_30 : decode cX10_eventDay 30 = .ok (.istore 4, 2) := by decide +kernel
theorem dX10_eventDay_32 : decode cX10_eventDay 32 = .ok (.iload 4, 2) := by decide +kernel
theorem dX10_eventDay_34 : decode cX10_eventDay 34 = .ok (.ifCond .lt 7, 3) := by decide +kernel
theorem dX10_eventDay_37 : decode cX10_eventDay 37 = .ok (.iconst 1, 1) := by decide +kernel
theorem dX10_eventDay_38 : decode cX10_eventDay 38 = .ok (.goto 4, 3) := by decide +kernel
theorem dX10_eventDay_41 : decode cX10_eventDay 41 = .ok (.iconst 0, 1) := by decide +kernel
theorem dX10_eventDay_42 : decode cX10_eventDay 42 = .ok (.invokestatic 184, 3) := by decide +kernel
theorem dX10_eventDay_45 : decode cX10_eventDay 45 = .ok (.iload 4, 2) := by decide +kernel
theorem dX10_eventDay_47 : decode cX10_eventDay 47 = .ok (.ireturn, 1) := by decide +kernel
theorem dX10_transition_0 : decode cX10_transition 0 = .ok (.aload_n 0, 1) := by decide +kernel
theorem dX10_transition_1 : decode cX10_transition 1 = .ok (.iload_n 1, 1) := by decide +kernel
theorem dX10_transition_2 : decode cX10_transition 2 = .ok (.invokevirtual 137, 3) := by decide +kernel
theorem dX10_transition_5 : decode cX10_transition 5 = .ok (.aload_n 0, 1) := by decide +kernel
theorem dX10_transition_6 : decode cX10_transition 6 = .ok (.iload_n 1, 1) := by decide +kernel
theorem dX10_transition_7 : decode cX10_transition 7 = .ok (.invokevirtual 144, 3) := by decide +kernel
theorem dX10_transition_10 : decode cX10_transition 10 = .ok (.astore 4, 2) := by decide +kernel
theorem dX10_transition_12 : decode cX10_transition 12 = .ok (.iload_n 2, 1) := by decide +kernel
theorem dX10_transition_13 : decode cX10_transition 13 = .ok (.ifCond .lt 16, 3) := by decide +kernel
theorem dX10_transition_16 : decode cX10_transition 16 = .ok (.iload_n 2, 1) := by decide +kernel
theorem dX10_transition_17 : decode cX10_transition 17 = .ok (.aload 4, 2) := by decide +kernel
theorem dX10_transition_19 : decode cX10_transition 19 = .ok (.getfield 160, 3) := by decide +kernel
theorem dX10_transition_22 : decode cX10_transition 22 = .ok (.if_icmp .ge 7, 3) := by decide +kernel
theorem dX10_transition_25 : decode cX10_transition 25 = .ok (.iconst 1, 1) := by decide +kernel
theorem dX10_transition_26 : decode cX10_transition 26 = .ok (.goto 4, 3) := by decide +kernel
theorem dX10_transition_29 : decode cX10_transition 29 = .ok (.iconst 0, 1) := by decide +kernel
theorem dX10_transition_30 : decode cX10_transition 30 = .ok (.invokestatic 184, 3) := by decide +kernel
theorem dX10_transition_33 : decode cX10_transition 33 = .ok (.iload_n 3, 1) := by decide +kernel
theorem dX10_transition_34 : decode cX10_transition 34 = .ok (.ifCond .lt 12, 3) := by decide +kernel
theorem dX10_transition_37 : decode cX10_transition 37 = .ok (.iload_n 3, 1) := by decide +kernel
theorem dX10_transition_38 : decode cX10_transition 38 = .ok (.iconst 4, 1) := by decide +kernel
theorem dX10_transition_39 : decode cX10_transition 39 = .ok (.if_icmp .gt 7, 3) := by decide +kernel
theorem dX10_transition_42 : decode cX10_transition 42 = .ok (.iconst 1, 1) := by decide +kernel
theorem dX10_transition_43 : decode cX10_transition 43 = .ok (.goto 4, 3) := by decide +kernel
theorem dX10_transition_46 : decode cX10_transition 46 = .ok (.iconst 0, 1) := by decide +kernel
theorem dX10_transition_47 : decode cX10_transition 47 = .ok (.invokestatic 72, 3) := by decide +kernel
theorem dX10_transition_50 : decode cX10_transition 50 = .ok (.iload_n 3, 1) := by decide +kernel
theorem dX10_transition_51 : decode cX10_transition 51 = .ok (.tableswitch 61 0 3 #[29, 37, 44, 53], 29) := by decide +kernel
theorem dX10_transition_80 : decode cX10_transition 80 = .ok (.aload 4, 2) := by decide +kernel
theorem dX10_transition_82 : decode cX10_transition 82 = .ok (.getfield 187, 3) := by decide +kernel
theorem dX10_transition_85 : decode cX10_transition 85 = .ok (.iload_n 2, 1) := by decide +kernel
theorem dX10_transition_86 : decode cX10_transition 86 = .ok (.iaload, 1) := by decide +kernel
theorem dX10_transition_87 : decode cX10_transition 87 = .ok (.ireturn, 1) := by decide +kernel
theorem dX10_transition_88 : decode cX10_transition 88 = .ok (.aload 4, 2) := by decide +kernel
theorem dX10_transition_90 : decode cX10_transition 90 = .ok (.iload_n 2, 1) := by decide +kernel
theorem dX10_transition_91 : decode cX10_transition 91 = .ok (.invokevirtual 169, 3) := by decide +kernel
theorem dX10_transition_94 : decode cX10_transition 94 = .ok (.ireturn, 1) := by decide +kernel
theorem dX10_transition_95 : decode cX10_transition 95 = .ok (.aload 4, 2) := by decide +kernel
theorem dX10_transition_97 : decode cX10_transition 97 = .ok (.iload_n 2, 1) := by decide +kernel
theorem dX10_transition_98 : decode cX10_transition 98 = .ok (.iconst 1, 1) := by decide +kernel
theorem dX10_transition_99 : decode cX10_transition 99 = .ok (.iadd, 1) := by decide +kernel
theorem dX10_transition_100 : decode cX10_transition 100 = .ok (.invokevirtual 169, 3) := by decide +kernel
theorem dX10_transition_103 : decode cX10_transition 103 = .ok (.ireturn, 1) := by decide +kernel
theorem dX10_transition_104 : decode cX10_transition 104 = .ok (.aload 4, 2) := by decide +kernel
theorem dX10_transition_106 : decode cX10_transition 106 = .ok (.getfield 191, 3) := by decide +kernel
theorem dX10_transition_109 : decode cX10_transition 109 = .ok (.iload_n 2, 1) := by decide +kernel
theorem dX10_transition_110 : decode cX10_transition 110 = .ok (.iaload, 1) := by decide +kernel
theorem dX10_transition_111 : decode cX10_transition 111 = .ok (.ireturn, 1) := by decide +kernel
theorem dX10_transition_112 : decode cX10_transition 112 = .ok (.aload 4, 2) := by decide +kernel
theorem dX10_transition_114 : decode cX10_transition 114 = .ok (.getfield 194, 3) := by decide +kernel
theorem dX10_transition_117 : decode cX10_transition 117 = .ok (.iload_n 2, 1) := by decide +kernel
theorem dX10_transition_118 : decode cX10_transition 118 = .ok (.iaload, 1) := by decide +kernel
theorem dX10_transition_119 : decode cX10_transition 119 = .ok (.ireturn, 1) := by decide +kernel
theorem dX10_voidEvent_0 : decode cX10_voidEvent 0 = .ok (.aload_n 0, 1) := by decide +kernel
theorem dX10_voidEvent_1 : decode cX10_voidEvent 1 = .ok (.iload_n 1, 1) := by decide +kernel
theorem dX10_voidEvent_2 : decode cX10_voidEvent 2 = .ok (.invokevirtual 137, 3) := by decide +kernel
theorem dX10_voidEvent_5 : decode cX10_voidEvent 5 = .ok (.aload_n 0, 1) := by decide +kernel
theorem dX10_voidEvent_6 : decode cX10_voidEvent 6 = .ok (.iload_n 1, 1) := by decide +kernel
theorem dX10_voidEvent_7 : decode cX10_voidEvent 7 = .ok (.invokevirtual 144, 3) := by decide +kernel
theorem dX10_voidEvent_10 : decode cX10_voidEvent 10 = .ok (.astore 4, 2) := by decide +kernel
theorem dX10_voidEvent_12 : decode cX10_voidEvent 12 = .ok (.iload_n 2, 1) := by decide +kernel
theorem dX10_voidEvent_13 : decode cX10_voidEvent 13 = .ok (.ifCond .lt 16, 3) := by decide +kernel
theorem dX10_voidEvent_16 : decode cX10_voidEvent 16 = .ok (.iload_n 2, 1) := by decide +kernel
theorem dX10_voidEvent_17 : decode cX10_voidEvent 17 = .ok (.aload 4, 2) := by decide +kernel
theorem dX10_voidEvent_19 : decode cX10_voidEvent 19 = .ok (.getfield 163, 3) := by decide +kernel
theorem dX10_voidEvent_22 : decode cX10_voidEvent 22 = .ok (.if_icmp .ge 7, 3) := by decide +kernel
theorem dX10_voidEvent_25 : decode cX10_voidEvent 25 = .ok (.iconst 1, 1) := by decide +kernel
theorem dX10_voidEvent_26 : decode cX10_voidEvent 26 = .ok (.goto 4, 3) := by decide +kernel
theorem dX10_voidEvent_29 : decode cX10_voidEvent 29 = .ok (.iconst 0, 1) := by decide +kernel
theorem dX10_voidEvent_30 : decode cX10_voidEvent 30 = .ok (.invokestatic 184, 3) := by decide +kernel
theorem dX10_voidEvent_33 : decode cX10_voidEvent 33 = .ok (.iload_n 3, 1) := by decide +kernel
theorem dX10_voidEvent_34 : decode cX10_voidEvent 34 = .ok (.ifCond .lt 12, 3) := by decide +kernel
theorem dX10_voidEvent_37 : decode cX10_voidEvent 37 = .ok (.iload_n 3, 1) := by decide +kernel
theorem dX10_voidEvent_38 : decode cX10_voidEvent 38 = .ok (.iconst 2, 1) := by decide +kernel
theorem dX10_voidEvent_39 : decode cX10_voidEvent 39 = .ok (.if_icmp .gt 7, 3) := by decide +kernel
theorem dX10_voidEvent_42 : decode cX10_voidEvent 42 = .ok (.iconst 1, 1) := by decide +kernel
theorem dX10_voidEvent_43 : decode cX10_voidEvent 43 = .ok (.goto 4, 3) := by decide +kernel
theorem dX10_voidEvent_46 : decode cX10_voidEvent 46 = .ok (.iconst 0, 1) := by decide +kernel
theorem dX10_voidEvent_47 : decode cX10_voidEvent 47 = .ok (.invokestatic 72, 3) := by decide +kernel
theorem dX10_voidEvent_50 : decode cX10_voidEvent 50 = .ok (.iload_n 3, 1) := by decide +kernel
theorem dX10_voidEvent_51 : decode cX10_voidEvent 51 = .ok (.lookupswitch 41 #[(0, 25), (1, 33)], 25) := by decide +kernel
theorem dX10_voidEvent_76 : decode cX10_voidEvent 76 = .ok (.aload 4, 2) := by decide +kernel
theorem dX10_voidEvent_78 : decode cX10_voidEvent 78 = .ok (.getfield 197, 3) := by decide +kernel
theorem dX10_voidEvent_81 : decode cX10_voidEvent 81 = .ok (.iload_n 2, 1) := by decide +kernel
theorem dX10_voidEvent_82 : decode cX10_voidEvent 82 = .ok (.iaload, 1) := by decide +kernel
theorem dX10_voidEvent_83 : decode cX10_voidEvent 83 = .ok (.ireturn, 1) := by decide +kernel
theorem dX10_voidEvent_84 : decode cX10_voidEvent 84 = .ok (.aload 4, 2) := by decide +kernel
theorem dX10_voidEvent_86 : decode cX10_voidEvent 86 = .ok (.getfield 200, 3) := by decide +kernel
theorem dX10_voidEvent_89 : decode cX10_voidEvent 89 = .ok (.iload_n 2, 1) := by decide +kernel
theorem dX10_voidEvent_90 : decode cX10_voidEvent 90 = .ok (.iaload, 1) := by decide +kernel
theorem dX10_voidEvent_91 : decode cX10_voidEvent 91 = .ok (.ireturn, 1) := by decide +kernel
theorem dX10_voidEvent_92 : decode cX10_voidEvent 92 = .ok (.aload 4, 2) := by decide +kernel
theorem dX10_voidEvent_94 : decode cX10_voidEvent 94 = .ok (.getfield 203, 3) := by decide +kernel
theorem dX10_voidEvent_97 : decode cX10_voidEvent 97 = .ok (.iload_n 2, 1) := by decide +kernel
theorem dX10_voidEvent_98 : decode cX10_voidEvent 98 = .ok (.iaload, 1) := by decide +kernel
theorem dX10_voidEvent_99 : decode cX10_voidEvent 99 = .ok (.ireturn, 1) := by decide +kernel
theorem dX10_offset_0 : decode cX10_offset 0 = .ok (.aload_n 0, 1) := by decide +kernel
theorem dX10_offset_1 : decode cX10_offset 1 = .ok (.iload_n 1, 1) := by decide +kernel
theorem dX10_offset_2 : decode cX10_offset 2 = .ok (.invokevirtual 137, 3) := by decide +kernel
theorem dX10_offset_5 : decode cX10_offset 5 = .ok (.iload_n 2, 1) := by decide +kernel
theorem dX10_offset_6 : decode cX10_offset 6 = .ok (.invokestatic 206, 3) := by decide +kernel
theorem dX10_offset_9 : decode cX10_offset 9 = .ok (.invokestatic 72, 3) := by decide +kernel
theorem dX10_offset_12 : decode cX10_offset 12 = .ok (.aload_n 0, 1) := by decide +kernel
theorem dX10_offset_13 : decode cX10_offset 13 = .ok (.iload_n 1, 1) := by decide +kernel
theorem dX10_offset_14 : decode cX10_offset 14 = .ok (.invokevirtual 144, 3) := by decide +kernel
theorem dX10_offset_17 : decode cX10_offset 17 = .ok (.iload_n 2, 1) := by decide +kernel
theorem dX10_offset_18 : decode cX10_offset 18 = .ok (.invokevirtual 209, 3) := by decide +kernel
theorem dX10_offset_21 : decode cX10_offset 21 = .ok (.ireturn, 1) := by decide +kernel
theorem dX10_offsetAgain_0 : decode cX10_offsetAgain 0 = .ok (.aload_n 0, 1) := by decide +kernel
theorem dX10_offsetAgain_1 : decode cX10_offsetAgain 1 = .ok (.iload_n 1, 1) := by decide +kernel
theorem dX10_offsetAgain_2 : decode cX10_offsetAgain 2 = .ok (.invokevirtual 137, 3) := by decide +kernel
theorem dX10_offsetAgain_5 : decode cX10_offsetAgain 5 = .ok (.iload_n 2, 1) := by decide +kernel
theorem dX10_offsetAgain_6 : decode cX10_offsetAgain 6 = .ok (.invokestatic 206, 3) := by decide +kernel
theorem dX10_offsetAgain_9 : decode cX10_offsetAgain 9 = .ok (.invokestatic 72, 3) := by decide +kernel
theorem dX10_offsetAgain_12 : decode cX10_offsetAgain 12 = .ok (.aload_n 0, 1) := by decide +kernel
theorem dX10_offsetAgain_13 : decode cX10_offsetAgain 13 = .ok (.getfield 12, 3) := by decide +kernel
theorem dX10_offsetAgain_16 : decode cX10_offsetAgain 16 = .ok (.getfield 140, 3) := by decide +kernel
theorem dX10_offsetAgain_19 : decode cX10_offsetAgain 19 = .ok (.iload_n 1, 1) := by decide +kernel
theorem dX10_offsetAgain_20 : decode cX10_offsetAgain 20 = .ok (.aaload, 1) := by decide +kernel
theorem dX10_offsetAgain_21 : decode cX10_offsetAgain 21 = .ok (.astore_n 3, 1) := by decide +kernel
theorem dX10_offsetAgain_22 : decode cX10_offsetAgain 22 = .ok (.aload_n 0, 1) := by decide +kernel
theorem dX10_offsetAgain_23 : decode cX10_offsetAgain 23 = .ok (.getfield 40, 3) := by decide +kernel
theorem dX10_offsetAgain_26 : decode cX10_offsetAgain 26 = .ok (.aload_n 3, 1) := by decide +kernel
theorem dX10_offsetAgain_27 : decode cX10_offsetAgain 27 = .ok (.getfield 148, 3) := by decide +kernel
theorem dX10_offsetAgain_30 : decode cX10_offsetAgain 30 = .ok (.invokevirtual 212, 3) := by decide +kernel
theorem dX10_offsetAgain_33 : decode cX10_offsetAgain 33 = .ok (.aload_n 3, 1) := by decide +kernel
theorem dX10_offsetAgain_34 : decode cX10_offsetAgain 34 = .ok (.getfield 148, 3) := by decide +kernel
theorem dX10_offsetAgain_37 : decode cX10_offsetAgain 37 = .ok (.istore 4, 2) := by decide +kernel
theorem dX10_offsetAgain_39 : decode cX10_offsetAgain 39 = .ok (.iconst 0, 1) := by decide +kernel
theorem dX10_offsetAgain_40 : decode cX10_offsetAgain 40 = .ok (.istore 5, 2) := by decide +kernel
theorem dX10_offsetAgain_42 : decode cX10_offsetAgain 42 = .ok (.iload 5, 2) := by decide +kernel
theorem dX10_offsetAgain_44 : decode cX10_offsetAgain 44 = .ok (.bipush 32, 2) := by decide +kernel
theorem dX10_offsetAgain_46 : decode cX10_offsetAgain 46 = .ok (.if_icmp .ge 93, 3) := by decide +kernel
theorem dX10_offsetAgain_49 : decode cX10_offsetAgain 49 = .ok (.aload_n 3, 1) := by decide +kernel
theorem dX10_offsetAgain_50 : decode cX10_offsetAgain 50 = .ok (.iload 5, 2) := by decide +kernel
theorem dX10_offsetAgain_52 : decode cX10_offsetAgain 52 = .ok (.aload_n 0, 1) := by decide +kernel
theorem dX10_offsetAgain_53 : decode cX10_offsetAgain 53 = .ok (.getfield 58, 3) := by decide +kernel
theorem dX10_offsetAgain_56 : decode cX10_offsetAgain 56 = .ok (.invokevirtual 215, 3) := by decide +kernel
theorem dX10_offsetAgain_59 : decode cX10_offsetAgain 59 = .ok (.istore 6, 2) := by decide +kernel
theorem dX10_offsetAgain_61 : decode cX10_offsetAgain 61 = .ok (.aload_n 0, 1) := by decide +kernel
theorem dX10_offsetAgain_62 : decode cX10_offsetAgain 62 = .ok (.getfield 58, 3) := by decide +kernel
theorem dX10_offsetAgain_65 : decode cX10_offsetAgain 65 = .ok (.iload 6, 2) := by decide +kernel
theorem dX10_offsetAgain_67 : decode cX10_offsetAgain 67 = .ok (.invokestatic 219, 3) := by decide +kernel
theorem dX10_offsetAgain_70 : decode cX10_offsetAgain 70 = .ok (.iconst 0, 1) := by decide +kernel
theorem dX10_offsetAgain_71 : decode cX10_offsetAgain 71 = .ok (.istore 7, 2) := by decide +kernel
theorem dX10_offsetAgain_73 : decode cX10_offsetAgain 73 = .ok (.iload 7, 2) := by decide +kernel
theorem dX10_offsetAgain_75 : decode cX10_offsetAgain 75 = .ok (.iload 6, 2) := by decide +kernel
theorem dX10_offsetAgain_77 : decode cX10_offsetAgain 77 = .ok (.if_icmp .ge 56, 3) := by decide +kernel
theorem dX10_offsetAgain_80 : decode cX10_offsetAgain 80 = .ok (.aload_n 0, 1) := by decide +kernel
theorem dX10_offsetAgain_81 : decode cX10_offsetAgain 81 = .ok (.getfield 40, 3) := by decide +kernel
theorem dX10_offsetAgain_84 : decode cX10_offsetAgain 84 = .ok (.aload_n 3, 1) := by decide +kernel
theorem dX10_offsetAgain_85 : decode cX10_offsetAgain 85 = .ok (.aload_n 0, 1) := by decide +kernel
theorem dX10_offsetAgain_86 : decode cX10_offsetAgain 86 = .ok (.getfield 58, 3) := by decide +kernel
theorem dX10_offsetAgain_89 : decode cX10_offsetAgain 89 = .ok (.iload 7, 2) := by decide +kernel
theorem dX10_offsetAgain_91 : decode cX10_offsetAgain 91 = .ok (.laload, 1) := by decide +kernel
theorem dX10_offsetAgain_92 : decode cX10_offsetAgain 92 = .ok (.invokevirtual 223, 3) := by decide +kernel
theorem dX10_offsetAgain_95 : decode cX10_offsetAgain 95 = .ok (.iconst 2, 1) := by decide +kernel
theorem dX10_offsetAgain_96 : decode cX10_offsetAgain 96 = .ok (.if_icmp .ne 31, 3) := by decide +kernel
theorem dX10_offsetAgain_99 : decode cX10_offsetAgain 99 = .ok (.aload_n 0, 1) := by decide +kernel
theorem dX10_offsetAgain_100 : decode cX10_offsetAgain 100 = .ok (.getfield 40, 3) := by decide +kernel
theorem dX10_offsetAgain_103 : decode cX10_offsetAgain 103 = .ok (.getfield 227, 3) := by decide +kernel
theorem dX10_offsetAgain_106 : decode cX10_offsetAgain 106 = .ok (.iload_n 2, 1) := by decide +kernel
theorem dX10_offsetAgain_107 : decode cX10_offsetAgain 107 = .ok (.if_icmp .gt 20, 3) := by decide +kernel
theorem dX10_offsetAgain_110 : decode cX10_offsetAgain 110 = .ok (.aload_n 0, 1) := by decide +kernel
theorem dX10_offsetAgain_111 : decode cX10_offsetAgain 111 = .ok (.getfield 40, 3) := by decide +kernel
theorem dX10_offsetAgain_114 : decode cX10_offsetAgain 114 = .ok (.getfield 230, 3) := by decide +kernel
theorem dX10_offsetAgain_117 : decode cX10_offsetAgain 117 = .ok (.aload_n 0, 1) := by decide +kernel
theorem dX10_offsetAgain_118 : decode cX10_offsetAgain 118 = .ok (.getfield 40, 3) := by decide +kernel
theorem dX10_offsetAgain_121 : decode cX10_offsetAgain 121 = .ok (.getfield 231, 3) := by decide +kernel
theorem dX10_offsetAgain_124 : decode cX10_offsetAgain 124 = .ok (.iadd, 1) := by decide +kernel
theorem dX10_offsetAgain_125 : decode cX10_offsetAgain 125 = .ok (.istore 4, 2) := by decide +kernel
theorem dX10_offsetAgain_127 : decode cX10_offsetAgain 127 = .ok (.iinc 7 1, 3) := by decide +kernel
theorem dX10_offsetAgain_130 : decode cX10_offsetAgain 130 = .ok (.goto (-57), 3) := by decide +kernel
theorem dX10_offsetAgain_133 : decode cX10_offsetAgain 133 = .ok (.iinc 5 1, 3) := by decide +kernel
theorem dX10_offsetAgain_136 : decode cX10_offsetAgain 136 = .ok (.goto (-94), 3) := by decide +kernel
theorem dX10_offsetAgain_139 : decode cX10_offsetAgain 139 = .ok (.iload 4, 2) := by decide +kernel
theorem dX10_offsetAgain_141 : decode cX10_offsetAgain 141 = .ok (.ireturn, 1) := by decide +kernel
theorem dX10_toLocal_0 : decode cX10_toLocal 0 = .ok (.aload_n 0, 1) := by decide +kernel
theorem dX10_toLocal_1 : decode cX10_toLocal 1 = .ok (.iload_n 1, 1) := by decide +kernel
theorem dX10_toLocal_2 : decode cX10_toLocal 2 = .ok (.invokevirtual 137, 3) := by decide +kernel
theorem dX10_toLocal_5 : decode cX10_toLocal 5 = .ok (.iload_n 2, 1) := by decide +kernel
theorem dX10_toLocal_6 : decode cX10_toLocal 6 = .ok (.invokestatic 206, 3) := by decide +kernel
theorem dX10_toLocal_9 : decode cX10_toLocal 9 = .ok (.invokestatic 72, 3) := by decide +kernel
theorem dX10_toLocal_12 : decode cX10_toLocal 12 = .ok (.iload_n 2, 1) := by decide +kernel
theorem dX10_toLocal_13 : decode cX10_toLocal 13 = .ok (.aload_n 0, 1) := by decide +kernel
theorem dX10_toLocal_14 : decode cX10_toLocal 14 = .ok (.iload_n 1, 1) := by decide +kernel
theorem dX10_toLocal_15 : decode cX10_toLocal 15 = .ok (.invokevirtual 144, 3) := by decide +kernel
theorem dX10_toLocal_18 : decode cX10_toLocal 18 = .ok (.iload_n 2, 1) := by decide +kernel
theorem dX10_toLocal_19 : decode cX10_toLocal 19 = .ok (.invokevirtual 209, 3) := by decide +kernel
theorem dX10_toLocal_22 : decode cX10_toLocal 22 = .ok (.iadd, 1) := by decide +kernel
theorem dX10_toLocal_23 : decode cX10_toLocal 23 = .ok (.ireturn, 1) := by decide +kernel
theorem dX10_instants_0 : decode cX10_instants 0 = .ok (.aload_n 0, 1) := by decide +kernel
theorem dX10_instants_1 : decode cX10_instants 1 = .ok (.iload_n 1, 1) := by decide +kernel
theorem dX10_instants_2 : decode cX10_instants 2 = .ok (.invokevirtual 137, 3) := by decide +kernel
theorem dX10_instants_5 : decode cX10_instants 5 = .ok (.iload_n 2, 1) := by decide +kernel
theorem dX10_instants_6 : decode cX10_instants 6 = .ok (.invokestatic 234, 3) := by decide +kernel
theorem dX10_instants_9 : decode cX10_instants 9 = .ok (.invokestatic 72, 3) := by decide +kernel
theorem dX10_instants_12 : decode cX10_instants 12 = .ok (.aload_n 0, 1) := by decide +kernel
theorem dX10_instants_13 : decode cX10_instants 13 = .ok (.iload_n 1, 1) := by decide +kernel
theorem dX10_instants_14 : decode cX10_instants 14 = .ok (.invokevirtual 144, 3) := by decide +kernel
theorem dX10_instants_17 : decode cX10_instants 17 = .ok (.astore_n 3, 1) := by decide +kernel
theorem dX10_instants_18 : decode cX10_instants 18 = .ok (.aload_n 3, 1) := by decide +kernel
theorem dX10_instants_19 : decode cX10_instants 19 = .ok (.iload_n 2, 1) := by decide +kernel
theorem dX10_instants_20 : decode cX10_instants 20 = .ok (.invokevirtual 237, 3) := by decide +kernel
theorem dX10_instants_23 : decode cX10_instants 23 = .ok (.aload_n 3, 1) := by decide +kernel
theorem dX10_instants_24 : decode cX10_instants 24 = .ok (.getfield 240, 3) := by decide +kernel
theorem dX10_instants_27 : decode cX10_instants 27 = .ok (.ireturn, 1) := by decide +kernel
theorem dX10_instantsAgain_0 : decode cX10_instantsAgain 0 = .ok (.aload_n 0, 1) := by decide +kernel
theorem dX10_instantsAgain_1 : decode cX10_instantsAgain 1 = .ok (.iload_n 1, 1) := by decide +kernel
theorem dX10_instantsAgain_2 : decode cX10_instantsAgain 2 = .ok (.invokevirtual 137, 3) := by decide +kernel
theorem dX10_instantsAgain_5 : decode cX10_instantsAgain 5 = .ok (.iload_n 2, 1) := by decide +kernel
theorem dX10_instantsAgain_6 : decode cX10_instantsAgain 6 = .ok (.invokestatic 234, 3) := by decide +kernel
theorem dX10_instantsAgain_9 : decode cX10_instantsAgain 9 = .ok (.invokestatic 72, 3) := by decide +kernel
theorem dX10_instantsAgain_12 : decode cX10_instantsAgain 12 = .ok (.aload_n 0, 1) := by decide +kernel
theorem dX10_instantsAgain_13 : decode cX10_instantsAgain 13 = .ok (.iload_n 1, 1) := by decide +kernel
theorem dX10_instantsAgain_14 : decode cX10_instantsAgain 14 = .ok (.invokevirtual 144, 3) := by decide +kernel
theorem dX10_instantsAgain_17 : decode cX10_instantsAgain 17 = .ok (.astore_n 3, 1) := by decide +kernel
