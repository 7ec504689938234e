theorem dX5_setNumbers_0 : decode cX5_setNumbers 0 = .ok (.aload_n 0, 1) := by decide +kernel
theorem dX5_setNumbers_1 : decode cX5_setNumbers 1 = .ok (.getfield 9, 3) := by decide +kernel
theorem dX5_setNumbers_4 : decode cX5_setNumbers 4 = .ok (.iload_n 1, 1) := by decide +kernel
theorem dX5_setNumbers_5 : decode cX5_setNumbers 5 = .ok (.iload_n 2, 1) := by decide +kernel
theorem dX5_setNumbers_6 : decode cX5_setNumbers 6 = .ok (.iastore, 1) := by decide +kernel
theorem dX5_setNumbers_7 : decode cX5_setNumbers 7 = .ok (.aload_n 0, 1) := by decide +kernel
theorem dX5_setNumbers_8 : decode cX5_setNumbers 8 = .ok (.getfield 15, 3) := by decide +kernel
theorem dX5_setNumbers_11 : decode cX5_setNumbers 11 = .ok (.iload_n 1, 1) := by decide +kernel
theorem dX5_setNumbers_12 : decode cX5_setNumbers 12 = .ok (.iload_n 3, 1) := by decide +kernel
theorem dX5_setNumbers_13 : decode cX5_setNumbers 13 = .ok (.iastore, 1) := by decide +kernel
theorem dX5_setNumbers_14 : decode cX5_setNumbers 14 = .ok (.return_, 1) := by decide +kernel
theorem dX5_shift_0 : decode cX5_shift 0 = .ok (.aload_n 0, 1) := by decide +kernel
theorem dX5_shift_1 : decode cX5_shift 1 = .ok (.getfield 9, 3) := by decide +kernel
theorem dX5_shift_4 : decode cX5_shift 4 = .ok (.iload_n 1, 1) := by decide +kernel
theorem dX5_shift_5 : decode cX5_shift 5 = .ok (.iaload, 1) := by decide +kernel
theorem dX5_shift_6 : decode cX5_shift 6 = .ok (.aload_n 0, 1) := by decide +kernel
theorem dX5_shift_7 : decode cX5_shift 7 = .ok (.getfield 15, 3) := by decide +kernel
theorem dX5_shift_10 : decode cX5_shift 10 = .ok (.iload_n 1, 1) := by decide +kernel
theorem dX5_shift_11 : decode cX5_shift 11 = .ok (.iaload, 1) := by decide +kernel
theorem dX5_shift_12 : decode cX5_shift 12 = .ok (.if_icmp .gt 49, 3) := by decide +kernel
theorem dX5_shift_15 : decode cX5_shift 15 = .ok (.aload_n 0, 1) := by decide +kernel
theorem dX5_shift_16 : decode cX5_shift 16 = .ok (.getfield 9, 3) := by decide +kernel
theorem dX5_shift_19 : decode cX5_shift 19 = .ok (.iload_n 1, 1) := by decide +kernel
theorem dX5_shift_20 : decode cX5_shift 20 = .ok (.iconst 0, 1) := by decide +kernel
theorem dX5_shift_21 : decode cX5_shift 21 = .ok (.bipush 50, 2) := by decide +kernel
theorem dX5_shift_23 : decode cX5_shift 23 = .ok (.aload_n 0, 1) := by decide +kernel
theorem dX5_shift_24 : decode cX5_shift 24 = .ok (.getfield 9, 3) := by decide +kernel
theorem dX5_shift_27 : decode cX5_shift 27 = .ok (.iload_n 1, 1) := by decide +kernel
theorem dX5_shift_28 : decode cX5_shift 28 = .ok (.iaload, 1) := by decide +kernel
theorem dX5_shift_29 : decode cX5_shift 29 = .ok (.iload_n 2, 1) := by decide +kernel
theorem dX5_shift_30 : decode cX5_shift 30 = .ok (.iadd, 1) := by decide +kernel
theorem dX5_shift_31 : decode cX5_shift 31 = .ok (.invokestatic 56, 3) := by decide +kernel
theorem dX5_shift_34 : decode cX5_shift 34 = .ok (.invokestatic 62, 3) := by decide +kernel
theorem dX5_shift_37 : decode cX5_shift 37 = .ok (.iastore, 1) := by decide +kernel
theorem dX5_shift_38 : decode cX5_shift 38 = .ok (.aload_n 0, 1) := by decide +kernel
theorem dX5_shift_39 : decode cX5_shift 39 = .ok (.getfield 15, 3) := by decide +kernel
theorem dX5_shift_42 : decode cX5_shift 42 = .ok (.iload_n 1, 1) := by decide +kernel
theorem dX5_shift_43 : decode cX5_shift 43 = .ok (.iconst 0, 1) := by decide +kernel
theorem dX5_shift_44 : decode cX5_shift 44 = .ok (.bipush 50, 2) := by decide +kernel
theorem dX5_shift_46 : decode cX5_shift 46 = .ok (.aload_n 0, 1) := by decide +kernel
theorem dX5_shift_47 : decode cX5_shift 47 = .ok (.getfield 15, 3) := by decide +kernel
theorem dX5_shift_50 : decode cX5_shift 50 = .ok (.iload_n 1, 1) := by decide +kernel
theorem dX5_shift_51 : decode cX5_shift 51 = .ok (.iaload, 1) := by decide +kernel
theorem dX5_shift_52 : decode cX5_shift 52 = .ok (.iload_n 2, 1) := by decide +kernel
theorem dX5_shift_53 : decode cX5_shift 53 = .ok (.iadd, 1) := by decide +kernel
theorem dX5_shift_54 : decode cX5_shift 54 = .ok (.invokestatic 56, 3) := by decide +kernel
theorem dX5_shift_57 : decode cX5_shift 57 = .ok (.invokestatic 62, 3) := by decide +kernel
theorem dX5_shift_60 : decode cX5_shift 60 = .ok (.iastore, 1) := by decide +kernel
theorem dX5_shift_61 : decode cX5_shift 61 = .ok (.return_, 1) := by decide +kernel
theorem dX5_copyVariable_0 : decode cX5_copyVariable 0 = .ok (.aload_n 0, 1) := by decide +kernel
theorem dX5_copyVariable_1 : decode cX5_copyVariable 1 = .ok (.getfield 9, 3) := by decide +kernel
theorem dX5_copyVariable_4 : decode cX5_copyVariable 4 = .ok (.iload_n 1, 1) := by decide +kernel
theorem dX5_copyVariable_5 : decode cX5_copyVariable 5 = .ok (.aload_n 2, 1) := by decide +kernel
theorem dX5_copyVariable_6 : decode cX5_copyVariable 6 = .ok (.getfield 9, 3) := by decide +kernel
theorem dX5_copyVariable_9 : decode cX5_copyVariable 9 = .ok (.iload_n 3, 1) := by decide +kernel
theorem dX5_copyVariable_10 : decode cX5_copyVariable 10 = .ok (.iaload, 1) := by decide +kernel
theorem dX5_copyVariable_11 : decode cX5_copyVariable 11 = .ok (.iastore, 1) := by decide +kernel
theorem dX5_copyVariable_12 : decode cX5_copyVariable 12 = .ok (.aload_n 0, 1) := by decide +kernel
theorem dX5_copyVariable_13 : decode cX5_copyVariable 13 = .ok (.getfield 15, 3) := by decide +kernel
theorem dX5_copyVariable_16 : decode cX5_copyVariable 16 = .ok (.iload_n 1, 1) := by decide +kernel
theorem dX5_copyVariable_17 : decode cX5_copyVariable 17 = .ok (.aload_n 2, 1) := by decide +kernel
theorem dX5_copyVariable_18 : decode cX5_copyVariable 18 = .ok (.getfield 15, 3) := by decide +kernel
theorem dX5_copyVariable_21 : decode cX5_copyVariable 21 = .ok (.iload_n 3, 1) := by decide +kernel
theorem dX5_copyVariable_22 : decode cX5_copyVariable 22 = .ok (.iaload, 1) := by decide +kernel
theorem dX5_copyVariable_23 : decode cX5_copyVariable 23 = .ok (.iastore, 1) := by decide +kernel
theorem dX5_copyVariable_24 : decode cX5_copyVariable 24 = .ok (.aload_n 0, 1) := by decide +kernel
theorem dX5_copyVariable_25 : decode cX5_copyVariable 25 = .ok (.getfield 18, 3) := by decide +kernel
theorem dX5_copyVariable_28 : decode cX5_copyVariable 28 = .ok (.iload_n 1, 1) := by decide +kernel
theorem dX5_copyVariable_29 : decode cX5_copyVariable 29 = .ok (.aload_n 2, 1) := by decide +kernel
theorem dX5_copyVariable_30 : decode cX5_copyVariable 30 = .ok (.getfield 18, 3) := by decide +kernel
theorem dX5_copyVariable_33 : decode cX5_copyVariable 33 = .ok (.iload_n 3, 1) := by decide +kernel
theorem dX5_copyVariable_34 : decode cX5_copyVariable 34 = .ok (.baload, 1) := by decide +kernel
theorem dX5_copyVariable_35 : decode cX5_copyVariable 35 = .ok (.bastore, 1) := by decide +kernel
theorem dX5_copyVariable_36 : decode cX5_copyVariable 36 = .ok (.return_, 1) := by decide +kernel
theorem dX5_cut_0 : decode cX5_cut 0 = .ok (.iload_n 2, 1) := by decide +kernel
theorem dX5_cut_1 : decode cX5_cut 1 = .ok (.aload_n 0, 1) := by decide +kernel
theorem dX5_cut_2 : decode cX5_cut 2 = .ok (.getfield 9, 3) := by decide +kernel
theorem dX5_cut_5 : decode cX5_cut 5 = .ok (.iload_n 1, 1) := by decide +kernel
theorem dX5_cut_6 : decode cX5_cut 6 = .ok (.iaload, 1) := by decide +kernel
theorem dX5_cut_7 : decode cX5_cut 7 = .ok (.if_icmp .le 10, 3) := by decide +kernel
theorem dX5_cut_10 : decode cX5_cut 10 = .ok (.aload_n 0, 1) := by decide +kernel
theorem dX5_cut_11 : decode cX5_cut 11 = .ok (.getfield 9, 3) := by decide +kernel
theorem dX5_cut_14 : decode cX5_cut 14 = .ok (.iload_n 1, 1) := by decide +kernel
theorem dX5_cut_15 : decode cX5_cut 15 = .ok (.iload_n 2, 1) := by decide +kernel
theorem dX5_cut_16 : decode cX5_cut 16 = .ok (.iastore, 1) := by decide +kernel
theorem dX5_cut_17 : decode cX5_cut 17 = .ok (.iload_n 3, 1) := by decide +kernel
theorem dX5_cut_18 : decode cX5_cut 18 = .ok (.aload_n 0, 1) := by decide +kernel
theorem dX5_cut_19 : decode cX5_cut 19 = .ok (.getfield 15, 3) := by decide +kernel
theorem dX5_cut_22 : decode cX5_cut 22 = .ok (.iload_n 1, 1) := by decide +kernel
theorem dX5_cut_23 : decode cX5_cut 23 = .ok (.iaload, 1) := by decide +kernel
theorem dX5_cut_24 : decode cX5_cut 24 = .ok (.if_icmp .ge 10, 3) := by decide +kernel
theorem dX5_cut_27 : decode cX5_cut 27 = .ok (.aload_n 0, 1) := by decide +kernel
theorem dX5_cut_28 : decode cX5_cut 28 = .ok (.getfield 15, 3) := by decide +kernel
theorem dX5_cut_31 : decode cX5_cut 31 = .ok (.iload_n 1, 1) := by decide +kernel
theorem dX5_cut_32 : decode cX5_cut 32 = .ok (.iload_n 3, 1) := by decide +kernel
theorem dX5_cut_33 : decode cX5_cut 33 = .ok (.iastore, 1) := by decide +kernel
theorem dX5_cut_34 : decode cX5_cut 34 = .ok (.aload_n 0, 1) := by decide +kernel
theorem dX5_cut_35 : decode cX5_cut 35 = .ok (.getfield 9, 3) := by decide +kernel
theorem dX5_cut_38 : decode cX5_cut 38 = .ok (.iload_n 1, 1) := by decide +kernel
theorem dX5_cut_39 : decode cX5_cut 39 = .ok (.iaload, 1) := by decide +kernel
theorem dX5_cut_40 : decode cX5_cut 40 = .ok (.aload_n 0, 1) := by decide +kernel
theorem dX5_cut_41 : decode cX5_cut 41 = .ok (.getfield 15, 3) := by decide +kernel
theorem dX5_cut_44 : decode cX5_cut 44 = .ok (.iload_n 1, 1) := by decide +kernel
theorem dX5_cut_45 : decode cX5_cut 45 = .ok (.iaload, 1) := by decide +kernel
theorem dX5_cut_46 : decode cX5_cut 46 = .ok (.if_icmp .le 18, 3) := by decide +kernel
theorem dX5_cut_49 : decode cX5_cut 49 = .ok (.aload_n 0, 1) := by decide +kernel
theorem dX5_cut_50 : decode cX5_cut 50 = .ok (.getfield 9, 3) := by decide +kernel
theorem dX5_cut_53 : decode cX5_cut 53 = .ok (.iload_n 1, 1) := by decide +kernel
theorem dX5_cut_54 : decode cX5_cut 54 = .ok (.bipush 51, 2) := by decide +kernel
theorem dX5_cut_56 : decode cX5_cut 56 = .ok (.iastore, 1) := by decide +kernel
theorem dX5_cut_57 : decode cX5_cut 57 = .ok (.aload_n 0, 1) := by decide +kernel
theorem dX5_cut_58 : decode cX5_cut 58 = .ok (.getfield 15, 3) := by decide +kernel
theorem dX5_cut_61 : decode cX5_cut 61 = .ok (.iload_n 1, 1) := by decide +kernel
theorem dX5_cut_62 : decode cX5_cut 62 = .ok (.iconst (-1), 1) := by decide +kernel
theorem dX5_cut_63 : decode cX5_cut 63 = .ok (.iastore, 1) := by decide +kernel
theorem dX5_cut_64 : decode cX5_cut 64 = .ok (.return_, 1) := by decide +kernel
theorem dX5_followSide_0 : decode cX5_followSide 0 = .ok (.aload_n 1, 1) := by decide +kernel
theorem dX5_followSide_1 : decode cX5_followSide 1 = .ok (.getfield 65, 3) := by decide +kernel
theorem dX5_followSide_4 : decode cX5_followSide 4 = .ok (.istore_n 3, 1) := by decide +kernel
theorem dX5_followSide_5 : decode cX5_followSide 5 = .ok (.aload_n 1, 1) := by decide +kernel
theorem dX5_followSide_6 : decode cX5_followSide 6 = .ok (.getfield 68, 3) := by decide +kernel
theorem dX5_followSide_9 : decode cX5_followSide 9 = .ok (.istore 4, 2) := by decide +kernel
theorem dX5_followSide_11 : decode cX5_followSide 11 = .ok (.aload_n 1, 1) := by decide +kernel
theorem dX5_followSide_12 : decode cX5_followSide 12 = .ok (.invokevirtual 71, 3) := by decide +kernel
theorem dX5_followSide_15 : decode cX5_followSide 15 = .ok (.ifCond .eq 10, 3) := by decide +kernel
theorem dX5_followSide_18 : decode cX5_followSide 18 = .ok (.iload_n 3, 1) := by decide +kernel
theorem dX5_followSide_19 : decode cX5_followSide 19 = .ok (.invokestatic 30, 3) := by decide +kernel
theorem dX5_followSide_22 : decode cX5_followSide 22 = .ok (.ifCond .ne 4, 3) := by decide +kernel
theorem dX5_followSide_25 : decode cX5_followSide 25 = .ok (.return_, 1) := by decide +kernel
theorem dX5_followSide_26 : decode cX5_followSide 26 = .ok (.aload_n 1, 1) := by decide +kernel
theorem dX5_followSide_27 : decode cX5_followSide 27 = .ok (.getfield 75, 3) := by decide +kernel
theorem dX5_followSide_30 : decode cX5_followSide 30 = .ok (.ifCond .ne 33, 3) := by decide +kernel
theorem dX5_followSide_33 : decode cX5_followSide 33 = .ok (.aload_n 1, 1) := by decide +kernel
theorem dX5_followSide_34 : decode cX5_followSide 34 = .ok (.getfield 79, 3) := by decide +kernel
theorem dX5_followSide_37 : decode cX5_followSide 37 = .ok (.iconst 2, 1) := by decide +kernel
theorem dX5_followSide_38 : decode cX5_followSide 38 = .ok (.if_icmp .ne 14, 3) := by decide +kernel
theorem dX5_followSide_41 : decode cX5_followSide 41 = .ok (.aload_n 0, 1) := by decide +kernel
theorem dX5_followSide_42 : decode cX5_followSide 42 = .ok (.iload_n 3, 1) := by decide +kernel
theorem dX5_followSide_43 : decode cX5_followSide 43 = .ok (.iload 4, 2) := by decide +kernel
theorem dX5_followSide_45 : decode cX5_followSide 45 = .ok (.iload_n 2, 1) := by decide +kernel
theorem dX5_followSide_46 : decode cX5_followSide 46 = .ok (.invokevirtual 82, 3) := by decide +kernel
theorem dX5_followSide_49 : decode cX5_followSide 49 = .ok (.goto 49, 3) := by decide +kernel
theorem dX5_followSide_52 : decode cX5_followSide 52 = .ok (.aload_n 0, 1) := by decide +kernel
theorem dX5_followSide_53 : decode cX5_followSide 53 = .ok (.iload_n 3, 1) := by decide +kernel
theorem dX5_followSide_54 : decode cX5_followSide 54 = .ok (.iload 4, 2) := by decide +kernel
theorem dX5_followSide_56 : decode cX5_followSide 56 = .ok (.iload_n 2, 1) := by decide +kernel
theorem dX5_followSide_57 : decode cX5_followSide 57 = .ok (.invokevirtual 85, 3) := by decide +kernel
theorem dX5_followSide_60 : decode cX5_followSide 60 = .ok (.goto 38, 3) := by decide +kernel
theorem dX5_followSide_63 : decode cX5_followSide 63 = .ok (.iload 4, 2) := by decide +kernel
theorem dX5_followSide_65 : decode cX5_followSide 65 = .ok (.invokestatic 30, 3) := by decide +kernel
theorem dX5_followSide_68 : decode cX5_followSide 68 = .ok (.ifCond .eq 30, 3) := by decide +kernel
theorem dX5_followSide_71 : decode cX5_followSide 71 = .ok (.aload_n 1, 1) := by decide +kernel
theorem dX5_followSide_72 : decode cX5_followSide 72 = .ok (.getfield 79, 3) := by decide +kernel
theorem dX5_followSide_75 : decode cX5_followSide 75 = .ok (.iconst 2, 1) := by decide +kernel
theorem dX5_followSide_76 : decode cX5_followSide 76 = .ok (.if_icmp .ne 14, 3) := by decide +kernel
theorem dX5_followSide_79 : decode cX5_followSide 79 = .ok (.aload_n 0, 1) := by decide +kernel
theorem dX5_followSide_80 : decode cX5_followSide 80 = .ok (.iload_n 3, 1) := by decide +kernel
theorem dX5_followSide_81 : decode cX5_followSide 81 = .ok (.iload 4, 2) := by decide +kernel
theorem dX5_followSide_83 : decode cX5_followSide 83 = .ok (.iload_n 2, 1) := by decide +kernel
theorem dX5_followSide_84 : decode cX5_followSide 84 = .ok (.invokevirtual 88, 3) := by decide +kernel
theorem dX5_followSide_87 : decode cX5_followSide 87 = .ok (.goto 11, 3) := by decide +kernel
theorem dX5_followSide_90 : decode cX5_followSide 90 = .ok (.aload_n 0, 1) := by decide +kernel
theorem dX5_followSide_91 : decode cX5_followSide 91 = .ok (.iload_n 3, 1) := by decide +kernel
theorem dX5_followSide_92 : decode cX5_followSide 92 = .ok (.iload 4, 2) := by decide +kernel
theorem dX5_followSide_94 : decode cX5_followSide 94 = .ok (.iload_n 2, 1) := by decide +kernel
theorem dX5_followSide_95 : decode cX5_followSide 95 = .ok (.invokevirtual 91, 3) := by decide +kernel
theorem dX5_followSide_98 : decode cX5_followSide 98 = .ok (.return_, 1) := by decide +kernel
theorem dX5_lessNumber_0 : decode cX5_lessNumber 0 = .ok (.iload_n 3, 1) := by decide +kernel
theorem dX5_lessNumber_1 : decode cX5_lessNumber 1 = .ok (.ifCond .ne 22, 3) := by decide +kernel
theorem dX5_lessNumber_4 : decode cX5_lessNumber 4 = .ok (.aload_n 0, 1) := by decide +kernel
theorem dX5_lessNumber_5 : decode cX5_lessNumber 5 = .ok (.iload_n 1, 1) := by decide +kernel
theorem dX5_lessNumber_6 : decode cX5_lessNumber 6 = .ok (.iconst 0, 1) := by decide +kernel
theorem dX5_lessNumber_7 : decode cX5_lessNumber 7 = .ok (.iload_n 2, 1) := by decide +kernel
theorem dX5_lessNumber_8 : decode cX5_lessNumber 8 = .ok (.iconst 1, 1) := by decide +kernel
theorem dX5_lessNumber_9 : decode cX5_lessNumber 9 = .ok (.isub, 1) := by decide +kernel
theorem dX5_lessNumber_10 : decode cX5_lessNumber 10 = .ok (.invokevirtual 94, 3) := by decide +kernel
theorem dX5_lessNumber_13 : decode cX5_lessNumber 13 = .ok (.aload_n 0, 1) := by decide +kernel
theorem dX5_lessNumber_14 : decode cX5_lessNumber 14 = .ok (.getfield 18, 3) := by decide +kernel
theorem dX5_lessNumber_17 : decode cX5_lessNumber 17 = .ok (.iload_n 1, 1) := by decide +kernel
theorem dX5_lessNumber_18 : decode cX5_lessNumber 18 = .ok (.iconst 0, 1) := by decide +kernel
theorem dX5_lessNumber_19 : decode cX5_lessNumber 19 = .ok (.bastore, 1) := by decide +kernel
theorem dX5_lessNumber_20 : decode cX5_lessNumber 20 = .ok (.goto 11, 3) := by decide +kernel
theorem dX5_lessNumber_23 : decode cX5_lessNumber 23 = .ok (.aload_n 0, 1) := by decide +kernel
theorem dX5_lessNumber_24 : decode cX5_lessNumber 24 = .ok (.iload_n 1, 1) := by decide +kernel
theorem dX5_lessNumber_25 : decode cX5_lessNumber 25 = .ok (.iload_n 2, 1) := by decide +kernel
theorem dX5_lessNumber_26 : decode cX5_lessNumber 26 = .ok (.bipush 50, 2) := by decide +kernel
theorem dX5_lessNumber_28 : decode cX5_lessNumber 28 = .ok (.invokevirtual 94, 3) := by decide +kernel
theorem dX5_lessNumber_31 : decode cX5_lessNumber 31 = .ok (.return_, 1) := by decide +kernel
theorem dX5_lessVariable_0 : decode cX5_lessVariable 0 = .ok (.iload_n 3, 1) := by decide +kernel
theorem dX5_lessVariable_1 : decode cX5_lessVariable 1 = .ok (.ifCond .ne 57, 3) := by decide +kernel
theorem dX5_lessVariable_4 : decode cX5_lessVariable 4 = .ok (.aload_n 0, 1) := by decide +kernel
theorem dX5_lessVariable_5 : decode cX5_lessVariable 5 = .ok (.getfield 9, 3) := by decide +kernel
theorem dX5_lessVariable_8 : decode cX5_lessVariable 8 = .ok (.iload_n 1, 1) := by decide +kernel
theorem dX5_lessVariable_9 : decode cX5_lessVariable 9 = .ok (.iaload, 1) := by decide +kernel
theorem dX5_lessVariable_10 : decode cX5_lessVariable 10 = .ok (.iconst 1, 1) := by decide +kernel
theorem dX5_lessVariable_11 : decode cX5_lessVariable 11 = .ok (.iadd, 1) := by decide +kernel
theorem dX5_lessVariable_12 : decode cX5_lessVariable 12 = .ok (.istore 4, 2) := by decide +kernel
theorem dX5_lessVariable_14 : decode cX5_lessVariable 14 = .ok (.aload_n 0, 1) := by decide +kernel
theorem dX5_lessVariable_15 : decode cX5_lessVariable 15 = .ok (.getfield 15, 3) := by decide +kernel
theorem dX5_lessVariable_18 : decode cX5_lessVariable 18 = .ok (.iload_n 2, 1) := by decide +kernel
theorem dX5_lessVariable_19 : decode cX5_lessVariable 19 = .ok (.iaload, 1) := by decide +kernel
theorem dX5_lessVariable_20 : decode cX5_lessVariable 20 = .ok (.iconst 1, 1) := by decide +kernel
theorem dX5_lessVariable_21 : decode cX5_lessVariable 21 = .ok (.isub, 1) := by decide +kernel
theorem dX5_lessVariable_22 : decode cX5_lessVariable 22 = .ok (.istore 5, 2) := by decide +kernel
theorem dX5_lessVariable_24 : decode cX5_lessVariable 24 = .ok (.aload_n 0, 1) := by decide +kernel
theorem dX5_lessVariable_25 : decode cX5_lessVariable 25 = .ok (.iload_n 1, 1) := by decide +kernel
theorem dX5_lessVariable_26 : decode cX5_lessVariable 26 = .ok (.iconst 0, 1) := by decide +kernel
theorem dX5_lessVariable_27 : decode cX5_lessVariable 27 = .ok (.iload 5, 2) := by decide +kernel
theorem dX5_lessVariable_29 : decode cX5_lessVariable 29 = .ok (.invokevirtual 94, 3) := by decide +kernel
theorem dX5_lessVariable_32 : decode cX5_lessVariable 32 = .ok (.aload_n 0, 1) := by decide +kernel
theorem dX5_lessVariable_33 : decode cX5_lessVariable 33 = .ok (.iload_n 2, 1) := by decide +kernel
theorem dX5_lessVariable_34 : decode cX5_lessVariable 34 = .ok (.iload 4, 2) := by decide +kernel
theorem dX5_lessVariable_36 : decode cX5_lessVariable 36 = .ok (.bipush 50, 2) := by decide +kernel
theorem dX5_lessVariable_38 : decode cX5_lessVariable 38 = .ok (.invokevirtual 94, 3) := by decide +kernel
theorem dX5_lessVariable_41 : decode cX5_lessVariable 41 = .ok (.aload_n 0, 1) := by decide +kernel
theorem dX5_lessVariable_42 : decode cX5_lessVariable 42 = .ok (.getfield 18, 3) := by decide +kernel
theorem dX5_lessVariable_45 : decode cX5_lessVariable 45 = .ok (.iload_n 1, 1) := by decide +kernel
theorem dX5_lessVariable_46 : decode cX5_lessVariable 46 = .ok (.iconst 0, 1) := by decide +kernel
theorem dX5_lessVariable_47 : decode cX5_lessVariable 47 = .ok (.bastore, 1) := by decide +kernel
theorem dX5_lessVariable_48 : decode cX5_lessVariable 48 = .ok (.aload_n 0, 1) := by decide +kernel
theorem dX5_lessVariable_49 : decode cX5_lessVariable 49 = .ok (.getfield 18, 3) := by decide +kernel
theorem dX5_lessVariable_52 : decode cX5_lessVariable 52 = .ok (.iload_n 2, 1) := by decide +kernel
theorem dX5_lessVariable_53 : decode cX5_lessVariable 53 = .ok (.iconst 0, 1) := by decide +kernel
theorem dX5_lessVariable_54 : decode cX5_lessVariable 54 = .ok (.bastore, 1) := by decide +kernel
theorem dX5_lessVariable_55 : decode cX5_lessVariable 55 = .ok (.goto 54, 3) := by decide +kernel
theorem dX5_lessVariable_58 : decode cX5_lessVariable 58 = .ok (.aload_n 0, 1) := by decide +kernel
theorem dX5_lessVariable_59 : decode cX5_lessVariable 59 = .ok (.getfield 18, 3) := by decide +kernel
theorem dX5_lessVariable_62 : decode cX5_lessVariable 62 = .ok (.iload_n 1, 1) := by decide +kernel
theorem dX5_lessVariable_63 : decode cX5_lessVariable 63 = .ok (.baload, 1) := by decide +kernel
theorem dX5_lessVariable_64 : decode cX5_lessVariable 64 = .ok (.ifCond .ne 45, 3) := by decide +kernel
theorem dX5_lessVariable_67 : decode cX5_lessVariable 67 = .ok (.aload_n 0, 1) := by decide +kernel
theorem dX5_lessVariable_68 : decode cX5_lessVariable 68 = .ok (.getfield 18, 3) := by decide +kernel
theorem dX5_lessVariable_71 : decode cX5_lessVariable 71 = .ok (.iload_n 2, 1) := by decide +kernel
theorem dX5_lessVariable_72 : decode cX5_lessVariable 72 = .ok (.baload, 1) := by decide +kernel
theorem dX5_lessVariable_73 : decode cX5_lessVariable 73 = .ok (.ifCond .ne 36, 3) := by decide +kernel
theorem dX5_lessVariable_76 : decode cX5_lessVariable 76 = .ok (.aload_n 0, 1) := by decide +kernel
theorem dX5_lessVariable_77 : decode cX5_lessVariable 77 = .ok (.getfield 9, 3) := by decide +kernel
theorem dX5_lessVariable_80 : decode cX5_lessVariable 80 = .ok (.iload_n 2, 1) := by decide +kernel
theorem dX5_lessVariable_81 : decode cX5_lessVariable 81 = .ok (.iaload, 1) := by decide +kernel
theorem dX5_lessVariable_82 : decode cX5_lessVariable 82 = .ok (.istore 4, 2) := by decide +kernel
theorem dX5_lessVariable_84 : decode cX5_lessVariable 84 = .ok (.aload_n 0, 1) := by decide +kernel
theorem dX5_lessVariable_85 : decode cX5_lessVariable 85 = .ok (.getfield 15, 3) := by decide +kernel
theorem dX5_lessVariable_88 : decode cX5_lessVariable 88 = .ok (.iload_n 1, 1) := by decide +kernel
theorem dX5_lessVariable_89 : decode cX5_lessVariable 89 = .ok (.iaload, 1) := by decide +kernel
theorem dX5_lessVariable_90 : decode cX5_lessVariable 90 = .ok (.istore 5, 2) := by decide +kernel
theorem dX5_lessVariable_92 : decode cX5_lessVariable 92 = .ok (.aload_n 0, 1) := by decide +kernel
theorem dX5_lessVariable_93 : decode cX5_lessVariable 93 = .ok (.iload_n 1, 1) := by decide +kernel
theorem dX5_lessVariable_94 : decode cX5_lessVariable 94 = .ok (.iload 4, 2) := by decide +kernel
theorem dX5_lessVariable_96 : decode cX5_lessVariable 96 = .ok (.bipush 50, 2) := by decide +kernel
theorem dX5_lessVariable_98 : decode cX5_lessVariable 98 = .ok (.invokevirtual 94, 3) := by decide +kernel
theorem dX5_lessVariable_101 : decode cX5_lessVariable 101 = .ok (.aload_n 0, 1) := by decide +kernel
theorem dX5_lessVariable_102 : decode cX5_lessVariable 102 = .ok (.iload_n 2, 1) := by decide +kernel
theorem dX5_lessVariable_103 : decode cX5_lessVariable 103 = .ok (.iconst 0, 1) := by decide +kernel
theorem dX5_lessVariable_104 : decode cX5_lessVariable 104 = .ok (.iload 5, 2) := by decide +kernel
theorem dX5_lessVariable_106 : decode cX5_lessVariable 106 = .ok (.invokevirtual 94, 3) := by decide +kernel
theorem dX5_lessVariable_109 : decode cX5_lessVariable 109 = .ok (.return_, 1) := by decide +kernel
theorem dX5_equalNumber_0 : decode cX5_equalNumber 0 = .ok (.iload_n 3, 1) := by decide +kernel
theorem dX5_equalNumber_1 : decode cX5_equalNumber 1 = .ok (.ifCond .ne 20, 3) := by decide +kernel
theorem dX5_equalNumber_4 : decode cX5_equalNumber 4 = .ok (.aload_n 0, 1) := by decide +kernel
theorem dX5_equalNumber_5 : decode cX5_equalNumber 5 = .ok (.iload_n 1, 1) := by decide +kernel
theorem dX5_equalNumber_6 : decode cX5_equalNumber 6 = .ok (.iload_n 2, 1) := by decide +kernel
theorem dX5_equalNumber_7 : decode cX5_equalNumber 7 = .ok (.iload_n 2, 1) := by decide +kernel
theorem dX5_equalNumber_8 : decode cX5_equalNumber 8 = .ok (.invokevirtual 94, 3) := by decide +kernel
theorem dX5_equalNumber_11 : decode cX5_equalNumber 11 = .ok (.aload_n 0, 1) := by decide +kernel
theorem dX5_equalNumber_12 : decode cX5_equalNumber 12 = .ok (.getfield 18, 3) := by decide +kernel
theorem dX5_equalNumber_15 : decode cX5_equalNumber 15 = .ok (.iload_n 1, 1) := by decide +kernel
theorem dX5_equalNumber_16 : decode cX5_equalNumber 16 = .ok (.iconst 0, 1) := by decide +kernel
theorem dX5_equalNumber_17 : decode cX5_equalNumber 17 = .ok (.bastore, 1) := by decide +kernel
theorem dX5_equalNumber_18 : decode cX5_equalNumber 18 = .ok (.goto 45, 3) := by decide +kernel
theorem dX5_equalNumber_21 : decode cX5_equalNumber 21 = .ok (.aload_n 0, 1) := by decide +kernel
theorem dX5_equalNumber_22 : decode cX5_equalNumber 22 = .ok (.getfield 9, 3) := by decide +kernel
theorem dX5_equalNumber_25 : decode cX5_equalNumber 25 = .ok (.iload_n 1, 1) := by decide +kernel
theorem dX5_equalNumber_26 : decode cX5_equalNumber 26 = .ok (.iaload, 1) := by decide +kernel
theorem dX5_equalNumber_27 : decode cX5_equalNumber 27 = .ok (.iload_n 2, 1) := by decide +kernel
theorem dX5_equalNumber_28 : decode cX5_equalNumber 28 = .ok (.if_icmp .ne 16, 3) := by decide +kernel
theorem dX5_equalNumber_31 : decode cX5_equalNumber 31 = .ok (.aload_n 0, 1) := by decide +kernel
theorem dX5_equalNumber_32 : decode cX5_equalNumber 32 = .ok (.iload_n 1, 1) := by decide +kernel
theorem dX5_equalNumber_33 : decode cX5_equalNumber 33 = .ok (.iload_n 2, 1) := by decide +kernel
theorem dX5_equalNumber_34 : decode cX5_equalNumber 34 = .ok (.iconst 1, 1) := by decide +kernel
theorem dX5_equalNumber_35 : decode cX5_equalNumber 35 = .ok (.iadd, 1) := by decide +kernel
theorem dX5_equalNumber_36 : decode cX5_equalNumber 36 = .ok (.bipush 50, 2) := by decide +kernel
theorem dX5_equalNumber_38 : decode cX5_equalNumber 38 = .ok (.invokevirtual 94, 3) := by decide +kernel
theorem dX5_equalNumber_41 : decode cX5_equalNumber 41 = .ok (.goto 22, 3) := by decide +kernel
theorem dX5_equalNumber_44 : decode cX5_equalNumber 44 = .ok (.aload_n 0, 1) := by decide +kernel
theorem dX5_equalNumber_45 : decode cX5_equalNumber 45 = .ok (.getfield 15, 3) := by decide +kernel
theorem dX5_equalNumber_48 : decode cX5_equalNumber 48 = .ok (.iload_n 1, 1) := by decide +kernel
theorem dX5_equalNumber_49 : decode cX5_equalNumber 49 = .ok (.iaload, 1) := by decide +kernel
theorem dX5_equalNumber_50 : decode cX5_equalNumber 50 = .ok (.iload_n 2, 1) := by decide +kernel
theorem dX5_equalNumber_51 : decode cX5_equalNumber 51 = .ok (.if_icmp .ne 12, 3) := by decide +kernel
theorem dX5_equalNumber_54 : decode cX5_equalNumber 54 = .ok (.aload_n 0, 1) := by decide +kernel
theorem dX5_equalNumber_55 : decode cX5_equalNumber 55 = .ok (.iload_n 1, 1) := by decide +kernel
theorem dX5_equalNumber_56 : decode cX5_equalNumber 56 = .ok (.iconst 0, 1) := by decide +kernel
theorem dX5_equalNumber_57 : decode cX5_equalNumber 57 = .ok (.iload_n 2, 1) := by decide +kernel
theorem dX5_equalNumber_58 : decode cX5_equalNumber 58 = .ok (.iconst 1, 1) := by decide +kernel
theorem dX5_equalNumber_59 : decode cX5_equalNumber 59 = .ok (.isub, 1) := by decide +kernel
theorem dX5_equalNumber_60 : decode cX5_equalNumber 60 = .ok (.invokevirtual 94, 3) := by decide +kernel
theorem dX5_equalNumber_63 : decode cX5_equalNumber 63 = .ok (.return_, 1) := by decide +kernel
theorem dX5_equalVariable_0 : decode cX5_equalVariable 0 = .ok (.iload_n 3, 1) := by decide +kernel
theorem dX5_equalVariable_1 : decode cX5_equalVariable 1 = .ok (.ifCond .ne 69, 3) := by decide +kernel
theorem dX5_equalVariable_4 : decode cX5_equalVariable 4 = .ok (.aload_n 0, 1) := by decide +kernel
theorem dX5_equalVariable_5 : decode cX5_equalVariable 5 = .ok (.getfield 9, 3) := by decide +kernel
theorem dX5_equalVariable_8 : decode cX5_equalVariable 8 = .ok (.iload_n 1, 1) := by decide +kernel
theorem dX5_equalVariable_9 : decode cX5_equalVariable 9 = .ok (.iaload, 1) := by decide +kernel
theorem dX5_equalVariable_10 : decode cX5_equalVariable 10 = .ok (.aload_n 0, 1) := by decide +kernel
theorem dX5_equalVariable_11 : decode cX5_equalVariable 11 = .ok (.getfield 9, 3) := by decide +kernel
theorem dX5_equalVariable_14 : decode cX5_equalVariable 14 = .ok (.iload_n 2, 1) := by decide +kernel
theorem dX5_equalVariable_15 : decode cX5_equalVariable 15 = .ok (.iaload, 1) := by decide +kernel
theorem dX5_equalVariable_16 : decode cX5_equalVariable 16 = .ok (.invokestatic 62, 3) := by decide +kernel
theorem dX5_equalVariable_19 : decode cX5_equalVariable 19 = .ok (.istore 4, 2) := by decide +kernel
theorem dX5_equalVariable_21 : decode cX5_equalVariable 21 = .ok (.aload_n 0, 1) := by decide +kernel
theorem dX5_equalVariable_22 : decode cX5_equalVariable 22 = .ok (.getfield 15, 3) := by decide +kernel
theorem dX5_equalVariable_25 : decode cX5_equalVariable 25 = .ok (.iload_n 1, 1) := by decide +kernel
theorem dX5_equalVariable_26 : decode cX5_equalVariable 26 = .ok (.iaload, 1) := by decide +kernel
theorem dX5_equalVariable_27 : decode cX5_equalVariable 27 = .ok (.aload_n 0, 1) := by decide +kernel
theorem dX5_equalVariable_28 : decode cX5_equalVariable 28 = .ok (.getfield 15, 3) := by decide +kernel
theorem dX5_equalVariable_31 : decode cX5_equalVariable 31 = .ok (.iload_n 2, 1) := by decide +kernel
theorem dX5_equalVariable_32 : decode cX5_equalVariable 32 = .ok (.iaload, 1) := by decide +kernel
theorem dX5_equalVariable_33 : decode cX5_equalVariable 33 = .ok (.invokestatic 56, 3) := by decide +kernel
theorem dX5_equalVariable_36 : decode cX5_equalVariable 36 = .ok (.istore 5, 2) := by decide +kernel
theorem dX5_equalVariable_38 : decode cX5_equalVariable 38 = .ok (.aload_n 0, 1) := by decide +kernel
theorem dX5_equalVariable_39 : decode cX5_equalVariable 39 = .ok (.iload_n 1, 1) := by decide +kernel
theorem dX5_equalVariable_40 : decode cX5_equalVariable 40 = .ok (.iload 4, 2) := by decide +kernel
theorem dX5_equalVariable_42 : decode cX5_equalVariable 42 = .ok (.iload 5, 2) := by decide +kernel
theorem dX5_equalVariable_44 : decode cX5_equalVariable 44 = .ok (.invokevirtual 94, 3) := by decide +kernel
theorem dX5_equalVariable_47 : decode cX5_equalVariable 47 = .ok (.aload_n 0, 1) := by decide +kernel
theorem dX5_equalVariable_48 : decode cX5_equalVariable 48 = .ok (.iload_n 2, 1) := by decide +kernel
theorem dX5_equalVariable_49 : decode cX5_equalVariable 49 = .ok (.iload 4, 2) := by decide +kernel
theorem dX5_equalVariable_51 : decode cX5_equalVariable 51 = .ok (.iload 5, 2) := by decide +kernel
theorem dX5_equalVariable_53 : decode cX5_equalVariable 53 = .ok (.invokevirtual 94, 3) := by decide +kernel
theorem dX5_equalVariable_56 : decode cX5_equalVariable 56 = .ok (.aload_n 0, 1) := by decide +kernel
theorem dX5_equalVariable_57 : decode cX5_equalVariable 57 = .ok (.getfield 18, 3) := by decide +kernel
theorem dX5_equalVariable_60 : decode cX5_equalVariable 60 = .ok (.iload_n 1, 1) := by decide +kernel
theorem dX5_equalVariable_61 : decode cX5_equalVariable 61 = .ok (.iconst 0, 1) := by decide +kernel
theorem dX5_equalVariable_62 : decode cX5_equalVariable 62 = .ok (.bastore, 1) := by decide +kernel
theorem dX5_equalVariable_63 : decode cX5_equalVariable 63 = .ok (.aload_n 0, 1) := by decide +kernel
theorem dX5_equalVariable_64 : decode cX5_equalVariable 64 = .ok (.getfield 18, 3) := by decide +kernel
theorem dX5_equalVariable_67 : decode cX5_equalVariable 67 = .ok (.iload_n 2, 1) := by decide +kernel
theorem dX5_equalVariable_68 : decode cX5_equalVariable 68 = .ok (.iconst 0, 1) := by decide +kernel
theorem dX5_equalVariable_69 : decode cX5_equalVariable 69 = .ok (.bastore, 1) := by decide +kernel
theorem dX5_equalVariable_70 : decode cX5_equalVariable 70 = .ok (.return_, 1) := by decide +kernel
theorem dX6_init_0 : decode cX6_init 0 = .ok (.aload_n 0, 1) := by decide +kernel
theorem dX6_init_1 : decode cX6_init 1 = .ok (.invokespecial 3, 3) := by decide +kernel
theorem dX6_init_4 : decode cX6_init 4 = .ok (.aload_n 0, 1) := by decide +kernel
theorem dX6_init_5 : decode cX6_init 5 = .ok (.sipush 200, 3) := by decide +kernel
theorem dX6_init_8 : decode cX6_init 8 = .ok (.newarray .int, 2) := by decide +kernel
theorem dX6_init_10 : decode cX6_init 10 = .ok (.putfield 11, 3) := by decide +kernel
theorem dX6_init_13 : decode cX6_init 13 = .ok (.aload_n 0, 1) := by decide +kernel
theorem dX6_init_14 : decode cX6_init 14 = .ok (.iconst 0, 1) := by decide +kernel
theorem dX6_init_15 : decode cX6_init 15 = .ok (.putfield 15, 3) := by decide +kernel
theorem dX6_init_18 : decode cX6_init 18 = .ok (.aload_n 0, 1) := by decide +kernel
theorem dX6_init_19 : decode cX6_init 19 = .ok (.iconst 0, 1) := by decide +kernel
theorem dX6_init_20 : decode cX6_init 20 = .ok (.putfield 19, 3) := by decide +kernel
theorem dX6_init_23 : decode cX6_init 23 = .ok (.aload_n 0, 1) := by decide +kernel
theorem dX6_init_24 : decode cX6_init 24 = .ok (.iconst 0, 1) := by decide +kernel
theorem dX6_init_25 : decode cX6_init 25 = .ok (.putfield 22, 3) := by decide +kernel
theorem dX6_init_28 : decode cX6_init 28 = .ok (.aload_n 0, 1) := by decide +kernel
theorem dX6_init_29 : decode cX6_init 29 = .ok (.iconst 0, 1) := by decide +kernel
theorem dX6_init_30 : decode cX6_init 30 = .ok (.putfield 25, 3) := by decide +kernel
theorem dX6_init_33 : decode cX6_init 33 = .ok (.aload_n 0, 1) := by decide +kernel
theorem dX6_init_34 : decode cX6_init 34 = .ok (.iconst 0, 1) := by decide +kernel
theorem dX6_init_35 : decode cX6_init 35 = .ok (.putfield 28, 3) := by decide +kernel
theorem dX6_init_38 : decode cX6_init 38 = .ok (.aload_n 0, 1) := by decide +kernel
theorem dX6_init_39 : decode cX6_init 39 = .ok (.iconst 0, 1) := by decide +kernel
theorem dX6_init_40 : decode cX6_init 40 = .ok (.putfield 31, 3) := by decide +kernel
theorem dX6_init_43 : decode cX6_init 43 = .ok (.return_, 1) := by decide +kernel
theorem dX6_append_0 : decode cX6_append 0 = .ok (.aload_n 0, 1) := by decide +kernel
theorem dX6_append_1 : decode cX6_append 1 = .ok (.getfield 15, 3) := by decide +kernel
theorem dX6_append_4 : decode cX6_append 4 = .ok (.ifCond .lt 13, 3) := by decide +kernel
theorem dX6_append_7 : decode cX6_append 7 = .ok (.aload_n 0, 1) := by decide +kernel
theorem dX6_append_8 : decode cX6_append 8 = .ok (.getfield 15, 3) := by decide +kernel
theorem dX6_append_11 : decode cX6_append 11 = .ok (.sipush 200, 3) := by decide +kernel
theorem dX6_append_14 : decode cX6_append 14 = .ok (.if_icmp .lt 5, 3) := by decide +kernel
theorem dX6_append_17 : decode cX6_append 17 = .ok (.iconst 0, 1) := by decide +kernel
theorem dX6_append_18 : decode cX6_append 18 = .ok (.ireturn, 1) := by decide +kernel
theorem dX6_append_19 : decode cX6_append 19 = .ok (.aload_n 0, 1) := by decide +kernel
theorem dX6_append_20 : decode cX6_append 20 = .ok (.getfield 11, 3) := by decide +kernel
theorem dX6_append_23 : decode cX6_append 23 = .ok (.aload_n 0, 1) := by decide +kernel
theorem dX6_append_24 : decode cX6_append 24 = .ok (.getfield 15, 3) := by decide +kernel
theorem dX6_append_27 : decode cX6_append 27 = .ok (.iload_n 1, 1) := by decide +kernel
theorem dX6_append_28 : decode cX6_append 28 = .ok (.iastore, 1) := by decide +kernel
theorem dX6_append_29 : decode cX6_append 29 = .ok (.aload_n 0, 1) := by decide +kernel
theorem dX6_append_30 : decode cX6_append 30 = .ok (.dup, 1) := by decide +kernel
theorem dX6_append_31 : decode cX6_append 31 = .ok (.getfield 15, 3) := by decide +kernel
theorem dX6_append_34 : decode cX6_append 34 = .ok (.iconst 1, 1) := by decide +kernel
theorem dX6_append_35 : decode cX6_append 35 = .ok (.iadd, 1) := by decide +kernel
theorem dX6_append_36 : decode cX6_append 36 = .ok (.putfield 15, 3) := by decide +kernel
theorem dX6_append_39 : decode cX6_append 39 = .ok (.iconst 1, 1) := by decide +kernel
theorem dX6_append_40 : decode cX6_append 40 = .ok (.ireturn, 1) := by decide +kernel
theorem dX6_parse_0 : decode cX6_parse 0 = .ok (.aload_n 1, 1) := by decide +kernel
theorem dX6_parse_1 : decode cX6_parse 1 = .ok (.iconst 0, 1) := by decide +kernel
theorem dX6_parse_2 : decode cX6_parse 2 = .ok (.putfield 34, 3) := by decide +kernel
theorem dX6_parse_5 : decode cX6_parse 5 = .ok (.aload_n 0, 1) := by decide +kernel
theorem dX6_parse_6 : decode cX6_parse 6 = .ok (.iconst 0, 1) := by decide +kernel
theorem dX6_parse_7 : decode cX6_parse 7 = .ok (.putfield 19, 3) := by decide +kernel
theorem dX6_parse_10 : decode cX6_parse 10 = .ok (.aload_n 0, 1) := by decide +kernel
theorem dX6_parse_11 : decode cX6_parse 11 = .ok (.iconst 0, 1) := by decide +kernel
theorem dX6_parse_12 : decode cX6_parse 12 = .ok (.putfield 31, 3) := by decide +kernel
theorem dX6_parse_15 : decode cX6_parse 15 = .ok (.aload_n 0, 1) := by decide +kernel
theorem dX6_parse_16 : decode cX6_parse 16 = .ok (.invokevirtual 39, 3) := by decide +kernel
theorem dX6_parse_19 : decode cX6_parse 19 = .ok (.ifCond .ne 5, 3) := by decide +kernel
theorem dX6_parse_22 : decode cX6_parse 22 = .ok (.iconst 0, 1) := by decide +kernel
theorem dX6_parse_23 : decode cX6_parse 23 = .ok (.ireturn, 1) := by decide +kernel
theorem dX6_parse_24 : decode cX6_parse 24 = .ok (.iconst 0, 1) := by decide +kernel
theorem dX6_parse_25 : decode cX6_parse 25 = .ok (.istore_n 2, 1) := by decide +kernel
theorem dX6_parse_26 : decode cX6_parse 26 = .ok (.iload_n 2, 1) := by decide +kernel
theorem dX6_parse_27 : decode cX6_parse 27 = .ok (.bipush 8, 2) := by decide +kernel
theorem dX6_parse_29 : decode cX6_parse 29 = .ok (.if_icmp .ge 29, 3) := by decide +kernel
theorem dX6_parse_32 : decode cX6_parse 32 = .ok (.aload_n 0, 1) := by decide +kernel
theorem dX6_parse_33 : decode cX6_parse 33 = .ok (.getfield 25, 3) := by decide +kernel
theorem dX6_parse_36 : decode cX6_parse 36 = .ok (.ifCond .eq 22, 3) := by decide +kernel
theorem dX6_parse_39 : decode cX6_parse 39 = .ok (.aload_n 0, 1) := by decide +kernel
theorem dX6_parse_40 : decode cX6_parse 40 = .ok (.aload_n 1, 1) := by decide +kernel
theorem dX6_parse_41 : decode cX6_parse 41 = .ok (.invokevirtual 43, 3) := by decide +kernel
theorem dX6_parse_44 : decode cX6_parse 44 = .ok (.invokevirtual 47, 3) := by decide +kernel
theorem dX6_parse_47 : decode cX6_parse 47 = .ok (.ifCond .ne 5, 3) := by decide +kernel
theorem dX6_parse_50 : decode cX6_parse 50 = .ok (.iconst 0, 1) := by decide +kernel
theorem dX6_parse_51 : decode cX6_parse 51 = .ok (.ireturn, 1) := by decide +kernel
theorem dX6_parse_52 : decode cX6_parse 52 = .ok (.iinc 2 1, 3) := by decide +kernel
theorem dX6_parse_55 : decode cX6_parse 55 = .ok (.goto (-29), 3) := by decide +kernel
theorem dX6_parse_58 : decode cX6_parse 58 = .ok (.aload_n 0, 1) := by decide +kernel
theorem dX6_parse_59 : decode cX6_parse 59 = .ok (.getfield 25, 3) := by decide +kernel
theorem dX6_parse_62 : decode cX6_parse 62 = .ok (.ifCond .eq 21, 3) := by decide +kernel
theorem dX6_parse_65 : decode cX6_parse 65 = .ok (.aload_n 0, 1) := by decide +kernel
theorem dX6_parse_66 : decode cX6_parse 66 = .ok (.aload_n 0, 1) := by decide +kernel
theorem dX6_parse_67 : decode cX6_parse 67 = .ok (.getfield 25, 3) := by decide +kernel
theorem dX6_parse_70 : decode cX6_parse 70 = .ok (.iconst 1, 1) := by decide +kernel
theorem dX6_parse_71 : decode cX6_parse 71 = .ok (.if_icmp .ne 7, 3) := by decide +kernel
theorem dX6_parse_74 : decode cX6_parse 74 = .ok (.iconst 5, 1) := by decide +kernel
theorem dX6_parse_75 : decode cX6_parse 75 = .ok (.goto 4, 3) := by decide +kernel
theorem dX6_parse_78 : decode cX6_parse 78 = .ok (.iconst 2, 1) := by decide +kernel
theorem dX6_parse_79 : decode cX6_parse 79 = .ok (.invokevirtual 51, 3) := by decide +kernel
theorem dX6_parse_82 : decode cX6_parse 82 = .ok (.ireturn, 1) := by decide +kernel
theorem dX6_parse_83 : decode cX6_parse 83 = .ok (.aload_n 1, 1) := by decide +kernel
theorem dX6_parse_84 : decode cX6_parse 84 = .ok (.invokevirtual 55, 3) := by decide +kernel
theorem dX6_parse_87 : decode cX6_parse 87 = .ok (.ifCond .ne 12, 3) := by decide +kernel
theorem dX6_parse_90 : decode cX6_parse 90 = .ok (.aload_n 0, 1) := by decide +kernel
theorem dX6_parse_91 : decode cX6_parse 91 = .ok (.bipush 6, 2) := by decide +kernel
theorem dX6_parse_93 : decode cX6_parse 93 = .ok (.invokevirtual 51, 3) := by decide +kernel
theorem dX6_parse_96 : decode cX6_parse 96 = .ok (.ifCond .eq 7, 3) := by decide +kernel
theorem dX6_parse_99 : decode cX6_parse 99 = .ok (.iconst 1, 1) := by decide +kernel
theorem dX6_parse_100 : decode cX6_parse 100 = .ok (.goto 4, 3) := by decide +kernel
theorem dX6_parse_103 : decode cX6_parse 103 = .ok (.iconst 0, 1) := by decide +kernel
theorem dX6_parse_104 : decode cX6_parse 104 = .ok (.ireturn, 1) := by decide +kernel
theorem dX6_parseBlock_0 : decode cX6_parseBlock 0 = .ok (.iconst 0, 1) := by decide +kernel
theorem dX6_parseBlock_1 : decode cX6_parseBlock 1 = .ok (.istore_n 2, 1) := by decide +kernel
theorem dX6_parseBlock_2 : decode cX6_parseBlock 2 = .ok (.iload_n 2, 1) := by decide +kernel
theorem dX6_parseBlock_3 : decode cX6_parseBlock 3 = .ok (.iconst 4, 1) := by decide +kernel
theorem dX6_parseBlock_4 : decode cX6_parseBlock 4 = .ok (.if_icmp .ge 52, 3) := by decide +kernel
theorem dX6_parseBlock_7 : decode cX6_parseBlock 7 = .ok (.aload_n 0, 1) := by decide +kernel
theorem dX6_parseBlock_8 : decode cX6_parseBlock 8 = .ok (.invokevirtual 58, 3) := by decide +kernel
theorem dX6_parseBlock_11 : decode cX6_parseBlock 11 = .ok (.istore_n 3, 1) := by decide +kernel
theorem dX6_parseBlock_12 : decode cX6_parseBlock 12 = .ok (.iload_n 3, 1) := by decide +kernel
theorem dX6_parseBlock_13 : decode cX6_parseBlock 13 = .ok (.ifCond .ge 26, 3) := by decide +kernel
theorem dX6_parseBlock_16 : decode cX6_parseBlock 16 = .ok (.aload_n 0, 1) := by decide +kernel
theorem dX6_parseBlock_17 : decode cX6_parseBlock 17 = .ok (.aload_n 1, 1) := by decide +kernel
theorem dX6_parseBlock_18 : decode cX6_parseBlock 18 = .ok (.invokevirtual 62, 3) := by decide +kernel
theorem dX6_parseBlock_21 : decode cX6_parseBlock 21 = .ok (.ifCond .eq 16, 3) := by decide +kernel
theorem dX6_parseBlock_24 : decode cX6_parseBlock 24 = .ok (.aload_n 0, 1) := by decide +kernel
theorem dX6_parseBlock_25 : decode cX6_parseBlock 25 = .ok (.bipush 59, 2) := by decide +kernel
theorem dX6_parseBlock_27 : decode cX6_parseBlock 27 = .ok (.invokevirtual 65, 3) := by decide +kernel
theorem dX6_parseBlock_30 : decode cX6_parseBlock 30 = .ok (.ifCond .eq 7, 3) := by decide +kernel
theorem dX6_parseBlock_33 : decode cX6_parseBlock 33 = .ok (.iconst 1, 1) := by decide +kernel
theorem dX6_parseBlock_34 : decode cX6_parseBlock 34 = .ok (.goto 4, 3) := by decide +kernel
theorem dX6_parseBlock_37 : decode cX6_parseBlock 37 = .ok (.iconst 0, 1) := by decide +kernel
theorem dX6_parseBlock_38 : decode cX6_parseBlock 38 = .ok (.ireturn, 1) := by decide +kernel
theorem dX6_parseBlock_39 : decode cX6_parseBlock 39 = .ok (.aload_n 0, 1) := by decide +kernel
theorem dX6_parseBlock_40 : decode cX6_parseBlock 40 = .ok (.aload_n 1, 1) := by decide +kernel
theorem dX6_parseBlock_41 : decode cX6_parseBlock 41 = .ok (.iload_n 3, 1) := by decide +kernel
theorem dX6_parseBlock_42 : decode cX6_parseBlock 42 = .ok (.invokevirtual 69, 3) := by decide +kernel
theorem dX6_parseBlock_45 : decode cX6_parseBlock 45 = .ok (.ifCond .ne 5, 3) := by decide +kernel
theorem dX6_parseBlock_48 : decode cX6_parseBlock 48 = .ok (.iconst 0, 1) := by decide +kernel
theorem dX6_parseBlock_49 : decode cX6_parseBlock 49 = .ok (.ireturn, 1) := by decide +kernel
theorem dX6_parseBlock_50 : decode cX6_parseBlock 50 = .ok (.iinc 2 1, 3) := by decide +kernel
theorem dX6_parseBlock_53 : decode cX6_parseBlock 53 = .ok (.goto (-51), 3) := by decide +kernel
theorem dX6_parseBlock_56 : decode cX6_parseBlock 56 = .ok (.aload_n 0, 1) := by decide +kernel
theorem dX6_parseBlock_57 : decode cX6_parseBlock 57 = .ok (.invokevirtual 58, 3) := by decide +kernel
theorem dX6_parseBlock_60 : decode cX6_parseBlock 60 = .ok (.ifCond .lt 9, 3) := by decide +kernel
theorem dX6_parseBlock_63 : decode cX6_parseBlock 63 = .ok (.aload_n 0, 1) := by decide +kernel
theorem dX6_parseBlock_64 : decode cX6_parseBlock 64 = .ok (.iconst 5, 1) := by decide +kernel
theorem dX6_parseBlock_65 : decode cX6_parseBlock 65 = .ok (.invokevirtual 51, 3) := by decide +kernel
theorem dX6_parseBlock_68 : decode cX6_parseBlock 68 = .ok (.ireturn, 1) := by decide +kernel
theorem dX6_parseBlock_69 : decode cX6_parseBlock 69 = .ok (.aload_n 0, 1) := by decide +kernel
theorem dX6_parseBlock_70 : decode cX6_parseBlock 70 = .ok (.aload_n 1, 1) := by decide +kernel
theorem dX6_parseBlock_71 : decode cX6_parseBlock 71 = .ok (.invokevirtual 62, 3) := by decide +kernel
theorem dX6_parseBlock_74 : decode cX6_parseBlock 74 = .ok (.ifCond .eq 16, 3) := by decide +kernel
theorem dX6_parseBlock_77 : decode cX6_parseBlock 77 = .ok (.aload_n 0, 1) := by decide +kernel
theorem dX6_parseBlock_78 : decode cX6_parseBlock 78 = .ok (.bipush 59, 2) := by decide +kernel
theorem dX6_parseBlock_80 : decode cX6_parseBlock 80 = .ok (.invokevirtual 65, 3) := by decide +kernel
theorem dX6_parseBlock_83 : decode cX6_parseBlock 83 = .ok (.ifCond .eq 7, 3) := by decide +kernel
theorem dX6_parseBlock_86 : decode cX6_parseBlock 86 = .ok (.iconst 1, 1) := by decide +kernel
theorem dX6_parseBlock_87 : decode cX6_parseBlock 87 = .ok (.goto 4, 3) := by decide +kernel
theorem dX6_parseBlock_90 : decode cX6_parseBlock 90 = .ok (.iconst 0, 1) := by decide +kernel
theorem dX6_parseBlock_91 : decode cX6_parseBlock 91 = .ok (.ireturn, 1) := by decide +kernel
theorem dX6_parseAct_0 : decode cX6_parseAct 0 = .ok (.aload_n 0, 1) := by decide +kernel
theorem dX6_parseAct_1 : decode cX6_parseAct 1 = .ok (.invokevirtual 39, 3) := by decide +kernel
theorem dX6_parseAct_4 : decode cX6_parseAct 4 = .ok (.ifCond .ne 5, 3) := by decide +kernel
theorem dX6_parseAct_7 : decode cX6_parseAct 7 = .ok (.iconst 0, 1) := by decide +kernel
theorem dX6_parseAct_8 : decode cX6_parseAct 8 = .ok (.ireturn, 1) := by decide +kernel
theorem dX6_parseAct_9 : decode cX6_parseAct 9 = .ok (.aload_n 0, 1) := by decide +kernel
theorem dX6_parseAct_10 : decode cX6_parseAct 10 = .ok (.invokevirtual 73, 3) := by decide +kernel
theorem dX6_parseAct_13 : decode cX6_parseAct 13 = .ok (.istore_n 3, 1) := by decide +kernel
theorem dX6_parseAct_14 : decode cX6_parseAct 14 = .ok (.iload_n 3, 1) := by decide +kernel
theorem dX6_parseAct_15 : decode cX6_parseAct 15 = .ok (.ifCond .ge 5, 3) := by decide +kernel
theorem dX6_parseAct_18 : decode cX6_parseAct 18 = .ok (.iconst 0, 1) := by decide +kernel
theorem dX6_parseAct_19 : decode cX6_parseAct 19 = .ok (.ireturn, 1) := by decide +kernel
theorem dX6_parseAct_20 : decode cX6_parseAct 20 = .ok (.iconst 0, 1) := by decide +kernel
theorem dX6_parseAct_21 : decode cX6_parseAct 21 = .ok (.istore 4, 2) := by decide +kernel
theorem dX6_parseAct_23 : decode cX6_parseAct 23 = .ok (.iload_n 2, 1) := by decide +kernel
theorem dX6_parseAct_24 : decode cX6_parseAct 24 = .ok (.iconst 3, 1) := by decide +kernel
theorem dX6_parseAct_25 : decode cX6_parseAct 25 = .ok (.if_icmp .ne 12, 3) := by decide +kernel
theorem dX6_parseAct_28 : decode cX6_parseAct 28 = .ok (.aload_n 0, 1) := by decide +kernel
theorem dX6_parseAct_29 : decode cX6_parseAct 29 = .ok (.invokevirtual 73, 3) := by decide +kernel
theorem dX6_parseAct_32 : decode cX6_parseAct 32 = .ok (.istore 4, 2) := by decide +kernel
theorem dX6_parseAct_34 : decode cX6_parseAct 34 = .ok (.goto 21, 3) := by decide +kernel
theorem dX6_parseAct_37 : decode cX6_parseAct 37 = .ok (.iload_n 2, 1) := by decide +kernel
theorem dX6_parseAct_38 : decode cX6_parseAct 38 = .ok (.iconst 4, 1) := by decide +kernel
theorem dX6_parseAct_39 : decode cX6_parseAct 39 = .ok (.if_icmp .eq 16, 3) := by decide +kernel
theorem dX6_parseAct_42 : decode cX6_parseAct 42 = .ok (.iload_n 2, 1) := by decide +kernel
theorem dX6_parseAct_43 : decode cX6_parseAct 43 = .ok (.iconst 5, 1) := by decide +kernel
theorem dX6_parseAct_44 : decode cX6_parseAct 44 = .ok (.if_icmp .eq 11, 3) := by decide +kernel
theorem dX6_parseAct_47 : decode cX6_parseAct 47 = .ok (.aload_n 0, 1) := by decide +kernel
theorem dX6_parseAct_48 : decode cX6_parseAct 48 = .ok (.bipush 50, 2) := by decide +kernel
theorem dX6_parseAct_50 : decode cX6_parseAct 50 = .ok (.invokevirtual 76, 3) := by decide +kernel
theorem dX6_parseAct_53 : decode cX6_parseAct 53 = .ok (.istore 4, 2) := by decide +kernel
theorem dX6_parseAct_55 : decode cX6_parseAct 55 = .ok (.iload 4, 2) := by decide +kernel
theorem dX6_parseAct_57 : decode cX6_parseAct 57 = .ok (.ifCond .ge 5, 3) := by decide +kernel
theorem dX6_parseAct_60 : decode cX6_parseAct 60 = .ok (.iconst 0, 1) := by decide +kernel
theorem dX6_parseAct_61 : decode cX6_parseAct 61 = .ok (.ireturn, 1) := by decide +kernel
theorem dX6_parseAct_62 : decode cX6_parseAct 62 = .ok (.aload_n 1, 1) := by decide +kernel
theorem dX6_parseAct_63 : decode cX6_parseAct 63 = .ok (.iload_n 2, 1) := by decide +kernel
theorem dX6_parseAct_64 : decode cX6_parseAct 64 = .ok (.iload_n 3, 1) := by decide +kernel
theorem dX6_parseAct_65 : decode cX6_parseAct 65 = .ok (.iload 4, 2) := by decide +kernel
theorem dX6_parseAct_67 : decode cX6_parseAct 67 = .ok (.invokevirtual 80, 3) := by decide +kernel
theorem dX6_parseAct_70 : decode cX6_parseAct 70 = .ok (.iconst 1, 1) := by decide +kernel
theorem dX6_parseAct_71 : decode cX6_parseAct 71 = .ok (.ireturn, 1) := by decide +kernel
theorem dX6_parseEnd_0 : decode cX6_parseEnd 0 = .ok (.aload_n 0, 1) := by decide +kernel
theorem dX6_parseEnd_1 : decode cX6_parseEnd 1 = .ok (.ldc 86, 2) := by decide +kernel
theorem dX6_parseEnd_3 : decode cX6_parseEnd 3 = .ok (.invokevirtual 88, 3) := by decide +kernel
theorem dX6_parseEnd_6 : decode cX6_parseEnd 6 = .ok (.ifCond .eq 13, 3) := by decide +kernel
theorem dX6_parseEnd_9 : decode cX6_parseEnd 9 = .ok (.aload_n 1, 1) := by decide +kernel
theorem dX6_parseEnd_10 : decode cX6_parseEnd 10 = .ok (.iconst 0, 1) := by decide +kernel
theorem dX6_parseEnd_11 : decode cX6_parseEnd 11 = .ok (.putfield 92, 3) := by decide +kernel
theorem dX6_parseEnd_14 : decode cX6_parseEnd 14 = .ok (.aload_n 0, 1) := by decide +kernel
theorem dX6_parseEnd_15 : decode cX6_parseEnd 15 = .ok (.invokevirtual 39, 3) := by decide +kernel
theorem dX6_parseEnd_18 : decode cX6_parseEnd 18 = .ok (.ireturn, 1) := by decide +kernel
theorem dX6_parseEnd_19 : decode cX6_parseEnd 19 = .ok (.aload_n 0, 1) := by decide +kernel
theorem dX6_parseEnd_20 : decode cX6_parseEnd 20 = .ok (.ldc 95, 2) := by decide +kernel
theorem dX6_parseEnd_22 : decode cX6_parseEnd 22 = .ok (.invokevirtual 88, 3) := by decide +kernel
theorem dX6_parseEnd_25 : decode cX6_parseEnd 25 = .ok (.ifCond .eq 30, 3) := by decide +kernel
theorem dX6_parseEnd_28 : decode cX6_parseEnd 28 = .ok (.aload_n 1, 1) := by decide +kernel
theorem dX6_parseEnd_29 : decode cX6_parseEnd 29 = .ok (.iconst 1, 1) := by decide +kernel
theorem dX6_parseEnd_30 : decode cX6_parseEnd 30 = .ok (.putfield 92, 3) := by decide +kernel
theorem dX6_parseEnd_33 : decode cX6_parseEnd 33 = .ok (.aload_n 0, 1) := by decide +kernel
theorem dX6_parseEnd_34 : decode cX6_parseEnd 34 = .ok (.invokevirtual 39, 3) := by decide +kernel
theorem dX6_parseEnd_37 : decode cX6_parseEnd 37 = .ok (.ifCond .eq 16, 3) := by decide +kernel
theorem dX6_parseEnd_40 : decode cX6_parseEnd 40 = .ok (.aload_n 0, 1) := by decide +kernel
theorem dX6_parseEnd_41 : decode cX6_parseEnd 41 = .ok (.aload_n 1, 1) := by decide +kernel
theorem dX6_parseEnd_42 : decode cX6_parseEnd 42 = .ok (.iconst 0, 1) := by decide +kernel
theorem dX6_parseEnd_43 : decode cX6_parseEnd 43 = .ok (.invokevirtual 97, 3) := by decide +kernel
theorem dX6_parseEnd_46 : decode cX6_parseEnd 46 = .ok (.ifCond .eq 7, 3) := by decide +kernel
theorem dX6_parseEnd_49 : decode cX6_parseEnd 49 = .ok (.iconst 1, 1) := by decide +kernel
theorem dX6_parseEnd_50 : decode cX6_parseEnd 50 = .ok (.goto 4, 3) := by decide +kernel
theorem dX6_parseEnd_53 : decode cX6_parseEnd 53 = .ok (.iconst 0, 1) := by decide +kernel
theorem dX6_parseEnd_54 : decode cX6_parseEnd 54 = .ok (.ireturn, 1) := by decide +kernel
theorem dX6_parseEnd_55 : decode cX6_parseEnd 55 = .ok (.aload_n 0, 1) := by decide +kernel
theorem dX6_parseEnd_56 : decode cX6_parseEnd 56 = .ok (.ldc 100, 2) := by decide +kernel
theorem dX6_parseEnd_58 : decode cX6_parseEnd 58 = .ok (.invokevirtual 88, 3) := by decide +kernel
theorem dX6_parseEnd_61 : decode cX6_parseEnd 61 = .ok (.ifCond .eq 42, 3) := by decide +kernel
theorem dX6_parseEnd_64 : decode cX6_parseEnd 64 = .ok (.aload_n 0, 1) := by decide +kernel
theorem dX6_parseEnd_65 : decode cX6_parseEnd 65 = .ok (.invokevirtual 39, 3) := by decide +kernel
theorem dX6_parseEnd_68 : decode cX6_parseEnd 68 = .ok (.ifCond .eq 33, 3) := by decide +kernel
theorem dX6_parseEnd_71 : decode cX6_parseEnd 71 = .ok (.aload_n 0, 1) := by decide +kernel
theorem dX6_parseEnd_72 : decode cX6_parseEnd 72 = .ok (.aload_n 1, 1) := by decide +kernel
theorem dX6_parseEnd_73 : decode cX6_parseEnd 73 = .ok (.invokevirtual 102, 3) := by decide +kernel
theorem dX6_parseEnd_76 : decode cX6_parseEnd 76 = .ok (.ifCond .eq 25, 3) := by decide +kernel
theorem dX6_parseEnd_79 : decode cX6_parseEnd 79 = .ok (.aload_n 0, 1) := by decide +kernel
theorem dX6_parseEnd_80 : decode cX6_parseEnd 80 = .ok (.aload_n 1, 1) := by decide +kernel
theorem dX6_parseEnd_81 : decode cX6_parseEnd 81 = .ok (.iconst 0, 1) := by decide +kernel
theorem dX6_parseEnd_82 : decode cX6_parseEnd 82 = .ok (.invokevirtual 97, 3) := by decide +kernel
theorem dX6_parseEnd_85 : decode cX6_parseEnd 85 = .ok (.ifCond .eq 16, 3) := by decide +kernel
theorem dX6_parseEnd_88 : decode cX6_parseEnd 88 = .ok (.aload_n 0, 1) := by decide +kernel
theorem dX6_parseEnd_89 : decode cX6_parseEnd 89 = .ok (.aload_n 1, 1) := by decide +kernel
theorem dX6_parseEnd_90 : decode cX6_parseEnd 90 = .ok (.iconst 1, 1) := by decide +kernel
theorem dX6_parseEnd_91 : decode cX6_parseEnd 91 = .ok (.invokevirtual 97, 3) := by decide +kernel
theorem dX6_parseEnd_94 : decode cX6_parseEnd 94 = .ok (.ifCond .eq 7, 3) := by decide +kernel
theorem dX6_parseEnd_97 : decode cX6_parseEnd 97 = .ok (.iconst 1, 1) := by decide +kernel
theorem dX6_parseEnd_98 : decode cX6_parseEnd 98 = .ok (.goto 4, 3) := by decide +kernel
theorem dX6_parseEnd_101 : decode cX6_parseEnd 101 = .ok (.iconst 0, 1) := by decide +kernel
theorem dX6_parseEnd_102 : decode cX6_parseEnd 102 = .ok (.ireturn, 1) := by decide +kernel
theorem dX6_parseEnd_103 : decode cX6_parseEnd 103 = .ok (.aload_n 0, 1) := by decide +kernel
theorem dX6_parseEnd_104 : decode cX6_parseEnd 104 = .ok (.iconst 2, 1) := by decide +kernel
theorem dX6_parseEnd_105 : decode cX6_parseEnd 105 = .ok (.invokevirtual 51, 3) := by decide +kernel
theorem dX6_parseEnd_108 : decode cX6_parseEnd 108 = .ok (.ireturn, 1) := by decide +kernel
theorem dX6_parseTarget_0 : decode cX6_parseTarget 0 = .ok (.aload_n 0, 1) := by decide +kernel
theorem dX6_parseTarget_1 : decode cX6_parseTarget 1 = .ok (.bipush 7, 2) := by decide +kernel
theorem dX6_parseTarget_3 : decode cX6_parseTarget 3 = .ok (.invokevirtual 76, 3) := by decide +kernel
theorem dX6_parseTarget_6 : decode cX6_parseTarget 6 = .ok (.istore_n 3, 1) := by decide +kernel
theorem dX6_parseTarget_7 : decode cX6_parseTarget 7 = .ok (.aload_n 1, 1) := by decide +kernel
theorem dX6_parseTarget_8 : decode cX6_parseTarget 8 = .ok (.iload_n 2, 1) := by decide +kernel
theorem dX6_parseTarget_9 : decode cX6_parseTarget 9 = .ok (.iload_n 3, 1) := by decide +kernel
theorem dX6_parseTarget_10 : decode cX6_parseTarget 10 = .ok (.invokevirtual 105, 3) := by decide +kernel
theorem dX6_parseTarget_13 : decode cX6_parseTarget 13 = .ok (.iload_n 3, 1) := by decide +kernel
theorem dX6_parseTarget_14 : decode cX6_parseTarget 14 = .ok (.ifCond .lt 7, 3) := by decide +kernel
theorem dX6_parseTarget_17 : decode cX6_parseTarget 17 = .ok (.iconst 1, 1) := by decide +kernel
theorem dX6_parseTarget_18 : decode cX6_parseTarget 18 = .ok (.goto 4, 3) := by decide +kernel
theorem dX6_parseTarget_21 : decode cX6_parseTarget 21 = .ok (.iconst 0, 1) := by decide +kernel
theorem dX6_parseTarget_22 : decode cX6_parseTarget 22 = .ok (.ireturn, 1) := by decide +kernel
theorem dX6_parseTest_0 : decode cX6_parseTest 0 = .ok (.aload_n 1, 1) := by decide +kernel
theorem dX6_parseTest_1 : decode cX6_parseTest 1 = .ok (.aload_n 0, 1) := by decide +kernel
theorem dX6_parseTest_2 : decode cX6_parseTest 2 = .ok (.invokevirtual 73, 3) := by decide +kernel
theorem dX6_parseTest_5 : decode cX6_parseTest 5 = .ok (.putfield 109, 3) := by decide +kernel
theorem dX6_parseTest_8 : decode cX6_parseTest 8 = .ok (.aload_n 1, 1) := by decide +kernel
theorem dX6_parseTest_9 : decode cX6_parseTest 9 = .ok (.getfield 109, 3) := by decide +kernel
theorem dX6_parseTest_12 : decode cX6_parseTest 12 = .ok (.ifCond .ge 5, 3) := by decide +kernel
theorem dX6_parseTest_15 : decode cX6_parseTest 15 = .ok (.iconst 0, 1) := by decide +kernel
theorem dX6_parseTest_16 : decode cX6_parseTest 16 = .ok (.ireturn, 1) := by decide +kernel
theorem dX6_parseTest_17 : decode cX6_parseTest 17 = .ok (.aload_n 1, 1) := by decide +kernel
theorem dX6_parseTest_18 : decode cX6_parseTest 18 = .ok (.aload_n 0, 1) := by decide +kernel
theorem dX6_parseTest_19 : decode cX6_parseTest 19 = .ok (.bipush 61, 2) := by decide +kernel
theorem dX6_parseTest_21 : decode cX6_parseTest 21 = .ok (.invokevirtual 112, 3) := by decide +kernel
theorem dX6_parseTest_24 : decode cX6_parseTest 24 = .ok (.ifCond .eq 7, 3) := by decide +kernel
theorem dX6_parseTest_27 : decode cX6_parseTest 27 = .ok (.iconst 3, 1) := by decide +kernel
theorem dX6_parseTest_28 : decode cX6_parseTest 28 = .ok (.goto 4, 3) := by decide +kernel
theorem dX6_parseTest_31 : decode cX6_parseTest 31 = .ok (.iconst 2, 1) := by decide +kernel
theorem dX6_parseTest_32 : decode cX6_parseTest 32 = .ok (.putfield 92, 3) := by decide +kernel
theorem dX6_parseTest_35 : decode cX6_parseTest 35 = .ok (.aload_n 0, 1) := by decide +kernel
theorem dX6_parseTest_36 : decode cX6_parseTest 36 = .ok (.aload_n 0, 1) := by decide +kernel
theorem dX6_parseTest_37 : decode cX6_parseTest 37 = .ok (.bipush 61, 2) := by decide +kernel
theorem dX6_parseTest_39 : decode cX6_parseTest 39 = .ok (.invokevirtual 112, 3) := by decide +kernel
theorem dX6_parseTest_42 : decode cX6_parseTest 42 = .ok (.ifCond .eq 8, 3) := by decide +kernel
theorem dX6_parseTest_45 : decode cX6_parseTest 45 = .ok (.bipush 61, 2) := by decide +kernel
theorem dX6_parseTest_47 : decode cX6_parseTest 47 = .ok (.goto 5, 3) := by decide +kernel
theorem dX6_parseTest_50 : decode cX6_parseTest 50 = .ok (.bipush 60, 2) := by decide +kernel
theorem dX6_parseTest_52 : decode cX6_parseTest 52 = .ok (.invokevirtual 65, 3) := by decide +kernel
theorem dX6_parseTest_55 : decode cX6_parseTest 55 = .ok (.ifCond .ne 5, 3) := by decide +kernel
theorem dX6_parseTest_58 : decode cX6_parseTest 58 = .ok (.iconst 0, 1) := by decide +kernel
theorem dX6_parseTest_59 : decode cX6_parseTest 59 = .ok (.ireturn, 1) := by decide +kernel
theorem dX6_parseTest_60 : decode cX6_parseTest 60 = .ok (.aload_n 1, 1) := by decide +kernel
theorem dX6_parseTest_61 : decode cX6_parseTest 61 = .ok (.aload_n 0, 1) := by decide +kernel
theorem dX6_parseTest_62 : decode cX6_parseTest 62 = .ok (.getfield 25, 3) := by decide +kernel
theorem dX6_parseTest_65 : decode cX6_parseTest 65 = .ok (.iconst 1, 1) := by decide +kernel
theorem dX6_parseTest_66 : decode cX6_parseTest 66 = .ok (.if_icmp .ne 7, 3) := by decide +kernel
theorem dX6_parseTest_69 : decode cX6_parseTest 69 = .ok (.iconst 1, 1) := by decide +kernel
theorem dX6_parseTest_70 : decode cX6_parseTest 70 = .ok (.goto 4, 3) := by decide +kernel
theorem dX6_parseTest_73 : decode cX6_parseTest 73 = .ok (.iconst 0, 1) := by decide +kernel
theorem dX6_parseTest_74 : decode cX6_parseTest 74 = .ok (.putfield 115, 3) := by decide +kernel
theorem dX6_parseTest_77 : decode cX6_parseTest 77 = .ok (.aload_n 1, 1) := by decide +kernel
theorem dX6_parseTest_78 : decode cX6_parseTest 78 = .ok (.aload_n 0, 1) := by decide +kernel
theorem dX6_parseTest_79 : decode cX6_parseTest 79 = .ok (.getfield 25, 3) := by decide +kernel
theorem dX6_parseTest_82 : decode cX6_parseTest 82 = .ok (.iconst 2, 1) := by decide +kernel
theorem dX6_parseTest_83 : decode cX6_parseTest 83 = .ok (.if_icmp .ne 12, 3) := by decide +kernel
theorem dX6_parseTest_86 : decode cX6_parseTest 86 = .ok (.aload_n 0, 1) := by decide +kernel
theorem dX6_parseTest_87 : decode cX6_parseTest 87 = .ok (.bipush 50, 2) := by decide +kernel
theorem dX6_parseTest_89 : decode cX6_parseTest 89 = .ok (.invokevirtual 76, 3) := by decide +kernel
theorem dX6_parseTest_92 : decode cX6_parseTest 92 = .ok (.goto 7, 3) := by decide +kernel
theorem dX6_parseTest_95 : decode cX6_parseTest 95 = .ok (.aload_n 0, 1) := by decide +kernel
theorem dX6_parseTest_96 : decode cX6_parseTest 96 = .ok (.invokevirtual 73, 3) := by decide +kernel
theorem dX6_parseTest_99 : decode cX6_parseTest 99 = .ok (.putfield 119, 3) := by decide +kernel
theorem dX6_parseTest_102 : decode cX6_parseTest 102 = .ok (.aload_n 1, 1) := by decide +kernel
theorem dX6_parseTest_103 : decode cX6_parseTest 103 = .ok (.getfield 119, 3) := by decide +kernel
theorem dX6_parseTest_106 : decode cX6_parseTest 106 = .ok (.ifCond .lt 7, 3) := by decide +kernel
theorem dX6_parseTest_109 : decode cX6_parseTest 109 = .ok (.iconst 1, 1) := by decide +kernel
theorem dX6_parseTest_110 : decode cX6_parseTest 110 = .ok (.goto 4, 3) := by decide +kernel
theorem dX6_parseTest_113 : decode cX6_parseTest 113 = .ok (.iconst 0, 1) := by decide +kernel
theorem dX6_parseTest_114 : decode cX6_parseTest 114 = .ok (.ireturn, 1) := by decide +kernel
theorem dX6_actAtHand_0 : decode cX6_actAtHand 0 = .ok (.aload_n 0, 1) := by decide +kernel
theorem dX6_actAtHand_1 : decode cX6_actAtHand 1 = .ok (.ldc 122, 2) := by decide +kernel
theorem dX6_actAtHand_3 : decode cX6_actAtHand 3 = .ok (.invokevirtual 88, 3) := by decide +kernel
theorem dX6_actAtHand_6 : decode cX6_actAtHand 6 = .ok (.ifCond .eq 5, 3) := by decide +kernel
theorem dX6_actAtHand_9 : decode cX6_actAtHand 9 = .ok (.iconst 0, 1) := by decide +kernel
theorem dX6_actAtHand_10 : decode cX6_actAtHand 10 = .ok (.ireturn, 1) := by decide +kernel
theorem dX6_actAtHand_11 : decode cX6_actAtHand 11 = .ok (.aload_n 0, 1) := by decide +kernel
theorem dX6_actAtHand_12 : decode cX6_actAtHand 12 = .ok (.ldc 124, 2) := by decide +kernel
theorem dX6_actAtHand_14 : decode cX6_actAtHand 14 = .ok (.invokevirtual 88, 3) := by decide +kernel
theorem dX6_actAtHand_17 : decode cX6_actAtHand 17 = .ok (.ifCond .eq 5, 3) := by decide +kernel
theorem dX6_actAtHand_20 : decode cX6_actAtHand 20 = .ok (.iconst 1, 1) := by decide +kernel
theorem dX6_actAtHand_21 : decode cX6_actAtHand 21 = .ok (.ireturn, 1) := by decide +kernel
theorem dX6_actAtHand_22 : decode cX6_actAtHand 22 = .ok (.aload_n 0, 1) := by decide +kernel
theorem dX6_actAtHand_23 : decode cX6_actAtHand 23 = .ok (.ldc 126, 2) := by decide +kernel
theorem dX6_actAtHand_25 : decode cX6_actAtHand 25 = .ok (.invokevirtual 88, 3) := by decide +kernel
theorem dX6_actAtHand_28 : decode cX6_actAtHand 28 = .ok (.ifCond .eq 5, 3) := by decide +kernel
theorem dX6_actAtHand_31 : decode cX6_actAtHand 31 = .ok (.iconst 2, 1) := by decide +kernel
theorem dX6_actAtHand_32 : decode cX6_actAtHand 32 = .ok (.ireturn, 1) := by decide +kernel
theorem dX6_actAtHand_33 : decode cX6_actAtHand 33 = .ok (.aload_n 0, 1) := by decide +kernel
theorem dX6_actAtHand_34 : decode cX6_actAtHand 34 = .ok (.ldc 128, 2) := by decide +kernel
theorem dX6_actAtHand_36 : decode cX6_actAtHand 36 = .ok (.invokevirtual 88, 3) := by decide +kernel
theorem dX6_actAtHand_39 : decode cX6_actAtHand 39 = .ok (.ifCond .eq 5, 3) := by decide +kernel
theorem dX6_actAtHand_42 : decode cX6_actAtHand 42 = .ok (.iconst 3, 1) := by decide +kernel
theorem dX6_actAtHand_43 : decode cX6_actAtHand 43 = .ok (.ireturn, 1) := by decide +kernel
theorem dX6_actAtHand_44 : decode cX6_actAtHand 44 = .ok (.aload_n 0, 1) := by decide +kernel
theorem dX6_actAtHand_45 : decode cX6_actAtHand 45 = .ok (.ldc 130, 2) := by decide +kernel
theorem dX6_actAtHand_47 : decode cX6_actAtHand 47 = .ok (.invokevirtual 88, 3) := by decide +kernel
theorem dX6_actAtHand_50 : decode cX6_actAtHand 50 = .ok (.ifCond .eq 5, 3) := by decide +kernel
theorem dX6_actAtHand_53 : decode cX6_actAtHand 53 = .ok (.iconst 4, 1) := by decide +kernel
theorem dX6_actAtHand_54 : decode cX6_actAtHand 54 = .ok (.ireturn, 1) := by decide +kernel
theorem dX6_actAtHand_55 : decode cX6_actAtHand 55 = .ok (.aload_n 0, 1) := by decide +kernel
theorem dX6_actAtHand_56 : decode cX6_actAtHand 56 = .ok (.ldc 132, 2) := by decide +kernel
theorem dX6_actAtHand_58 : decode cX6_actAtHand 58 = .ok (.invokevirtual 88, 3) := by decide +kernel
theorem dX6_actAtHand_61 : decode cX6_actAtHand 61 = .ok (.ifCond .eq 7, 3) := by decide +kernel
theorem dX6_actAtHand_64 : decode cX6_actAtHand 64 = .ok (.iconst 5, 1) := by decide +kernel
theorem dX6_actAtHand_65 : decode cX6_actAtHand 65 = .ok (.goto 4, 3) := by decide +kernel
theorem dX6_actAtHand_68 : decode cX6_actAtHand 68 = .ok (.iconst (-1), 1) := by decide +kernel
theorem dX6_actAtHand_69 : decode cX6_actAtHand 69 = .ok (.ireturn, 1) := by decide +kernel
theorem dX6_takeVariable_0 : decode cX6_takeVariable 0 = .ok (.aload_n 0, 1) := by decide +kernel
theorem dX6_takeVariable_1 : decode cX6_takeVariable 1 = .ok (.getfield 25, 3) := by decide +kernel
theorem dX6_takeVariable_4 : decode cX6_takeVariable 4 = .ok (.iconst 1, 1) := by decide +kernel
theorem dX6_takeVariable_5 : decode cX6_takeVariable 5 = .ok (.if_icmp .ne 30, 3) := by decide +kernel
theorem dX6_takeVariable_8 : decode cX6_takeVariable 8 = .ok (.aload_n 0, 1) := by decide +kernel
theorem dX6_takeVariable_9 : decode cX6_takeVariable 9 = .ok (.getfield 31, 3) := by decide +kernel
theorem dX6_takeVariable_12 : decode cX6_takeVariable 12 = .ok (.aload_n 0, 1) := by decide +kernel
theorem dX6_takeVariable_13 : decode cX6_takeVariable 13 = .ok (.getfield 28, 3) := by decide +kernel
theorem dX6_takeVariable_16 : decode cX6_takeVariable 16 = .ok (.isub, 1) := by decide +kernel
theorem dX6_takeVariable_17 : decode cX6_takeVariable 17 = .ok (.iconst 1, 1) := by decide +kernel
theorem dX6_takeVariable_18 : decode cX6_takeVariable 18 = .ok (.if_icmp .ne 17, 3) := by decide +kernel
theorem dX6_takeVariable_21 : decode cX6_takeVariable 21 = .ok (.aload_n 0, 1) := by decide +kernel
theorem dX6_takeVariable_22 : decode cX6_takeVariable 22 = .ok (.aload_n 0, 1) := by decide +kernel
theorem dX6_takeVariable_23 : decode cX6_takeVariable 23 = .ok (.getfield 28, 3) := by decide +kernel
theorem dX6_takeVariable_26 : decode cX6_takeVariable 26 = .ok (.invokevirtual 134, 3) := by decide +kernel
theorem dX6_takeVariable_29 : decode cX6_takeVariable 29 = .ok (.bipush 97, 2) := by decide +kernel
theorem dX6_takeVariable_31 : decode cX6_takeVariable 31 = .ok (.isub, 1) := by decide +kernel
theorem dX6_takeVariable_32 : decode cX6_takeVariable 32 = .ok (.goto 4, 3) := by decide +kernel
theorem dX6_takeVariable_35 : decode cX6_takeVariable 35 = .ok (.iconst (-1), 1) := by decide +kernel
theorem dX6_takeVariable_36 : decode cX6_takeVariable 36 = .ok (.istore_n 1, 1) := by decide +kernel
theorem dX6_takeVariable_37 : decode cX6_takeVariable 37 = .ok (.iload_n 1, 1) := by decide +kernel
theorem dX6_takeVariable_38 : decode cX6_takeVariable 38 = .ok (.invokestatic 137, 3) := by decide +kernel
theorem dX6_takeVariable_41 : decode cX6_takeVariable 41 = .ok (.ifCond .ne 11, 3) := by decide +kernel
theorem dX6_takeVariable_44 : decode cX6_takeVariable 44 = .ok (.aload_n 0, 1) := by decide +kernel
theorem dX6_takeVariable_45 : decode cX6_takeVariable 45 = .ok (.iconst 2, 1) := by decide +kernel
theorem dX6_takeVariable_46 : decode cX6_takeVariable 46 = .ok (.invokevirtual 51, 3) := by decide +kernel
theorem dX6_takeVariable_49 : decode cX6_takeVariable 49 = .ok (.pop, 1) := by decide +kernel
theorem dX6_takeVariable_50 : decode cX6_takeVariable 50 = .ok (.iconst (-1), 1) := by decide +kernel
theorem dX6_takeVariable_51 : decode cX6_takeVariable 51 = .ok (.ireturn, 1) := by decide +kernel
theorem dX6_takeVariable_52 : decode cX6_takeVariable 52 = .ok (.aload_n 0, 1) := by decide +kernel
theorem dX6_takeVariable_53 : decode cX6_takeVariable 53 = .ok (.invokevirtual 39, 3) := by decide +kernel
theorem dX6_takeVariable_56 : decode cX6_takeVariable 56 = .ok (.ifCond .eq 7, 3) := by decide +kernel
theorem dX6_takeVariable_59 : decode cX6_takeVariable 59 = .ok (.iload_n 1, 1) := by decide +kernel
theorem dX6_takeVariable_60 : decode cX6_takeVariable 60 = .ok (.goto 4, 3) := by decide +kernel
theorem dX6_takeVariable_63 : decode cX6_takeVariable 63 = .ok (.iconst (-1), 1) := by decide +kernel
theorem dX6_takeVariable_64 : decode cX6_takeVariable 64 = .ok (.ireturn, 1) := by decide +kernel
theorem dX6_takeNumber_0 : decode cX6_takeNumber 0 = .ok (.aload_n 0, 1) := by decide +kernel
theorem dX6_takeNumber_1 : decode cX6_takeNumber 1 = .ok (.getfield 25, 3) := by decide +kernel
theorem dX6_takeNumber_4 : decode cX6_takeNumber 4 = .ok (.iconst 2, 1) := by decide +kernel
theorem dX6_takeNumber_5 : decode cX6_takeNumber 5 = .ok (.if_icmp .ne 10, 3) := by decide +kernel
theorem dX6_takeNumber_8 : decode cX6_takeNumber 8 = .ok (.aload_n 0, 1) := by decide +kernel
theorem dX6_takeNumber_9 : decode cX6_takeNumber 9 = .ok (.invokevirtual 140, 3) := by decide +kernel
theorem dX6_takeNumber_12 : decode cX6_takeNumber 12 = .ok (.goto 4, 3) := by decide +kernel
theorem dX6_takeNumber_15 : decode cX6_takeNumber 15 = .ok (.iconst (-1), 1) := by decide +kernel
theorem dX6_takeNumber_16 : decode cX6_takeNumber 16 = .ok (.istore_n 2, 1) := by decide +kernel
theorem dX6_takeNumber_17 : decode cX6_takeNumber 17 = .ok (.iload_n 2, 1) := by decide +kernel
theorem dX6_takeNumber_18 : decode cX6_takeNumber 18 = .ok (.ifCond .lt 8, 3) := by decide +kernel
theorem dX6_takeNumber_21 : decode cX6_takeNumber 21 = .ok (.iload_n 2, 1) := by decide +kernel
theorem dX6_takeNumber_22 : decode cX6_takeNumber 22 = .ok (.iload_n 1, 1) := by decide +kernel
theorem dX6_takeNumber_23 : decode cX6_takeNumber 23 = .ok (.if_icmp .le 19, 3) := by decide +kernel
theorem dX6_takeNumber_26 : decode cX6_takeNumber 26 = .ok (.aload_n 0, 1) := by decide +kernel
theorem dX6_takeNumber_27 : decode cX6_takeNumber 27 = .ok (.iload_n 2, 1) := by decide +kernel
theorem dX6_takeNumber_28 : decode cX6_takeNumber 28 = .ok (.ifCond .ge 7, 3) := by decide +kernel
theorem dX6_takeNumber_31 : decode cX6_takeNumber 31 = .ok (.iconst 2, 1) := by decide +kernel
theorem dX6_takeNumber_32 : decode cX6_takeNumber 32 = .ok (.goto 4, 3) := by decide +kernel
theorem dX6_takeNumber_35 : decode cX6_takeNumber 35 = .ok (.iconst 3, 1) := by decide +kernel
theorem dX6_takeNumber_36 : decode cX6_takeNumber 36 = .ok (.invokevirtual 51, 3) := by decide +kernel
theorem dX6_takeNumber_39 : decode cX6_takeNumber 39 = .ok (.pop, 1) := by decide +kernel
theorem dX6_takeNumber_40 : decode cX6_takeNumber 40 = .ok (.iconst (-1), 1) := by decide +kernel
theorem dX6_takeNumber_41 : decode cX6_takeNumber 41 = .ok (.ireturn, 1) := by decide +kernel
theorem dX6_takeNumber_42 : decode cX6_takeNumber 42 = .ok (.aload_n 0, 1) := by decide +kernel
theorem dX6_takeNumber_43 : decode cX6_takeNumber 43 = .ok (.invokevirtual 39, 3) := by decide +kernel
theorem dX6_takeNumber_46 : decode cX6_takeNumber 46 = .ok (.ifCond .eq 7, 3) := by decide +kernel
theorem dX6_takeNumber_49 : decode cX6_takeNumber 49 = .ok (.iload_n 2, 1) := by decide +kernel
theorem dX6_takeNumber_50 : decode cX6_takeNumber 50 = .ok (.goto 4, 3) := by decide +kernel
theorem dX6_takeNumber_53 : decode cX6_takeNumber 53 = .ok (.iconst (-1), 1) := by decide +kernel
theorem dX6_takeNumber_54 : decode cX6_takeNumber 54 = .ok (.ireturn, 1) := by decide +kernel
theorem dX6_takeSign_0 : decode cX6_takeSign 0 = .ok (.aload_n 0, 1) := by decide +kernel
theorem dX6_takeSign_1 : decode cX6_takeSign 1 = .ok (.iload_n 1, 1) := by decide +kernel
theorem dX6_takeSign_2 : decode cX6_takeSign 2 = .ok (.invokevirtual 112, 3) := by decide +kernel
theorem dX6_takeSign_5 : decode cX6_takeSign 5 = .ok (.ifCond .eq 10, 3) := by decide +kernel
theorem dX6_takeSign_8 : decode cX6_takeSign 8 = .ok (.aload_n 0, 1) := by decide +kernel
theorem dX6_takeSign_9 : decode cX6_takeSign 9 = .ok (.invokevirtual 39, 3) := by decide +kernel
theorem dX6_takeSign_12 : decode cX6_takeSign 12 = .ok (.goto 8, 3) := by decide +kernel
theorem dX6_takeSign_15 : decode cX6_takeSign 15 = .ok (.aload_n 0, 1) := by decide +kernel
theorem dX6_takeSign_16 : decode cX6_takeSign 16 = .ok (.iconst 2, 1) := by decide +kernel
theorem dX6_takeSign_17 : decode cX6_takeSign 17 = .ok (.invokevirtual 51, 3) := by decide +kernel
theorem dX6_takeSign_20 : decode cX6_takeSign 20 = .ok (.ireturn, 1) := by decide +kernel
theorem dX6_isSign_0 : decode cX6_isSign 0 = .ok (.aload_n 0, 1) := by decide +kernel
theorem dX6_isSign_1 : decode cX6_isSign 1 = .ok (.getfield 25, 3) := by decide +kernel
theorem dX6_isSign_4 : decode cX6_isSign 4 = .ok (.iconst 3, 1) := by decide +kernel
theorem dX6_isSign_5 : decode cX6_isSign 5 = .ok (.if_icmp .ne 19, 3) := by decide +kernel
theorem dX6_isSign_8 : decode cX6_isSign 8 = .ok (.aload_n 0, 1) := by decide +kernel
theorem dX6_isSign_9 : decode cX6_isSign 9 = .ok (.aload_n 0, 1) := by decide +kernel
theorem dX6_isSign_10 : decode cX6_isSign 10 = .ok (.getfield 28, 3) := by decide +kernel
theorem dX6_isSign_13 : decode cX6_isSign 13 = .ok (.invokevirtual 134, 3) := by decide +kernel
theorem dX6_isSign_16 : decode cX6_isSign 16 = .ok (.iload_n 1, 1) := by decide +kernel
theorem dX6_isSign_17 : decode cX6_isSign 17 = .ok (.if_icmp .ne 7, 3) := by decide +kernel
theorem dX6_isSign_20 : decode cX6_isSign 20 = .ok (.iconst 1, 1) := by decide +kernel
theorem dX6_isSign_21 : decode cX6_isSign 21 = .ok (.goto 4, 3) := by decide +kernel
theorem dX6_isSign_24 : decode cX6_isSign 24 = .ok (.iconst 0, 1) := by decide +kernel
theorem dX6_isSign_25 : decode cX6_isSign 25 = .ok (.ireturn, 1) := by decide +kernel
theorem dX6_isWord_0 : decode cX6_isWord 0 = .ok (.aload_n 0, 1) := by decide +kernel
theorem dX6_isWord_1 : decode cX6_isWord 1 = .ok (.getfield 25, 3) := by decide +kernel
theorem dX6_isWord_4 : decode cX6_isWord 4 = .ok (.iconst 1, 1) := by decide +kernel
theorem dX6_isWord_5 : decode cX6_isWord 5 = .ok (.if_icmp .ne 19, 3) := by decide +kernel
theorem dX6_isWord_8 : decode cX6_isWord 8 = .ok (.aload_n 0, 1) := by decide +kernel
theorem dX6_isWord_9 : decode cX6_isWord 9 = .ok (.getfield 31, 3) := by decide +kernel
theorem dX6_isWord_12 : decode cX6_isWord 12 = .ok (.aload_n 0, 1) := by decide +kernel
theorem dX6_isWord_13 : decode cX6_isWord 13 = .ok (.getfield 28, 3) := by decide +kernel
theorem dX6_isWord_16 : decode cX6_isWord 16 = .ok (.isub, 1) := by decide +kernel
theorem dX6_isWord_17 : decode cX6_isWord 17 = .ok (.aload_n 1, 1) := by decide +kernel
theorem dX6_isWord_18 : decode cX6_isWord 18 = .ok (.invokevirtual 143, 3) := by decide +kernel
theorem dX6_isWord_21 : decode cX6_isWord 21 = .ok (.if_icmp .eq 5, 3) := by decide +kernel
theorem dX6_isWord_24 : decode cX6_isWord 24 = .ok (.iconst 0, 1) := by decide +kernel
theorem dX6_isWord_25 : decode cX6_isWord 25 = .ok (.ireturn, 1) := by decide +kernel
theorem dX6_isWord_26 : decode cX6_isWord 26 = .ok (.iconst 0, 1) := by decide +kernel
theorem dX6_isWord_27 : decode cX6_isWord 27 = .ok (.istore_n 2, 1) := by decide +kernel
theorem dX6_isWord_28 : decode cX6_isWord 28 = .ok (.iload_n 2, 1) := by decide +kernel
theorem dX6_isWord_29 : decode cX6_isWord 29 = .ok (.aload_n 1, 1) := by decide +kernel
theorem dX6_isWord_30 : decode cX6_isWord 30 = .ok (.invokevirtual 143, 3) := by decide +kernel
theorem dX6_isWord_33 : decode cX6_isWord 33 = .ok (.if_icmp .ge 29, 3) := by decide +kernel
theorem dX6_isWord_36 : decode cX6_isWord 36 = .ok (.aload_n 0, 1) := by decide +kernel
theorem dX6_isWord_37 : decode cX6_isWord 37 = .ok (.aload_n 0, 1) := by decide +kernel
theorem dX6_isWord_38 : decode cX6_isWord 38 = .ok (.getfield 28, 3) := by decide +kernel
theorem dX6_isWord_41 : decode cX6_isWord 41 = .ok (.iload_n 2, 1) := by decide +kernel
theorem dX6_isWord_42 : decode cX6_isWord 42 = .ok (.iadd, 1) := by decide +kernel
theorem dX6_isWord_43 : decode cX6_isWord 43 = .ok (.invokevirtual 134, 3) := by decide +kernel
theorem dX6_isWord_46 : decode cX6_isWord 46 = .ok (.aload_n 1, 1) := by decide +kernel
theorem dX6_isWord_47 : decode cX6_isWord 47 = .ok (.iload_n 2, 1) := by decide +kernel
theorem dX6_isWord_48 : decode cX6_isWord 48 = .ok (.invokevirtual 147, 3) := by decide +kernel
theorem dX6_isWord_51 : decode cX6_isWord 51 = .ok (.if_icmp .eq 5, 3) := by decide +kernel
theorem dX6_isWord_54 : decode cX6_isWord 54 = .ok (.iconst 0, 1) := by decide +kernel
theorem dX6_isWord_55 : decode cX6_isWord 55 = .ok (.ireturn, 1) := by decide +kernel
theorem dX6_isWord_56 : decode cX6_isWord 56 = .ok (.iinc 2 1, 3) := by decide +kernel
theorem dX6_isWord_59 : decode cX6_isWord 59 = .ok (.goto (-31), 3) := by decide +kernel
theorem dX6_isWord_62 : decode cX6_isWord 62 = .ok (.iconst 1, 1) := by decide +kernel
theorem dX6_isWord_63 : decode cX6_isWord 63 = .ok (.ireturn, 1) := by decide +kernel
theorem dX6_fail_0 : decode cX6_fail 0 = .ok (.aload_n 0, 1) := by decide +kernel
theorem dX6_fail_1 : decode cX6_fail 1 = .ok (.iload_n 1, 1) := by decide +kernel
theorem dX6_fail_2 : decode cX6_fail 2 = .ok (.putfield 19, 3) := by decide +kernel
theorem dX6_fail_5 : decode cX6_fail 5 = .ok (.aload_n 0, 1) := by decide +kernel
theorem dX6_fail_6 : decode cX6_fail 6 = .ok (.aload_n 0, 1) := by decide +kernel
theorem dX6_fail_7 : decode cX6_fail 7 = .ok (.getfield 28, 3) := by decide +kernel
theorem dX6_fail_10 : decode cX6_fail 10 = .ok (.putfield 22, 3) := by decide +kernel
theorem dX6_fail_13 : decode cX6_fail 13 = .ok (.iconst 0, 1) := by decide +kernel
theorem dX6_fail_14 : decode cX6_fail 14 = .ok (.ireturn, 1) := by decide +kernel
theorem dX6_advance_0 : decode cX6_advance 0 = .ok (.aload_n 0, 1) := by decide +kernel
theorem dX6_advance_1 : decode cX6_advance 1 = .ok (.aload_n 0, 1) := by decide +kernel
theorem dX6_advance_2 : decode cX6_advance 2 = .ok (.getfield 31, 3) := by decide +kernel
theorem dX6_advance_5 : decode cX6_advance 5 = .ok (.putfield 28, 3) := by decide +kernel
theorem dX6_advance_8 : decode cX6_advance 8 = .ok (.aload_n 0, 1) := by decide +kernel
theorem dX6_advance_9 : decode cX6_advance 9 = .ok (.getfield 28, 3) := by decide +kernel
theorem dX6_advance_12 : decode cX6_advance 12 = .ok (.aload_n 0, 1) := by decide +kernel
theorem dX6_advance_13 : decode cX6_advance 13 = .ok (.getfield 15, 3) := by decide +kernel
theorem dX6_advance_16 : decode cX6_advance 16 = .ok (.if_icmp .ge 29, 3) := by decide +kernel
theorem dX6_advance_19 : decode cX6_advance 19 = .ok (.aload_n 0, 1) := by decide +kernel
theorem dX6_advance_20 : decode cX6_advance 20 = .ok (.aload_n 0, 1) := by decide +kernel
theorem dX6_advance_21 : decode cX6_advance 21 = .ok (.getfield 28, 3) := by decide +kernel
theorem dX6_advance_24 : decode cX6_advance 24 = .ok (.invokevirtual 134, 3) := by decide +kernel
theorem dX6_advance_27 : decode cX6_advance 27 = .ok (.bipush 32, 2) := by decide +kernel
theorem dX6_advance_29 : decode cX6_advance 29 = .ok (.if_icmp .ne 16, 3) := by decide +kernel
theorem dX6_advance_32 : decode cX6_advance 32 = .ok (.aload_n 0, 1) := by decide +kernel
theorem dX6_advance_33 : decode cX6_advance 33 = .ok (.dup, 1) := by decide +kernel
theorem dX6_advance_34 : decode cX6_advance 34 = .ok (.getfield 28, 3) := by decide +kernel
theorem dX6_advance_37 : decode cX6_advance 37 = .ok (.iconst 1, 1) := by decide +kernel
theorem dX6_advance_38 : decode cX6_advance 38 = .ok (.iadd, 1) := by decide +kernel
theorem dX6_advance_39 : decode cX6_advance 39 = .ok (.putfield 28, 3) := by decide +kernel
theorem dX6_advance_42 : decode cX6_advance 42 = .ok (.goto (-34), 3) := by decide +kernel
theorem dX6_advance_45 : decode cX6_advance 45 = .ok (.aload_n 0, 1) := by decide +kernel
theorem dX6_advance_46 : decode cX6_advance 46 = .ok (.getfield 28, 3) := by decide +kernel
theorem dX6_advance_49 : decode cX6_advance 49 = .ok (.aload_n 0, 1) := by decide +kernel
theorem dX6_advance_50 : decode cX6_advance 50 = .ok (.getfield 15, 3) := by decide +kernel
theorem dX6_advance_53 : decode cX6_advance 53 = .ok (.if_icmp .lt 18, 3) := by decide +kernel
theorem dX6_advance_56 : decode cX6_advance 56 = .ok (.aload_n 0, 1) := by decide +kernel
theorem dX6_advance_57 : decode cX6_advance 57 = .ok (.iconst 0, 1) := by decide +kernel
theorem dX6_advance_58 : decode cX6_advance 58 = .ok (.putfield 25, 3) := by decide +kernel
theorem dX6_advance_61 : decode cX6_advance 61 = .ok (.aload_n 0, 1) := by decide +kernel
theorem dX6_advance_62 : decode cX6_advance 62 = .ok (.aload_n 0, 1) := by decide +kernel
theorem dX6_advance_63 : decode cX6_advance 63 = .ok (.getfield 28, 3) := by decide +kernel
theorem dX6_advance_66 : decode cX6_advance 66 = .ok (.putfield 31, 3) := by decide +kernel
theorem dX6_advance_69 : decode cX6_advance 69 = .ok (.iconst 1, 1) := by decide +kernel
theorem dX6_advance_70 : decode cX6_advance 70 = .ok (.ireturn, 1) := by decide +kernel
theorem dX6_advance_71 : decode cX6_advance 71 = .ok (.aload_n 0, 1) := by decide +kernel
theorem dX6_advance_72 : decode cX6_advance 72 = .ok (.aload_n 0, 1) := by decide +kernel
theorem dX6_advance_73 : decode cX6_advance 73 = .ok (.aload_n 0, 1) := by decide +kernel
theorem dX6_advance_74 : decode cX6_advance 74 = .ok (.getfield 28, 3) := by decide +kernel
theorem dX6_advance_77 : decode cX6_advance 77 = .ok (.invokevirtual 134, 3) := by decide +kernel
theorem dX6_advance_80 : decode cX6_advance 80 = .ok (.invokestatic 151, 3) := by decide +kernel
theorem dX6_advance_83 : decode cX6_advance 83 = .ok (.putfield 25, 3) := by decide +kernel
theorem dX6_advance_86 : decode cX6_advance 86 = .ok (.aload_n 0, 1) := by decide +kernel
theorem dX6_advance_87 : decode cX6_advance 87 = .ok (.aload_n 0, 1) := by decide +kernel
theorem dX6_advance_88 : decode cX6_advance 88 = .ok (.getfield 28, 3) := by decide +kernel
theorem dX6_advance_91 : decode cX6_advance 91 = .ok (.iconst 1, 1) := by decide +kernel
theorem dX6_advance_92 : decode cX6_advance 92 = .ok (.iadd, 1) := by decide +kernel
theorem dX6_advance_93 : decode cX6_advance 93 = .ok (.putfield 31, 3) := by decide +kernel
theorem dX6_advance_96 : decode cX6_advance 96 = .ok (.aload_n 0, 1) := by decide +kernel
theorem dX6_advance_97 : decode cX6_advance 97 = .ok (.getfield 25, 3) := by decide +kernel
theorem dX6_advance_100 : decode cX6_advance 100 = .ok (.iconst 1, 1) := by decide +kernel
theorem dX6_advance_101 : decode cX6_advance 101 = .ok (.if_icmp .eq 11, 3) := by decide +kernel
theorem dX6_advance_104 : decode cX6_advance 104 = .ok (.aload_n 0, 1) := by decide +kernel
theorem dX6_advance_105 : decode cX6_advance 105 = .ok (.getfield 25, 3) := by decide +kernel
theorem dX6_advance_108 : decode cX6_advance 108 = .ok (.iconst 2, 1) := by decide +kernel
theorem dX6_advance_109 : decode cX6_advance 109 = .ok (.if_icmp .ne 45, 3) := by decide +kernel
theorem dX6_advance_112 : decode cX6_advance 112 = .ok (.aload_n 0, 1) := by decide +kernel
theorem dX6_advance_113 : decode cX6_advance 113 = .ok (.getfield 31, 3) := by decide +kernel
theorem dX6_advance_116 : decode cX6_advance 116 = .ok (.aload_n 0, 1) := by decide +kernel
theorem dX6_advance_117 : decode cX6_advance 117 = .ok (.getfield 15, 3) := by decide +kernel
theorem dX6_advance_120 : decode cX6_advance 120 = .ok (.if_icmp .ge 34, 3) := by decide +kernel
theorem dX6_advance_123 : decode cX6_advance 123 = .ok (.aload_n 0, 1) := by decide +kernel
theorem dX6_advance_124 : decode cX6_advance 124 = .ok (.aload_n 0, 1) := by decide +kernel
theorem dX6_advance_125 : decode cX6_advance 125 = .ok (.getfield 31, 3) := by decide +kernel
theorem dX6_advance_128 : decode cX6_advance 128 = .ok (.invokevirtual 134, 3) := by decide +kernel
theorem dX6_advance_131 : decode cX6_advance 131 = .ok (.invokestatic 151, 3) := by decide +kernel
theorem dX6_advance_134 : decode cX6_advance 134 = .ok (.aload_n 0, 1) := by decide +kernel
theorem dX6_advance_135 : decode cX6_advance 135 = .ok (.getfield 25, 3) := by decide +kernel
theorem dX6_advance_138 : decode cX6_advance 138 = .ok (.if_icmp .ne 16, 3) := by decide +kernel
theorem dX6_advance_141 : decode cX6_advance 141 = .ok (.aload_n 0, 1) := by decide +kernel
theorem dX6_advance_142 : decode cX6_advance 142 = .ok (.dup, 1) := by decide +kernel
theorem dX6_advance_143 : decode cX6_advance 143 = .ok (.getfield 31, 3) := by decide +kernel
theorem dX6_advance_146 : decode cX6_advance 146 = .ok (.iconst 1, 1) := by decide +kernel
theorem dX6_advance_147 : decode cX6_advance 147 = .ok (.iadd, 1) := by decide +kernel
theorem dX6_advance_148 : decode cX6_advance 148 = .ok (.putfield 31, 3) := by decide +kernel
theorem dX6_advance_151 : decode cX6_advance 151 = .ok (.goto (-39), 3) := by decide +kernel
theorem dX6_advance_154 : decode cX6_advance 154 = .ok (.aload_n 0, 1) := by decide +kernel
theorem dX6_advance_155 : decode cX6_advance 155 = .ok (.getfield 25, 3) := by decide +kernel
theorem dX6_advance_158 : decode cX6_advance 158 = .ok (.iconst 4, 1) := by decide +kernel
theorem dX6_advance_159 : decode cX6_advance 159 = .ok (.if_icmp .eq 24, 3) := by decide +kernel
theorem dX6_advance_162 : decode cX6_advance 162 = .ok (.aload_n 0, 1) := by decide +kernel
theorem dX6_advance_163 : decode cX6_advance 163 = .ok (.getfield 25, 3) := by decide +kernel
theorem dX6_advance_166 : decode cX6_advance 166 = .ok (.iconst 2, 1) := by decide +kernel
theorem dX6_advance_167 : decode cX6_advance 167 = .ok (.if_icmp .ne 22, 3) := by decide +kernel
theorem dX6_advance_170 : decode cX6_advance 170 = .ok (.aload_n 0, 1) := by decide +kernel
theorem dX6_advance_171 : decode cX6_advance 171 = .ok (.getfield 31, 3) := by decide +kernel
theorem dX6_advance_174 : decode cX6_advance 174 = .ok (.aload_n 0, 1) := by decide +kernel
theorem dX6_advance_175 : decode cX6_advance 175 = .ok (.getfield 28, 3) := by decide +kernel
theorem dX6_advance_178 : decode cX6_advance 178 = .ok (.isub, 1) := by decide +kernel
theorem dX6_advance_179 : decode cX6_advance 179 = .ok (.iconst 2, 1) := by decide +kernel
theorem dX6_advance_180 : decode cX6_advance 180 = .ok (.if_icmp .le 9, 3) := by decide +kernel
theorem dX6_advance_183 : decode cX6_advance 183 = .ok (.aload_n 0, 1) := by decide +kernel
theorem dX6_advance_184 : decode cX6_advance 184 = .ok (.iconst 1, 1) := by decide +kernel
theorem dX6_advance_185 : decode cX6_advance 185 = .ok (.invokevirtual 51, 3) := by decide +kernel
theorem dX6_advance_188 : decode cX6_advance 188 = .ok (.ireturn, 1) := by decide +kernel
theorem dX6_advance_189 : decode cX6_advance 189 = .ok (.iconst 1, 1) := by decide +kernel
theorem dX6_advance_190 : decode cX6_advance 190 = .ok (.ireturn, 1) := by decide +kernel
theorem dX6_valueAtHand_0 : decode cX6_valueAtHand 0 = .ok (.iconst 0, 1) := by decide +kernel
theorem dX6_valueAtHand_1 : decode cX6_valueAtHand 1 = .ok (.istore_n 1, 1) := by decide +kernel
theorem dX6_valueAtHand_2 : decode cX6_valueAtHand 2 = .ok (.aload_n 0, 1) := by decide +kernel
theorem dX6_valueAtHand_3 : decode cX6_valueAtHand 3 = .ok (.getfield 28, 3) := by decide +kernel
theorem dX6_valueAtHand_6 : decode cX6_valueAtHand 6 = .ok (.istore_n 2, 1) := by decide +kernel
theorem dX6_valueAtHand_7 : decode cX6_valueAtHand 7 = .ok (.iload_n 2, 1) := by decide +kernel
theorem dX6_valueAtHand_8 : decode cX6_valueAtHand 8 = .ok (.aload_n 0, 1) := by decide +kernel
theorem dX6_valueAtHand_9 : decode cX6_valueAtHand 9 = .ok (.getfield 31, 3) := by decide +kernel
theorem dX6_valueAtHand_12 : decode cX6_valueAtHand 12 = .ok (.if_icmp .ge 23, 3) := by decide +kernel
theorem dX6_valueAtHand_15 : decode cX6_valueAtHand 15 = .ok (.bipush 10, 2) := by decide +kernel
theorem dX6_valueAtHand_17 : decode cX6_valueAtHand 17 = .ok (.iload_n 1, 1) := by decide +kernel
theorem dX6_valueAtHand_18 : decode cX6_valueAtHand 18 = .ok (.imul, 1) := by decide +kernel
theorem dX6_valueAtHand_19 : decode cX6_valueAtHand 19 = .ok (.aload_n 0, 1) := by decide +kernel
theorem dX6_valueAtHand_20 : decode cX6_valueAtHand 20 = .ok (.iload_n 2, 1) := by decide +kernel
theorem dX6_valueAtHand_21 : decode cX6_valueAtHand 21 = .ok (.invokevirtual 134, 3) := by decide +kernel
theorem dX6_valueAtHand_24 : decode cX6_valueAtHand 24 = .ok (.iadd, 1) := by decide +kernel
theorem dX6_valueAtHand_25 : decode cX6_valueAtHand 25 = .ok (.bipush 48, 2) := by decide +kernel
theorem dX6_valueAtHand_27 : decode cX6_valueAtHand 27 = .ok (.isub, 1) := by decide +kernel
theorem dX6_valueAtHand_28 : decode cX6_valueAtHand 28 = .ok (.istore_n 1, 1) := by decide +kernel
theorem dX6_valueAtHand_29 : decode cX6_valueAtHand 29 = .ok (.iinc 2 1, 3) := by decide +kernel
theorem dX6_valueAtHand_32 : decode cX6_valueAtHand 32 = .ok (.goto (-25), 3) := by decide +kernel
theorem dX6_valueAtHand_35 : decode cX6_valueAtHand 35 = .ok (.iload_n 1, 1) := by decide +kernel
theorem dX6_valueAtHand_36 : decode cX6_valueAtHand 36 = .ok (.ireturn, 1) := by decide +kernel
theorem dX6_byteAt_0 : decode cX6_byteAt 0 = .ok (.iload_n 1, 1) := by decide +kernel
theorem dX6_byteAt_1 : decode cX6_byteAt 1 = .ok (.ifCond .lt 27, 3) := by decide +kernel
theorem dX6_byteAt_4 : decode cX6_byteAt 4 = .ok (.iload_n 1, 1) := by decide +kernel
theorem dX6_byteAt_5 : decode cX6_byteAt 5 = .ok (.aload_n 0, 1) := by decide +kernel
theorem dX6_byteAt_6 : decode cX6_byteAt 6 = .ok (.getfield 15, 3) := by decide +kernel
theorem dX6_byteAt_9 : decode cX6_byteAt 9 = .ok (.if_icmp .ge 19, 3) := by decide +kernel
theorem dX6_byteAt_12 : decode cX6_byteAt 12 = .ok (.iload_n 1, 1) := by decide +kernel
theorem dX6_byteAt_13 : decode cX6_byteAt 13 = .ok (.sipush 200, 3) := by decide +kernel
theorem dX6_byteAt_16 : decode cX6_byteAt 16 = .ok (.if_icmp .ge 12, 3) := by decide +kernel
theorem dX6_byteAt_19 : decode cX6_byteAt 19 = .ok (.aload_n 0, 1) := by decide +kernel
theorem dX6_byteAt_20 : decode cX6_byteAt 20 = .ok (.getfield 11, 3) := by decide +kernel
theorem dX6_byteAt_23 : decode cX6_byteAt 23 = .ok (.iload_n 1, 1) := by decide +kernel
theorem dX6_byteAt_24 : decode cX6_byteAt 24 = .ok (.iaload, 1) := by decide +kernel
theorem dX6_byteAt_25 : decode cX6_byteAt 25 = .ok (.goto 4, 3) := by decide +kernel
theorem dX6_byteAt_28 : decode cX6_byteAt 28 = .ok (.iconst 0, 1) := by decide +kernel
theorem dX6_byteAt_29 : decode cX6_byteAt 29 = .ok (.ireturn, 1) := by decide +kernel
theorem dX6_sortOf_0 : decode cX6_sortOf 0 = .ok (.iload_n 0, 1) := by decide +kernel
theorem dX6_sortOf_1 : decode cX6_sortOf 1 = .ok (.bipush 97, 2) := by decide +kernel
theorem dX6_sortOf_3 : decode cX6_sortOf 3 = .ok (.if_icmp .lt 11, 3) := by decide +kernel
theorem dX6_sortOf_6 : decode cX6_sortOf 6 = .ok (.iload_n 0, 1) := by decide +kernel
theorem dX6_sortOf_7 : decode cX6_sortOf 7 = .ok (.bipush 122, 2) := by decide +kernel
theorem dX6_sortOf_9 : decode cX6_sortOf 9 = .ok (.if_icmp .gt 5, 3) := by decide +kernel
theorem dX6_sortOf_12 : decode cX6_sortOf 12 = .ok (.iconst 1, 1) := by decide +kernel
theorem dX6_sortOf_13 : decode cX6_sortOf 13 = .ok (.ireturn, 1) := by decide +kernel
theorem dX6_sortOf_14 : decode cX6_sortOf 14 = .ok (.iload_n 0, 1) := by decide +kernel
theorem dX6_sortOf_15 : decode cX6_sortOf 15 = .ok (.bipush 48, 2) := by decide +kernel
theorem dX6_sortOf_17 : decode cX6_sortOf 17 = .ok (.if_icmp .lt 11, 3) := by decide +kernel
theorem dX6_sortOf_20 : decode cX6_sortOf 20 = .ok (.iload_n 0, 1) := by decide +kernel
theorem dX6_sortOf_21 : decode cX6_sortOf 21 = .ok (.bipush 57, 2) := by decide +kernel
theorem dX6_sortOf_23 : decode cX6_sortOf 23 = .ok (.if_icmp .gt 5, 3) := by decide +kernel
theorem dX6_sortOf_26 : decode cX6_sortOf 26 = .ok (.iconst 2, 1) := by decide +kernel
theorem dX6_sortOf_27 : decode cX6_sortOf 27 = .ok (.ireturn, 1) := by decide +kernel
theorem dX6_sortOf_28 : decode cX6_sortOf 28 = .ok (.iload_n 0, 1) := by decide +kernel
theorem dX6_sortOf_29 : decode cX6_sortOf 29 = .ok (.bipush 59, 2) := by decide +kernel
theorem dX6_sortOf_31 : decode cX6_sortOf 31 = .ok (.if_icmp .eq 15, 3) := by decide +kernel
theorem dX6_sortOf_34 : decode cX6_sortOf 34 = .ok (.iload_n 0, 1) := by decide +kernel
theorem dX6_sortOf_35 : decode cX6_sortOf 35 = .ok (.bipush 60, 2) := by decide +kernel
theorem dX6_sortOf_37 : decode cX6_sortOf 37 = .ok (.if_icmp .eq 9, 3) := by decide +kernel
theorem dX6_sortOf_40 : decode cX6_sortOf 40 = .ok (.iload_n 0, 1) := by decide +kernel
theorem dX6_sortOf_41 : decode cX6_sortOf 41 = .ok (.bipush 61, 2) := by decide +kernel
theorem dX6_sortOf_43 : decode cX6_sortOf 43 = .ok (.if_icmp .ne 7, 3) := by decide +kernel
theorem dX6_sortOf_46 : decode cX6_sortOf 46 = .ok (.iconst 3, 1) := by decide +kernel
theorem dX6_sortOf_47 : decode cX6_sortOf 47 = .ok (.goto 4, 3) := by decide +kernel
theorem dX6_sortOf_50 : decode cX6_sortOf 50 = .ok (.iconst 4, 1) := by decide +kernel
theorem dX6_sortOf_51 : decode cX6_sortOf 51 = .ok (.ireturn, 1) := by decide +kernel
theorem dX7_init_0 : decode cX7_init 0 = .ok (.aload_n 0, 1) := by decide +kernel
theorem dX7_init_1 : decode cX7_init 1 = .ok (.invokespecial 3, 3) := by decide +kernel
theorem dX7_init_4 : decode cX7_init 4 = .ok (.aload_n 0, 1) := by decide +kernel
theorem dX7_init_5 : decode cX7_init 5 = .ok (.iconst 4, 1) := by decide +kernel
theorem dX7_init_6 : decode cX7_init 6 = .ok (.newarray .int, 2) := by decide +kernel
theorem dX7_init_8 : decode cX7_init 8 = .ok (.putfield 9, 3) := by decide +kernel
theorem dX7_init_11 : decode cX7_init 11 = .ok (.aload_n 0, 1) := by decide +kernel
theorem dX7_init_12 : decode cX7_init 12 = .ok (.bipush 60, 2) := by decide +kernel
theorem dX7_init_14 : decode cX7_init 14 = .ok (.newarray .int, 2) := by decide +kernel
theorem dX7_init_16 : decode cX7_init 16 = .ok (.putfield 15, 3) := by decide +kernel
theorem dX7_init_19 : decode cX7_init 19 = .ok (.aload_n 0, 1) := by decide +kernel
theorem dX7_init_20 : decode cX7_init 20 = .ok (.sipush 240, 3) := by decide +kernel
theorem dX7_init_23 : decode cX7_init 23 = .ok (.newarray .int, 2) := by decide +kernel
theorem dX7_init_25 : decode cX7_init 25 = .ok (.putfield 18, 3) := by decide +kernel
theorem dX7_init_28 : decode cX7_init 28 = .ok (.return_, 1) := by decide +kernel
theorem dX7_follow_0 : decode cX7_follow 0 = .ok (.aload_n 0, 1) := by decide +kernel
theorem dX7_follow_1 : decode cX7_follow 1 = .ok (.invokevirtual 21, 3) := by decide +kernel
theorem dX7_follow_4 : decode cX7_follow 4 = .ok (.aload_n 0, 1) := by decide +kernel
theorem dX7_follow_5 : decode cX7_follow 5 = .ok (.aload_n 1, 1) := by decide +kernel
theorem dX7_follow_6 : decode cX7_follow 6 = .ok (.getfield 24, 3) := by decide +kernel
theorem dX7_follow_9 : decode cX7_follow 9 = .ok (.ifCond .ne 7, 3) := by decide +kernel
theorem dX7_follow_12 : decode cX7_follow 12 = .ok (.iconst 1, 1) := by decide +kernel
theorem dX7_follow_13 : decode cX7_follow 13 = .ok (.goto 4, 3) := by decide +kernel
theorem dX7_follow_16 : decode cX7_follow 16 = .ok (.iconst 0, 1) := by decide +kernel
theorem dX7_follow_17 : decode cX7_follow 17 = .ok (.putfield 30, 3) := by decide +kernel
theorem dX7_follow_20 : decode cX7_follow 20 = .ok (.iconst 0, 1) := by decide +kernel
theorem dX7_follow_21 : decode cX7_follow 21 = .ok (.istore_n 3, 1) := by decide +kernel
theorem dX7_follow_22 : decode cX7_follow 22 = .ok (.aload_n 0, 1) := by decide +kernel
theorem dX7_follow_23 : decode cX7_follow 23 = .ok (.getfield 30, 3) := by decide +kernel
theorem dX7_follow_26 : decode cX7_follow 26 = .ok (.ifCond .ne 103, 3) := by decide +kernel
theorem dX7_follow_29 : decode cX7_follow 29 = .ok (.aload_n 0, 1) := by decide +kernel
theorem dX7_follow_30 : decode cX7_follow 30 = .ok (.getfield 34, 3) := by decide +kernel
theorem dX7_follow_33 : decode cX7_follow 33 = .ok (.bipush 60, 2) := by decide +kernel
theorem dX7_follow_35 : decode cX7_follow 35 = .ok (.if_icmp .ge 94, 3) := by decide +kernel
theorem dX7_follow_38 : decode cX7_follow 38 = .ok (.aload_n 1, 1) := by decide +kernel
theorem dX7_follow_39 : decode cX7_follow 39 = .ok (.iload_n 3, 1) := by decide +kernel
theorem dX7_follow_40 : decode cX7_follow 40 = .ok (.invokevirtual 37, 3) := by decide +kernel
theorem dX7_follow_43 : decode cX7_follow 43 = .ok (.astore 4, 2) := by decide +kernel
theorem dX7_follow_45 : decode cX7_follow 45 = .ok (.aload_n 0, 1) := by decide +kernel
theorem dX7_follow_46 : decode cX7_follow 46 = .ok (.getfield 15, 3) := by decide +kernel
theorem dX7_follow_49 : decode cX7_follow 49 = .ok (.aload_n 0, 1) := by decide +kernel
theorem dX7_follow_50 : decode cX7_follow 50 = .ok (.getfield 34, 3) := by decide +kernel
theorem dX7_follow_53 : decode cX7_follow 53 = .ok (.iload_n 3, 1) := by decide +kernel
theorem dX7_follow_54 : decode cX7_follow 54 = .ok (.iastore, 1) := by decide +kernel
theorem dX7_follow_55 : decode cX7_follow 55 = .ok (.aload_n 0, 1) := by decide +kernel
theorem dX7_follow_56 : decode cX7_follow 56 = .ok (.dup, 1) := by decide +kernel
theorem dX7_follow_57 : decode cX7_follow 57 = .ok (.getfield 34, 3) := by decide +kernel
theorem dX7_follow_60 : decode cX7_follow 60 = .ok (.iconst 1, 1) := by decide +kernel
theorem dX7_follow_61 : decode cX7_follow 61 = .ok (.iadd, 1) := by decide +kernel
theorem dX7_follow_62 : decode cX7_follow 62 = .ok (.putfield 34, 3) := by decide +kernel
theorem dX7_follow_65 : decode cX7_follow 65 = .ok (.iconst 0, 1) := by decide +kernel
theorem dX7_follow_66 : decode cX7_follow 66 = .ok (.istore 5, 2) := by decide +kernel
theorem dX7_follow_68 : decode cX7_follow 68 = .ok (.iload 5, 2) := by decide +kernel
theorem dX7_follow_70 : decode cX7_follow 70 = .ok (.aload 4, 2) := by decide +kernel
theorem dX7_follow_72 : decode cX7_follow 72 = .ok (.getfield 41, 3) := by decide +kernel
theorem dX7_follow_75 : decode cX7_follow 75 = .ok (.if_icmp .ge 44, 3) := by decide +kernel
theorem dX7_follow_78 : decode cX7_follow 78 = .ok (.iload 5, 2) := by decide +kernel
theorem dX7_follow_80 : decode cX7_follow 80 = .ok (.iconst 4, 1) := by decide +kernel
theorem dX7_follow_81 : decode cX7_follow 81 = .ok (.if_icmp .ge 38, 3) := by decide +kernel
theorem dX7_follow_84 : decode cX7_follow 84 = .ok (.aload_n 0, 1) := by decide +kernel
theorem dX7_follow_85 : decode cX7_follow 85 = .ok (.aload 4, 2) := by decide +kernel
theorem dX7_follow_87 : decode cX7_follow 87 = .ok (.getfield 46, 3) := by decide +kernel
theorem dX7_follow_90 : decode cX7_follow 90 = .ok (.iload 5, 2) := by decide +kernel
theorem dX7_follow_92 : decode cX7_follow 92 = .ok (.iaload, 1) := by decide +kernel
theorem dX7_follow_93 : decode cX7_follow 93 = .ok (.aload 4, 2) := by decide +kernel
theorem dX7_follow_95 : decode cX7_follow 95 = .ok (.getfield 49, 3) := by decide +kernel
theorem dX7_follow_98 : decode cX7_follow 98 = .ok (.iload 5, 2) := by decide +kernel
theorem dX7_follow_100 : decode cX7_follow 100 = .ok (.iaload, 1) := by decide +kernel
theorem dX7_follow_101 : decode cX7_follow 101 = .ok (.aload 4, 2) := by decide +kernel
theorem dX7_follow_103 : decode cX7_follow 103 = .ok (.getfield 52, 3) := by decide +kernel
theorem dX7_follow_106 : decode cX7_follow 106 = .ok (.iload 5, 2) := by decide +kernel
theorem dX7_follow_108 : decode cX7_follow 108 = .ok (.iaload, 1) := by decide +kernel
theorem dX7_follow_109 : decode cX7_follow 109 = .ok (.aload_n 2, 1) := by decide +kernel
theorem dX7_follow_110 : decode cX7_follow 110 = .ok (.invokevirtual 55, 3) := by decide +kernel
theorem dX7_follow_113 : decode cX7_follow 113 = .ok (.iinc 5 1, 3) := by decide +kernel
theorem dX7_follow_116 : decode cX7_follow 116 = .ok (.goto (-48), 3) := by decide +kernel
theorem dX7_follow_119 : decode cX7_follow 119 = .ok (.aload_n 0, 1) := by decide +kernel
theorem dX7_follow_120 : decode cX7_follow 120 = .ok (.aload 4, 2) := by decide +kernel
theorem dX7_follow_122 : decode cX7_follow 122 = .ok (.invokevirtual 59, 3) := by decide +kernel
theorem dX7_follow_125 : decode cX7_follow 125 = .ok (.istore_n 3, 1) := by decide +kernel
theorem dX7_follow_126 : decode cX7_follow 126 = .ok (.goto (-104), 3) := by decide +kernel
theorem dX7_follow_129 : decode cX7_follow 129 = .ok (.return_, 1) := by decide +kernel
theorem dX7_startWithNil_0 : decode cX7_startWithNil 0 = .ok (.iconst 0, 1) := by decide +kernel
theorem dX7_startWithNil_1 : decode cX7_startWithNil 1 = .ok (.istore_n 1, 1) := by decide +kernel
theorem dX7_startWithNil_2 : decode cX7_startWithNil 2 = .ok (.iload_n 1, 1) := by decide +kernel
theorem dX7_startWithNil_3 : decode cX7_startWithNil 3 = .ok (.iconst 4, 1) := by decide +kernel
theorem dX7_startWithNil_4 : decode cX7_startWithNil 4 = .ok (.if_icmp .ge 17, 3) := by decide +kernel
theorem dX7_startWithNil_7 : decode cX7_startWithNil 7 = .ok (.aload_n 0, 1) := by decide +kernel
theorem dX7_startWithNil_8 : decode cX7_startWithNil 8 = .ok (.getfield 9, 3) := by decide +kernel
theorem dX7_startWithNil_11 : decode cX7_startWithNil 11 = .ok (.iload_n 1, 1) := by decide +kernel
theorem dX7_startWithNil_12 : decode cX7_startWithNil 12 = .ok (.bipush 51, 2) := by decide +kernel
theorem dX7_startWithNil_14 : decode cX7_startWithNil 14 = .ok (.iastore, 1) := by decide +kernel
theorem dX7_startWithNil_15 : decode cX7_startWithNil 15 = .ok (.iinc 1 1, 3) := by decide +kernel
theorem dX7_startWithNil_18 : decode cX7_startWithNil 18 = .ok (.goto (-16), 3) := by decide +kernel
theorem dX7_startWithNil_21 : decode cX7_startWithNil 21 = .ok (.aload_n 0, 1) := by decide +kernel
theorem dX7_startWithNil_22 : decode cX7_startWithNil 22 = .ok (.iconst 0, 1) := by decide +kernel
theorem dX7_startWithNil_23 : decode cX7_startWithNil 23 = .ok (.putfield 34, 3) := by decide +kernel
theorem dX7_startWithNil_26 : decode cX7_startWithNil 26 = .ok (.aload_n 0, 1) := by decide +kernel
theorem dX7_startWithNil_27 : decode cX7_startWithNil 27 = .ok (.iconst 0, 1) := by decide +kernel
theorem dX7_startWithNil_28 : decode cX7_startWithNil 28 = .ok (.putfield 63, 3) := by decide +kernel
theorem dX7_startWithNil_31 : decode cX7_startWithNil 31 = .ok (.aload_n 0, 1) := by decide +kernel
theorem dX7_startWithNil_32 : decode cX7_startWithNil 32 = .ok (.iconst 0, 1) := by decide +kernel
theorem dX7_startWithNil_33 : decode cX7_startWithNil 33 = .ok (.putfield 64, 3) := by decide +kernel
theorem dX7_startWithNil_36 : decode cX7_startWithNil 36 = .ok (.aload_n 0, 1) := by decide +kernel
theorem dX7_startWithNil_37 : decode cX7_startWithNil 37 = .ok (.iconst 0, 1) := by decide +kernel
theorem dX7_startWithNil_38 : decode cX7_startWithNil 38 = .ok (.putfield 67, 3) := by decide +kernel
theorem dX7_startWithNil_41 : decode cX7_startWithNil 41 = .ok (.aload_n 0, 1) := by decide +kernel
theorem dX7_startWithNil_42 : decode cX7_startWithNil 42 = .ok (.iconst 0, 1) := by decide +kernel
theorem dX7_startWithNil_43 : decode cX7_startWithNil 43 = .ok (.putfield 70, 3) := by decide +kernel
theorem dX7_startWithNil_46 : decode cX7_startWithNil 46 = .ok (.return_, 1) := by decide +kernel
theorem dX7_doAct_0 : decode cX7_doAct 0 = .ok (.iload_n 2, 1) := by decide +kernel
theorem dX7_doAct_1 : decode cX7_doAct 1 = .ok (.invokestatic 73, 3) := by decide +kernel
theorem dX7_doAct_4 : decode cX7_doAct 4 = .ok (.ifCond .ne 4, 3) := by decide +kernel
theorem dX7_doAct_7 : decode cX7_doAct 7 = .ok (.return_, 1) := by decide +kernel
theorem dX7_doAct_8 : decode cX7_doAct 8 = .ok (.aload_n 0, 1) := by decide +kernel
theorem dX7_doAct_9 : decode cX7_doAct 9 = .ok (.dup, 1) := by decide +kernel
theorem dX7_doAct_10 : decode cX7_doAct 10 = .ok (.getfield 63, 3) := by decide +kernel
theorem dX7_doAct_13 : decode cX7_doAct 13 = .ok (.iconst 1, 1) := by decide +kernel
theorem dX7_doAct_14 : decode cX7_doAct 14 = .ok (.iadd, 1) := by decide +kernel
theorem dX7_doAct_15 : decode cX7_doAct 15 = .ok (.putfield 63, 3) := by decide +kernel
theorem dX7_doAct_18 : decode cX7_doAct 18 = .ok (.iload_n 1, 1) := by decide +kernel
theorem dX7_doAct_19 : decode cX7_doAct 19 = .ok (.tableswitch 180 0 4 #[33, 43, 81, 118, 132], 33) := by decide +kernel
theorem dX7_doAct_52 : decode cX7_doAct 52 = .ok (.aload_n 0, 1) := by decide +kernel
theorem dX7_doAct_53 : decode cX7_doAct 53 = .ok (.getfield 9, 3) := by decide +kernel
theorem dX7_doAct_56 : decode cX7_doAct 56 = .ok (.iload_n 2, 1) := by decide +kernel
theorem dX7_doAct_57 : decode cX7_doAct 57 = .ok (.iload_n 3, 1) := by decide +kernel
theorem dX7_doAct_58 : decode cX7_doAct 58 = .ok (.iastore, 1) := by decide +kernel
theorem dX7_doAct_59 : decode cX7_doAct 59 = .ok (.goto 150, 3) := by decide +kernel
theorem dX7_doAct_62 : decode cX7_doAct 62 = .ok (.aload_n 0, 1) := by decide +kernel
theorem dX7_doAct_63 : decode cX7_doAct 63 = .ok (.getfield 9, 3) := by decide +kernel
theorem dX7_doAct_66 : decode cX7_doAct 66 = .ok (.iload_n 2, 1) := by decide +kernel
theorem dX7_doAct_67 : decode cX7_doAct 67 = .ok (.aload_n 0, 1) := by decide +kernel
theorem dX7_doAct_68 : decode cX7_doAct 68 = .ok (.getfield 9, 3) := by decide +kernel
theorem dX7_doAct_71 : decode cX7_doAct 71 = .ok (.iload_n 2, 1) := by decide +kernel
theorem dX7_doAct_72 : decode cX7_doAct 72 = .ok (.iaload, 1) := by decide +kernel
theorem dX7_doAct_73 : decode cX7_doAct 73 = .ok (.bipush 51, 2) := by decide +kernel
theorem dX7_doAct_75 : decode cX7_doAct 75 = .ok (.if_icmp .ne 8, 3) := by decide +kernel
theorem dX7_doAct_78 : decode cX7_doAct 78 = .ok (.bipush 51, 2) := by decide +kernel
theorem dX7_doAct_80 : decode cX7_doAct 80 = .ok (.goto 16, 3) := by decide +kernel
theorem dX7_doAct_83 : decode cX7_doAct 83 = .ok (.bipush 50, 2) := by decide +kernel
theorem dX7_doAct_85 : decode cX7_doAct 85 = .ok (.aload_n 0, 1) := by decide +kernel
theorem dX7_doAct_86 : decode cX7_doAct 86 = .ok (.getfield 9, 3) := by decide +kernel
theorem dX7_doAct_89 : decode cX7_doAct 89 = .ok (.iload_n 2, 1) := by decide +kernel
theorem dX7_doAct_90 : decode cX7_doAct 90 = .ok (.iaload, 1) := by decide +kernel
theorem dX7_doAct_91 : decode cX7_doAct 91 = .ok (.iload_n 3, 1) := by decide +kernel
theorem dX7_doAct_92 : decode cX7_doAct 92 = .ok (.iadd, 1) := by decide +kernel
theorem dX7_doAct_93 : decode cX7_doAct 93 = .ok (.invokestatic 77, 3) := by decide +kernel
theorem dX7_doAct_96 : decode cX7_doAct 96 = .ok (.iastore, 1) := by decide +kernel
theorem dX7_doAct_97 : decode cX7_doAct 97 = .ok (.goto 112, 3) := by decide +kernel
theorem dX7_doAct_100 : decode cX7_doAct 100 = .ok (.aload_n 0, 1) := by decide +kernel
theorem dX7_doAct_101 : decode cX7_doAct 101 = .ok (.getfield 9, 3) := by decide +kernel
theorem dX7_doAct_104 : decode cX7_doAct 104 = .ok (.iload_n 2, 1) := by decide +kernel
theorem dX7_doAct_105 : decode cX7_doAct 105 = .ok (.aload_n 0, 1) := by decide +kernel
theorem dX7_doAct_106 : decode cX7_doAct 106 = .ok (.getfield 9, 3) := by decide +kernel
theorem dX7_doAct_109 : decode cX7_doAct 109 = .ok (.iload_n 2, 1) := by decide +kernel
theorem dX7_doAct_110 : decode cX7_doAct 110 = .ok (.iaload, 1) := by decide +kernel
theorem dX7_doAct_111 : decode cX7_doAct 111 = .ok (.bipush 51, 2) := by decide +kernel
theorem dX7_doAct_113 : decode cX7_doAct 113 = .ok (.if_icmp .ne 8, 3) := by decide +kernel
theorem dX7_doAct_116 : decode cX7_doAct 116 = .ok (.bipush 51, 2) := by decide +kernel
theorem dX7_doAct_118 : decode cX7_doAct 118 = .ok (.goto 15, 3) := by decide +kernel
theorem dX7_doAct_121 : decode cX7_doAct 121 = .ok (.iconst 0, 1) := by decide +kernel
theorem dX7_doAct_122 : decode cX7_doAct 122 = .ok (.aload_n 0, 1) := by decide +kernel
theorem dX7_doAct_123 : decode cX7_doAct 123 = .ok (.getfield 9, 3) := by decide +kernel
theorem dX7_doAct_126 : decode cX7_doAct 126 = .ok (.iload_n 2, 1) := by decide +kernel
theorem dX7_doAct_127 : decode cX7_doAct 127 = .ok (.iaload, 1) := by decide +kernel
theorem dX7_doAct_128 : decode cX7_doAct 128 = .ok (.iload_n 3, 1) := by decide +kernel
theorem dX7_doAct_129 : decode cX7_doAct 129 = .ok (.isub, 1) := by decide +kernel
theorem dX7_doAct_130 : decode cX7_doAct 130 = .ok (.invokestatic 83, 3) := by decide +kernel
theorem dX7_doAct_133 : decode cX7_doAct 133 = .ok (.iastore, 1) := by decide +kernel
theorem dX7_doAct_134 : decode cX7_doAct 134 = .ok (.goto 75, 3) := by decide +kernel
theorem dX7_doAct_137 : decode cX7_doAct 137 = .ok (.aload_n 0, 1) := by decide +kernel
theorem dX7_doAct_138 : decode cX7_doAct 138 = .ok (.getfield 9, 3) := by decide +kernel
theorem dX7_doAct_141 : decode cX7_doAct 141 = .ok (.iload_n 2, 1) := by decide +kernel
theorem dX7_doAct_142 : decode cX7_doAct 142 = .ok (.aload_n 0, 1) := by decide +kernel
theorem dX7_doAct_143 : decode cX7_doAct 143 = .ok (.iload_n 3, 1) := by decide +kernel
theorem dX7_doAct_144 : decode cX7_doAct 144 = .ok (.invokevirtual 86, 3) := by decide +kernel
theorem dX7_doAct_147 : decode cX7_doAct 147 = .ok (.iastore, 1) := by decide +kernel
theorem dX7_doAct_148 : decode cX7_doAct 148 = .ok (.goto 61, 3) := by decide +kernel
theorem dX7_doAct_151 : decode cX7_doAct 151 = .ok (.aload_n 0, 1) := by decide +kernel
theorem dX7_doAct_152 : decode cX7_doAct 152 = .ok (.getfield 9, 3) := by decide +kernel
theorem dX7_doAct_155 : decode cX7_doAct 155 = .ok (.iload_n 2, 1) := by decide +kernel
theorem dX7_doAct_156 : decode cX7_doAct 156 = .ok (.aload_n 0, 1) := by decide +kernel
theorem dX7_doAct_157 : decode cX7_doAct 157 = .ok (.getfield 70, 3) := by decide +kernel
theorem dX7_doAct_160 : decode cX7_doAct 160 = .ok (.ifCond .lt 23, 3) := by decide +kernel
theorem dX7_doAct_163 : decode cX7_doAct 163 = .ok (.aload_n 0, 1) := by decide +kernel
theorem dX7_doAct_164 : decode cX7_doAct 164 = .ok (.getfield 70, 3) := by decide +kernel
theorem dX7_doAct_167 : decode cX7_doAct 167 = .ok (.aload 4, 2) := by decide +kernel
theorem dX7_doAct_169 : decode cX7_doAct 169 = .ok (.arraylength, 1) := by decide +kernel
theorem dX7_doAct_170 : decode cX7_doAct 170 = .ok (.if_icmp .ge 13, 3) := by decide +kernel
theorem dX7_doAct_173 : decode cX7_doAct 173 = .ok (.aload 4, 2) := by decide +kernel
theorem dX7_doAct_175 : decode cX7_doAct 175 = .ok (.aload_n 0, 1) := by decide +kernel
theorem dX7_doAct_176 : decode cX7_doAct 176 = .ok (.getfield 70, 3) := by decide +kernel
theorem dX7_doAct_179 : decode cX7_doAct 179 = .ok (.iaload, 1) := by decide +kernel
theorem dX7_doAct_180 : decode cX7_doAct 180 = .ok (.goto 5, 3) := by decide +kernel
theorem dX7_doAct_183 : decode cX7_doAct 183 = .ok (.bipush 51, 2) := by decide +kernel
theorem dX7_doAct_185 : decode cX7_doAct 185 = .ok (.iastore, 1) := by decide +kernel
theorem dX7_doAct_186 : decode cX7_doAct 186 = .ok (.aload_n 0, 1) := by decide +kernel
theorem dX7_doAct_187 : decode cX7_doAct 187 = .ok (.dup, 1) := by decide +kernel
theorem dX7_doAct_188 : decode cX7_doAct 188 = .ok (.getfield 70, 3) := by decide +kernel
theorem dX7_doAct_191 : decode cX7_doAct 191 = .ok (.iconst 1, 1) := by decide +kernel
theorem dX7_doAct_192 : decode cX7_doAct 192 = .ok (.iadd, 1) := by decide +kernel
theorem dX7_doAct_193 : decode cX7_doAct 193 = .ok (.putfield 70, 3) := by decide +kernel
theorem dX7_doAct_196 : decode cX7_doAct 196 = .ok (.goto 13, 3) := by decide +kernel
theorem dX7_doAct_199 : decode cX7_doAct 199 = .ok (.aload_n 0, 1) := by decide +kernel
theorem dX7_doAct_200 : decode cX7_doAct 200 = .ok (.aload_n 0, 1) := by decide +kernel
theorem dX7_doAct_201 : decode cX7_doAct 201 = .ok (.getfield 9, 3) := by decide +kernel
theorem dX7_doAct_204 : decode cX7_doAct 204 = .ok (.iload_n 2, 1) := by decide +kernel
theorem dX7_doAct_205 : decode cX7_doAct 205 = .ok (.iaload, 1) := by decide +kernel
theorem dX7_doAct_206 : decode cX7_doAct 206 = .ok (.invokevirtual 90, 3) := by decide +kernel
theorem dX7_doAct_209 : decode cX7_doAct 209 = .ok (.return_, 1) := by decide +kernel
theorem dX7_valueOf_0 : decode cX7_valueOf 0 = .ok (.iload_n 1, 1) := by decide +kernel
theorem dX7_valueOf_1 : decode cX7_valueOf 1 = .ok (.invokestatic 73, 3) := by decide +kernel
theorem dX7_valueOf_4 : decode cX7_valueOf 4 = .ok (.ifCond .eq 12, 3) := by decide +kernel
theorem dX7_valueOf_7 : decode cX7_valueOf 7 = .ok (.aload_n 0, 1) := by decide +kernel
theorem dX7_valueOf_8 : decode cX7_valueOf 8 = .ok (.getfield 9, 3) := by decide +kernel
theorem dX7_valueOf_11 : decode cX7_valueOf 11 = .ok (.iload_n 1, 1) := by decide +kernel
theorem dX7_valueOf_12 : decode cX7_valueOf 12 = .ok (.iaload, 1) := by decide +kernel
theorem dX7_valueOf_13 : decode cX7_valueOf 13 = .ok (.goto 5, 3) := by decide +kernel
theorem dX7_valueOf_16 : decode cX7_valueOf 16 = .ok (.bipush 51, 2) := by decide +kernel
theorem dX7_valueOf_18 : decode cX7_valueOf 18 = .ok (.ireturn, 1) := by decide +kernel
theorem dX7_output_0 : decode cX7_output 0 = .ok (.aload_n 0, 1) := by decide +kernel
theorem dX7_output_1 : decode cX7_output 1 = .ok (.getfield 67, 3) := by decide +kernel
theorem dX7_output_4 : decode cX7_output 4 = .ok (.ifCond .lt 35, 3) := by decide +kernel
theorem dX7_output_7 : decode cX7_output 7 = .ok (.aload_n 0, 1) := by decide +kernel
theorem dX7_output_8 : decode cX7_output 8 = .ok (.getfield 67, 3) := by decide +kernel
theorem dX7_output_11 : decode cX7_output 11 = .ok (.aload_n 0, 1) := by decide +kernel
theorem dX7_output_12 : decode cX7_output 12 = .ok (.getfield 18, 3) := by decide +kernel
theorem dX7_output_15 : decode cX7_output 15 = .ok (.arraylength, 1) := by decide +kernel
theorem dX7_output_16 : decode cX7_output 16 = .ok (.if_icmp .ge 23, 3) := by decide +kernel
theorem dX7_output_19 : decode cX7_output 19 = .ok (.aload_n 0, 1) := by decide +kernel
theorem dX7_output_20 : decode cX7_output 20 = .ok (.getfield 18, 3) := by decide +kernel
theorem dX7_output_23 : decode cX7_output 23 = .ok (.aload_n 0, 1) := by decide +kernel
theorem dX7_output_24 : decode cX7_output 24 = .ok (.getfield 67, 3) := by decide +kernel
theorem dX7_output_27 : decode cX7_output 27 = .ok (.iload_n 1, 1) := by decide +kernel
theorem dX7_output_28 : decode cX7_output 28 = .ok (.iastore, 1) := by decide +kernel
theorem dX7_output_29 : decode cX7_output 29 = .ok (.aload_n 0, 1) := by decide +kernel
theorem dX7_output_30 : decode cX7_output 30 = .ok (.dup, 1) := by decide +kernel
theorem dX7_output_31 : decode cX7_output 31 = .ok (.getfield 67, 3) := by decide +kernel
theorem dX7_output_34 : decode cX7_output 34 = .ok (.iconst 1, 1) := by decide +kernel
theorem dX7_output_35 : decode cX7_output 35 = .ok (.iadd, 1) := by decide +kernel
theorem dX7_output_36 : decode cX7_output 36 = .ok (.putfield 67, 3) := by decide +kernel
theorem dX7_output_39 : decode cX7_output 39 = .ok (.return_, 1) := by decide +kernel
theorem dX7_doEnd_0 : decode cX7_doEnd 0 = .ok (.aload_n 1, 1) := by decide +kernel
theorem dX7_doEnd_1 : decode cX7_doEnd 1 = .ok (.invokevirtual 94, 3) := by decide +kernel
theorem dX7_doEnd_4 : decode cX7_doEnd 4 = .ok (.ifCond .eq 31, 3) := by decide +kernel
theorem dX7_doEnd_7 : decode cX7_doEnd 7 = .ok (.aload_n 0, 1) := by decide +kernel
theorem dX7_doEnd_8 : decode cX7_doEnd 8 = .ok (.dup, 1) := by decide +kernel
theorem dX7_doEnd_9 : decode cX7_doEnd 9 = .ok (.getfield 64, 3) := by decide +kernel
theorem dX7_doEnd_12 : decode cX7_doEnd 12 = .ok (.iconst 1, 1) := by decide +kernel
theorem dX7_doEnd_13 : decode cX7_doEnd 13 = .ok (.iadd, 1) := by decide +kernel
theorem dX7_doEnd_14 : decode cX7_doEnd 14 = .ok (.putfield 64, 3) := by decide +kernel
theorem dX7_doEnd_17 : decode cX7_doEnd 17 = .ok (.aload_n 1, 1) := by decide +kernel
theorem dX7_doEnd_18 : decode cX7_doEnd 18 = .ok (.aload_n 0, 1) := by decide +kernel
theorem dX7_doEnd_19 : decode cX7_doEnd 19 = .ok (.aload_n 1, 1) := by decide +kernel
theorem dX7_doEnd_20 : decode cX7_doEnd 20 = .ok (.invokevirtual 98, 3) := by decide +kernel
theorem dX7_doEnd_23 : decode cX7_doEnd 23 = .ok (.ifCond .eq 7, 3) := by decide +kernel
theorem dX7_doEnd_26 : decode cX7_doEnd 26 = .ok (.iconst 0, 1) := by decide +kernel
theorem dX7_doEnd_27 : decode cX7_doEnd 27 = .ok (.goto 4, 3) := by decide +kernel
theorem dX7_doEnd_30 : decode cX7_doEnd 30 = .ok (.iconst 1, 1) := by decide +kernel
theorem dX7_doEnd_31 : decode cX7_doEnd 31 = .ok (.invokevirtual 102, 3) := by decide +kernel
theorem dX7_doEnd_34 : decode cX7_doEnd 34 = .ok (.ireturn, 1) := by decide +kernel
theorem dX7_doEnd_35 : decode cX7_doEnd 35 = .ok (.aload_n 0, 1) := by decide +kernel
theorem dX7_doEnd_36 : decode cX7_doEnd 36 = .ok (.aload_n 1, 1) := by decide +kernel
theorem dX7_doEnd_37 : decode cX7_doEnd 37 = .ok (.getfield 105, 3) := by decide +kernel
theorem dX7_doEnd_40 : decode cX7_doEnd 40 = .ok (.ifCond .ne 7, 3) := by decide +kernel
theorem dX7_doEnd_43 : decode cX7_doEnd 43 = .ok (.iconst 1, 1) := by decide +kernel
theorem dX7_doEnd_44 : decode cX7_doEnd 44 = .ok (.goto 4, 3) := by decide +kernel
theorem dX7_doEnd_47 : decode cX7_doEnd 47 = .ok (.iconst 0, 1) := by decide +kernel
theorem dX7_doEnd_48 : decode cX7_doEnd 48 = .ok (.putfield 30, 3) := by decide +kernel
theorem dX7_doEnd_51 : decode cX7_doEnd 51 = .ok (.aload_n 1, 1) := by decide +kernel
theorem dX7_doEnd_52 : decode cX7_doEnd 52 = .ok (.iconst 0, 1) := by decide +kernel
theorem dX7_doEnd_53 : decode cX7_doEnd 53 = .ok (.invokevirtual 102, 3) := by decide +kernel
theorem dX7_doEnd_56 : decode cX7_doEnd 56 = .ok (.ireturn, 1) := by decide +kernel
theorem dX7_holds_0 : decode cX7_holds 0 = .ok (.aload_n 0, 1) := by decide +kernel
theorem dX7_holds_1 : decode cX7_holds 1 = .ok (.aload_n 1, 1) := by decide +kernel
theorem dX7_holds_2 : decode cX7_holds 2 = .ok (.getfield 108, 3) := by decide +kernel
theorem dX7_holds_5 : decode cX7_holds 5 = .ok (.invokevirtual 86, 3) := by decide +kernel
theorem dX7_holds_8 : decode cX7_holds 8 = .ok (.istore_n 2, 1) := by decide +kernel
theorem dX7_holds_9 : decode cX7_holds 9 = .ok (.aload_n 1, 1) := by decide +kernel
theorem dX7_holds_10 : decode cX7_holds 10 = .ok (.getfield 111, 3) := by decide +kernel
theorem dX7_holds_13 : decode cX7_holds 13 = .ok (.ifCond .eq 14, 3) := by decide +kernel
theorem dX7_holds_16 : decode cX7_holds 16 = .ok (.aload_n 0, 1) := by decide +kernel
theorem dX7_holds_17 : decode cX7_holds 17 = .ok (.aload_n 1, 1) := by decide +kernel
theorem dX7_holds_18 : decode cX7_holds 18 = .ok (.getfield 114, 3) := by decide +kernel
theorem dX7_holds_21 : decode cX7_holds 21 = .ok (.invokevirtual 86, 3) := by decide +kernel
theorem dX7_holds_24 : decode cX7_holds 24 = .ok (.goto 7, 3) := by decide +kernel
theorem dX7_holds_27 : decode cX7_holds 27 = .ok (.aload_n 1, 1) := by decide +kernel
theorem dX7_holds_28 : decode cX7_holds 28 = .ok (.getfield 114, 3) := by decide +kernel
theorem dX7_holds_31 : decode cX7_holds 31 = .ok (.istore_n 3, 1) := by decide +kernel
theorem dX7_holds_32 : decode cX7_holds 32 = .ok (.iload_n 2, 1) := by decide +kernel
theorem dX7_holds_33 : decode cX7_holds 33 = .ok (.bipush 51, 2) := by decide +kernel
theorem dX7_holds_35 : decode cX7_holds 35 = .ok (.if_icmp .eq 9, 3) := by decide +kernel
theorem dX7_holds_38 : decode cX7_holds 38 = .ok (.iload_n 3, 1) := by decide +kernel
theorem dX7_holds_39 : decode cX7_holds 39 = .ok (.bipush 51, 2) := by decide +kernel
theorem dX7_holds_41 : decode cX7_holds 41 = .ok (.if_icmp .ne 5, 3) := by decide +kernel
theorem dX7_holds_44 : decode cX7_holds 44 = .ok (.iconst 0, 1) := by decide +kernel
theorem dX7_holds_45 : decode cX7_holds 45 = .ok (.ireturn, 1) := by decide +kernel
theorem dX7_holds_46 : decode cX7_holds 46 = .ok (.aload_n 1, 1) := by decide +kernel
theorem dX7_holds_47 : decode cX7_holds 47 = .ok (.getfield 105, 3) := by decide +kernel
theorem dX7_holds_50 : decode cX7_holds 50 = .ok (.iconst 2, 1) := by decide +kernel
theorem dX7_holds_51 : decode cX7_holds 51 = .ok (.if_icmp .ne 16, 3) := by decide +kernel
theorem dX7_holds_54 : decode cX7_holds 54 = .ok (.iload_n 2, 1) := by decide +kernel
theorem dX7_holds_55 : decode cX7_holds 55 = .ok (.iload_n 3, 1) := by decide +kernel
theorem dX7_holds_56 : decode cX7_holds 56 = .ok (.if_icmp .ge 7, 3) := by decide +kernel
theorem dX7_holds_59 : decode cX7_holds 59 = .ok (.iconst 1, 1) := by decide +kernel
theorem dX7_holds_60 : decode cX7_holds 60 = .ok (.goto 17, 3) := by decide +kernel
theorem dX7_holds_63 : decode cX7_holds 63 = .ok (.iconst 0, 1) := by decide +kernel
theorem dX7_holds_64 : decode cX7_holds 64 = .ok (.goto 13, 3) := by decide +kernel
theorem dX7_holds_67 : decode cX7_holds 67 = .ok (.iload_n 2, 1) := by decide +kernel
theorem dX7_holds_68 : decode cX7_holds 68 = .ok (.iload_n 3, 1) := by decide +kernel
theorem dX7_holds_69 : decode cX7_holds 69 = .ok (.if_icmp .ne 7, 3) := by decide +kernel
theorem dX7_holds_72 : decode cX7_holds 72 = .ok (.iconst 1, 1) := by decide +kernel
theorem dX7_holds_73 : decode cX7_holds 73 = .ok (.goto 4, 3) := by decide +kernel
theorem dX7_holds_76 : decode cX7_holds 76 = .ok (.iconst 0, 1) := by decide +kernel
theorem dX7_holds_77 : decode cX7_holds 77 = .ok (.ireturn, 1) := by decide +kernel
theorem dX7_property_0 : decode cX7_property 0 = .ok (.iload_n 1, 1) := by decide +kernel
theorem dX7_property_1 : decode cX7_property 1 = .ok (.tableswitch 93 0 9 #[55, 60, 65, 70, 75, 93, 93, 93, 93, 88], 55) := by decide +kernel
theorem dX7_property_56 : decode cX7_property 56 = .ok (.aload_n 0, 1) := by decide +kernel
theorem dX7_property_57 : decode cX7_property 57 = .ok (.getfield 34, 3) := by decide +kernel
theorem dX7_property_60 : decode cX7_property 60 = .ok (.ireturn, 1) := by decide +kernel
theorem dX7_property_61 : decode cX7_property 61 = .ok (.aload_n 0, 1) := by decide +kernel
theorem dX7_property_62 : decode cX7_property 62 = .ok (.getfield 63, 3) := by decide +kernel
theorem dX7_property_65 : decode cX7_property 65 = .ok (.ireturn, 1) := by decide +kernel
theorem dX7_property_66 : decode cX7_property 66 = .ok (.aload_n 0, 1) := by decide +kernel
theorem dX7_property_67 : decode cX7_property 67 = .ok (.getfield 64, 3) := by decide +kernel
theorem dX7_property_70 : decode cX7_property 70 = .ok (.ireturn, 1) := by decide +kernel
theorem dX7_property_71 : decode cX7_property 71 = .ok (.aload_n 0, 1) := by decide +kernel
theorem dX7_property_72 : decode cX7_property 72 = .ok (.getfield 67, 3) := by decide +kernel
theorem dX7_property_75 : decode cX7_property 75 = .ok (.ireturn, 1) := by decide +kernel
theorem dX7_property_76 : decode cX7_property 76 = .ok (.aload_n 0, 1) := by decide +kernel
theorem dX7_property_77 : decode cX7_property 77 = .ok (.getfield 30, 3) := by decide +kernel
theorem dX7_property_80 : decode cX7_property 80 = .ok (.ifCond .eq 7, 3) := by decide +kernel
theorem dX7_property_83 : decode cX7_property 83 = .ok (.iconst 1, 1) := by decide +kernel
theorem dX7_property_84 : decode cX7_property 84 = .ok (.goto 4, 3) := by decide +kernel
theorem dX7_property_87 : decode cX7_property 87 = .ok (.iconst 0, 1) := by decide +kernel
theorem dX7_property_88 : decode cX7_property 88 = .ok (.ireturn, 1) := by decide +kernel
theorem dX7_property_89 : decode cX7_property 89 = .ok (.aload_n 0, 1) := by decide +kernel
theorem dX7_property_90 : decode cX7_property 90 = .ok (.getfield 70, 3) := by decide +kernel
theorem dX7_property_93 : decode cX7_property 93 = .ok (.ireturn, 1) := by decide +kernel
theorem dX7_property_94 : decode cX7_property 94 = .ok (.aload_n 0, 1) := by decide +kernel
theorem dX7_property_95 : decode cX7_property 95 = .ok (.iload_n 1, 1) := by decide +kernel
theorem dX7_property_96 : decode cX7_property 96 = .ok (.iconst 5, 1) := by decide +kernel
theorem dX7_property_97 : decode cX7_property 97 = .ok (.isub, 1) := by decide +kernel
theorem dX7_property_98 : decode cX7_property 98 = .ok (.invokevirtual 86, 3) := by decide +kernel
theorem dX7_property_101 : decode cX7_property 101 = .ok (.ireturn, 1) := by decide +kernel
theorem dX8_init_0 : decode cX8_init 0 = .ok (.aload_n 0, 1) := by decide +kernel
theorem dX8_init_1 : decode cX8_init 1 = .ok (.invokespecial 1, 3) := by decide +kernel
theorem dX8_init_4 : decode cX8_init 4 = .ok (.aload_n 0, 1) := by decide +kernel
theorem dX8_init_5 : decode cX8_init 5 = .ok (.bipush 40, 2) := by decide +kernel
theorem dX8_init_7 : decode cX8_init 7 = .ok (.newarray .int, 2) := by decide +kernel
theorem dX8_init_9 : decode cX8_init 9 = .ok (.putfield 9, 3) := by decide +kernel
theorem dX8_init_12 : decode cX8_init 12 = .ok (.aload_n 0, 1) := by decide +kernel
theorem dX8_init_13 : decode cX8_init 13 = .ok (.iconst (-1), 1) := by decide +kernel
theorem dX8_init_14 : decode cX8_init 14 = .ok (.putfield 13, 3) := by decide +kernel
theorem dX8_init_17 : decode cX8_init 17 = .ok (.aload_n 0, 1) := by decide +kernel
theorem dX8_init_18 : decode cX8_init 18 = .ok (.iconst 0, 1) := by decide +kernel
theorem dX8_init_19 : decode cX8_init 19 = .ok (.putfield 17, 3) := by decide +kernel
theorem dX8_init_22 : decode cX8_init 22 = .ok (.return_, 1) := by decide +kernel
theorem dX8_isMissing_0 : decode cX8_isMissing 0 = .ok (.aload_n 0, 1) := by decide +kernel
theorem dX8_isMissing_1 : decode cX8_isMissing 1 = .ok (.getfield 13, 3) := by decide +kernel
theorem dX8_isMissing_4 : decode cX8_isMissing 4 = .ok (.iconst (-1), 1) := by decide +kernel
theorem dX8_isMissing_5 : decode cX8_isMissing 5 = .ok (.if_icmp .ne 7, 3) := by decide +kernel
theorem dX8_isMissing_8 : decode cX8_isMissing 8 = .ok (.iconst 1, 1) := by decide +kernel
theorem dX8_isMissing_9 : decode cX8_isMissing 9 = .ok (.goto 4, 3) := by decide +kernel
theorem dX8_isMissing_12 : decode cX8_isMissing 12 = .ok (.iconst 0, 1) := by decide +kernel
theorem dX8_isMissing_13 : decode cX8_isMissing 13 = .ok (.ireturn, 1) := by decide +kernel
theorem dX8_create_0 : decode cX8_create 0 = .ok (.aload_n 0, 1) := by decide +kernel
theorem dX8_create_1 : decode cX8_create 1 = .ok (.iload_n 1, 1) := by decide +kernel
theorem dX8_create_2 : decode cX8_create 2 = .ok (.putfield 13, 3) := by decide +kernel
theorem dX8_create_5 : decode cX8_create 5 = .ok (.aload_n 0, 1) := by decide +kernel
theorem dX8_create_6 : decode cX8_create 6 = .ok (.iload_n 2, 1) := by decide +kernel
theorem dX8_create_7 : decode cX8_create 7 = .ok (.putfield 17, 3) := by decide +kernel
theorem dX8_create_10 : decode cX8_create 10 = .ok (.iconst 0, 1) := by decide +kernel
theorem dX8_create_11 : decode cX8_create 11 = .ok (.istore_n 3, 1) := by decide +kernel
theorem dX8_create_12 : decode cX8_create 12 = .ok (.iload_n 3, 1) := by decide +kernel
theorem dX8_create_13 : decode cX8_create 13 = .ok (.bipush 40, 2) := by decide +kernel
theorem dX8_create_15 : decode cX8_create 15 = .ok (.if_icmp .ge 16, 3) := by decide +kernel
theorem dX8_create_18 : decode cX8_create 18 = .ok (.aload_n 0, 1) := by decide +kernel
theorem dX8_create_19 : decode cX8_create 19 = .ok (.getfield 9, 3) := by decide +kernel
theorem dX8_create_22 : decode cX8_create 22 = .ok (.iload_n 3, 1) := by decide +kernel
theorem dX8_create_23 : decode cX8_create 23 = .ok (.iconst 0, 1) := by decide +kernel
theorem dX8_create_24 : decode cX8_create 24 = .ok (.iastore, 1) := by decide +kernel
theorem dX8_create_25 : decode cX8_create 25 = .ok (.iinc 3 1, 3) := by decide +kernel
theorem dX8_create_28 : decode cX8_create 28 = .ok (.goto (-16), 3) := by decide +kernel
theorem dX8_create_31 : decode cX8_create 31 = .ok (.return_, 1) := by decide +kernel
theorem dX8_hasIndex_0 : decode cX8_hasIndex 0 = .ok (.iload_n 1, 1) := by decide +kernel
theorem dX8_hasIndex_1 : decode cX8_hasIndex 1 = .ok (.ifCond .lt 21, 3) := by decide +kernel
theorem dX8_hasIndex_4 : decode cX8_hasIndex 4 = .ok (.iload_n 1, 1) := by decide +kernel
theorem dX8_hasIndex_5 : decode cX8_hasIndex 5 = .ok (.aload_n 0, 1) := by decide +kernel
theorem dX8_hasIndex_6 : decode cX8_hasIndex 6 = .ok (.getfield 17, 3) := by decide +kernel
theorem dX8_hasIndex_9 : decode cX8_hasIndex 9 = .ok (.if_icmp .ge 13, 3) := by decide +kernel
theorem dX8_hasIndex_12 : decode cX8_hasIndex 12 = .ok (.iload_n 1, 1) := by decide +kernel
theorem dX8_hasIndex_13 : decode cX8_hasIndex 13 = .ok (.bipush 40, 2) := by decide +kernel
theorem dX8_hasIndex_15 : decode cX8_hasIndex 15 = .ok (.if_icmp .ge 7, 3) := by decide +kernel
theorem dX8_hasIndex_18 : decode cX8_hasIndex 18 = .ok (.iconst 1, 1) := by decide +kernel
theorem dX8_hasIndex_19 : decode cX8_hasIndex 19 = .ok (.goto 4, 3) := by decide +kernel
theorem dX8_hasIndex_22 : decode cX8_hasIndex 22 = .ok (.iconst 0, 1) := by decide +kernel
theorem dX8_hasIndex_23 : decode cX8_hasIndex 23 = .ok (.ireturn, 1) := by decide +kernel
theorem dX8_put_0 : decode cX8_put 0 = .ok (.aload_n 0, 1) := by decide +kernel
theorem dX8_put_1 : decode cX8_put 1 = .ok (.iload_n 1, 1) := by decide +kernel
theorem dX8_put_2 : decode cX8_put 2 = .ok (.invokevirtual 20, 3) := by decide +kernel
theorem dX8_put_5 : decode cX8_put 5 = .ok (.ifCond .ne 5, 3) := by decide +kernel
theorem dX8_put_8 : decode cX8_put 8 = .ok (.iconst 0, 1) := by decide +kernel
theorem dX8_put_9 : decode cX8_put 9 = .ok (.ireturn, 1) := by decide +kernel
theorem dX8_put_10 : decode cX8_put 10 = .ok (.aload_n 0, 1) := by decide +kernel
theorem dX8_put_11 : decode cX8_put 11 = .ok (.getfield 9, 3) := by decide +kernel
theorem dX8_put_14 : decode cX8_put 14 = .ok (.iload_n 1, 1) := by decide +kernel
theorem dX8_put_15 : decode cX8_put 15 = .ok (.aload_n 0, 1) := by decide +kernel
theorem dX8_put_16 : decode cX8_put 16 = .ok (.getfield 13, 3) := by decide +kernel
theorem dX8_put_19 : decode cX8_put 19 = .ok (.ifCond .ne 8, 3) := by decide +kernel
theorem dX8_put_22 : decode cX8_put 22 = .ok (.iload_n 2, 1) := by decide +kernel
theorem dX8_put_23 : decode cX8_put 23 = .ok (.i2b, 1) := by decide +kernel
theorem dX8_put_24 : decode cX8_put 24 = .ok (.goto 17, 3) := by decide +kernel
theorem dX8_put_27 : decode cX8_put 27 = .ok (.aload_n 0, 1) := by decide +kernel
theorem dX8_put_28 : decode cX8_put 28 = .ok (.getfield 13, 3) := by decide +kernel
theorem dX8_put_31 : decode cX8_put 31 = .ok (.iconst 1, 1) := by decide +kernel
theorem dX8_put_32 : decode cX8_put 32 = .ok (.if_icmp .ne 8, 3) := by decide +kernel
theorem dX8_put_35 : decode cX8_put 35 = .ok (.iload_n 2, 1) := by decide +kernel
theorem dX8_put_36 : decode cX8_put 36 = .ok (.i2s, 1) := by decide +kernel
theorem dX8_put_37 : decode cX8_put 37 = .ok (.goto 4, 3) := by decide +kernel
theorem dX8_put_40 : decode cX8_put 40 = .ok (.iload_n 2, 1) := by decide +kernel
theorem dX8_put_41 : decode cX8_put 41 = .ok (.iastore, 1) := by decide +kernel
theorem dX8_put_42 : decode cX8_put 42 = .ok (.iconst 1, 1) := by decide +kernel
theorem dX8_put_43 : decode cX8_put 43 = .ok (.ireturn, 1) := by decide +kernel
theorem dX8_element_0 : decode cX8_element 0 = .ok (.aload_n 0, 1) := by decide +kernel
theorem dX8_element_1 : decode cX8_element 1 = .ok (.iload_n 1, 1) := by decide +kernel
theorem dX8_element_2 : decode cX8_element 2 = .ok (.invokevirtual 20, 3) := by decide +kernel
theorem dX8_element_5 : decode cX8_element 5 = .ok (.ifCond .eq 12, 3) := by decide +kernel
theorem dX8_element_8 : decode cX8_element 8 = .ok (.aload_n 0, 1) := by decide +kernel
theorem dX8_element_9 : decode cX8_element 9 = .ok (.getfield 9, 3) := by decide +kernel
theorem dX8_element_12 : decode cX8_element 12 = .ok (.iload_n 1, 1) := by decide +kernel
theorem dX8_element_13 : decode cX8_element 13 = .ok (.iaload, 1) := by decide +kernel
theorem dX8_element_14 : decode cX8_element 14 = .ok (.goto 4, 3) := by decide +kernel
theorem dX8_element_17 : decode cX8_element 17 = .ok (.iconst 0, 1) := by decide +kernel
theorem dX8_element_18 : decode cX8_element 18 = .ok (.ireturn, 1) := by decide +kernel
theorem dX8_faultAt_0 : decode cX8_faultAt 0 = .ok (.aload_n 0, 1) := by decide +kernel
theorem dX8_faultAt_1 : decode cX8_faultAt 1 = .ok (.invokevirtual 24, 3) := by decide +kernel
theorem dX8_faultAt_4 : decode cX8_faultAt 4 = .ok (.ifCond .eq 5, 3) := by decide +kernel
theorem dX8_faultAt_7 : decode cX8_faultAt 7 = .ok (.iconst 1, 1) := by decide +kernel
theorem dX8_faultAt_8 : decode cX8_faultAt 8 = .ok (.ireturn, 1) := by decide +kernel
theorem dX8_faultAt_9 : decode cX8_faultAt 9 = .ok (.aload_n 0, 1) := by decide +kernel
theorem dX8_faultAt_10 : decode cX8_faultAt 10 = .ok (.getfield 13, 3) := by decide +kernel
theorem dX8_faultAt_13 : decode cX8_faultAt 13 = .ok (.iload_n 1, 1) := by decide +kernel
theorem dX8_faultAt_14 : decode cX8_faultAt 14 = .ok (.if_icmp .eq 5, 3) := by decide +kernel
theorem dX8_faultAt_17 : decode cX8_faultAt 17 = .ok (.iconst 3, 1) := by decide +kernel
theorem dX8_faultAt_18 : decode cX8_faultAt 18 = .ok (.ireturn, 1) := by decide +kernel
theorem dX8_faultAt_19 : decode cX8_faultAt 19 = .ok (.aload_n 0, 1) := by decide +kernel
theorem dX8_faultAt_20 : decode cX8_faultAt 20 = .ok (.iload_n 2, 1) := by decide +kernel
theorem dX8_faultAt_21 : decode cX8_faultAt 21 = .ok (.invokevirtual 20, 3) := by decide +kernel
theorem dX8_faultAt_24 : decode cX8_faultAt 24 = .ok (.ifCond .eq 7, 3) := by decide +kernel
theorem dX8_faultAt_27 : decode cX8_faultAt 27 = .ok (.iconst 0, 1) := by decide +kernel
theorem dX8_faultAt_28 : decode cX8_faultAt 28 = .ok (.goto 4, 3) := by decide +kernel
theorem dX8_faultAt_31 : decode cX8_faultAt 31 = .ok (.iconst 2, 1) := by decide +kernel
theorem dX8_faultAt_32 : decode cX8_faultAt 32 = .ok (.ireturn, 1) := by decide +kernel
theorem dX9_init_0 : decode cX9_init 0 = .ok (.aload_n 0, 1) := by decide +kernel
theorem dX9_init_1 : decode cX9_init 1 = .ok (.invokespecial 1, 3) := by decide +kernel
theorem dX9_init_4 : decode cX9_init 4 = .ok (.aload_n 0, 1) := by decide +kernel
theorem dX9_init_5 : decode cX9_init 5 = .ok (.new 7, 3) := by decide +kernel
theorem dX9_init_8 : decode cX9_init 8 = .ok (.dup, 1) := by decide +kernel
theorem dX9_init_9 : decode cX9_init 9 = .ok (.invokespecial 9, 3) := by decide +kernel
theorem dX9_init_12 : decode cX9_init 12 = .ok (.putfield 10, 3) := by decide +kernel
theorem dX9_init_15 : decode cX9_init 15 = .ok (.aload_n 0, 1) := by decide +kernel
theorem dX9_init_16 : decode cX9_init 16 = .ok (.new 16, 3) := by decide +kernel
theorem dX9_init_19 : decode cX9_init 19 = .ok (.dup, 1) := by decide +kernel
theorem dX9_init_20 : decode cX9_init 20 = .ok (.bipush 8, 2) := by decide +kernel
theorem dX9_init_22 : decode cX9_init 22 = .ok (.invokespecial 18, 3) := by decide +kernel
theorem dX9_init_25 : decode cX9_init 25 = .ok (.putfield 21, 3) := by decide +kernel
theorem dX9_init_28 : decode cX9_init 28 = .ok (.aload_n 0, 1) := by decide +kernel
theorem dX9_init_29 : decode cX9_init 29 = .ok (.new 16, 3) := by decide +kernel
theorem dX9_init_32 : decode cX9_init 32 = .ok (.dup, 1) := by decide +kernel
theorem dX9_init_33 : decode cX9_init 33 = .ok (.bipush 8, 2) := by decide +kernel
theorem dX9_init_35 : decode cX9_init 35 = .ok (.invokespecial 18, 3) := by decide +kernel
theorem dX9_init_38 : decode cX9_init 38 = .ok (.putfield 25, 3) := by decide +kernel
theorem dX9_init_41 : decode cX9_init 41 = .ok (.aload_n 0, 1) := by decide +kernel
theorem dX9_init_42 : decode cX9_init 42 = .ok (.new 16, 3) := by decide +kernel
theorem dX9_init_45 : decode cX9_init 45 = .ok (.dup, 1) := by decide +kernel
theorem dX9_init_46 : decode cX9_init 46 = .ok (.bipush 16, 2) := by decide +kernel
theorem dX9_init_48 : decode cX9_init 48 = .ok (.invokespecial 18, 3) := by decide +kernel
theorem dX9_init_51 : decode cX9_init 51 = .ok (.putfield 28, 3) := by decide +kernel
theorem dX9_init_54 : decode cX9_init 54 = .ok (.aload_n 0, 1) := by decide +kernel
theorem dX9_init_55 : decode cX9_init 55 = .ok (.iconst 2, 1) := by decide +kernel
theorem dX9_init_56 : decode cX9_init 56 = .ok (.anewarray 16, 3) := by decide +kernel
theorem dX9_init_59 : decode cX9_init 59 = .ok (.putfield 31, 3) := by decide +kernel
theorem dX9_init_62 : decode cX9_init 62 = .ok (.aload_n 0, 1) := by decide +kernel
theorem dX9_init_63 : decode cX9_init 63 = .ok (.iconst 2, 1) := by decide +kernel
theorem dX9_init_64 : decode cX9_init 64 = .ok (.newarray .boolean, 2) := by decide +kernel
theorem dX9_init_66 : decode cX9_init 66 = .ok (.putfield 35, 3) := by decide +kernel
theorem dX9_init_69 : decode cX9_init 69 = .ok (.aload_n 0, 1) := by decide +kernel
theorem dX9_init_70 : decode cX9_init 70 = .ok (.new 39, 3) := by decide +kernel
theorem dX9_init_73 : decode cX9_init 73 = .ok (.dup, 1) := by decide +kernel
theorem dX9_init_74 : decode cX9_init 74 = .ok (.invokespecial 41, 3) := by decide +kernel
theorem dX9_init_77 : decode cX9_init 77 = .ok (.putfield 42, 3) := by decide +kernel
theorem dX9_init_80 : decode cX9_init 80 = .ok (.aload_n 0, 1) := by decide +kernel
theorem dX9_init_81 : decode cX9_init 81 = .ok (.new 46, 3) := by decide +kernel
theorem dX9_init_84 : decode cX9_init 84 = .ok (.dup, 1) := by decide +kernel
theorem dX9_init_85 : decode cX9_init 85 = .ok (.invokespecial 48, 3) := by decide +kernel
theorem dX9_init_88 : decode cX9_init 88 = .ok (.putfield 49, 3) := by decide +kernel
theorem dX9_init_91 : decode cX9_init 91 = .ok (.aload_n 0, 1) := by decide +kernel
theorem dX9_init_92 : decode cX9_init 92 = .ok (.new 53, 3) := by decide +kernel
theorem dX9_init_95 : decode cX9_init 95 = .ok (.dup, 1) := by decide +kernel
theorem dX9_init_96 : decode cX9_init 96 = .ok (.invokespecial 55, 3) := by decide +kernel
theorem dX9_init_99 : decode cX9_init 99 = .ok (.putfield 56, 3) := by decide +kernel
theorem dX9_init_102 : decode cX9_init 102 = .ok (.aload_n 0, 1) := by decide +kernel
theorem dX9_init_103 : decode cX9_init 103 = .ok (.new 60, 3) := by decide +kernel
theorem dX9_init_106 : decode cX9_init 106 = .ok (.dup, 1) := by decide +kernel
theorem dX9_init_107 : decode cX9_init 107 = .ok (.invokespecial 62, 3) := by decide +kernel
theorem dX9_init_110 : decode cX9_init 110 = .ok (.putfield 63, 3) := by decide +kernel
theorem dX9_init_113 : decode cX9_init 113 = .ok (.aload_n 0, 1) := by decide +kernel
theorem dX9_init_114 : decode cX9_init 114 = .ok (.bipush 8, 2) := by decide +kernel
theorem dX9_init_116 : decode cX9_init 116 = .ok (.newarray .int, 2) := by decide +kernel
theorem dX9_init_118 : decode cX9_init 118 = .ok (.putfield 67, 3) := by decide +kernel
theorem dX9_init_121 : decode cX9_init 121 = .ok (.aload_n 0, 1) := by decide +kernel
theorem dX9_init_122 : decode cX9_init 122 = .ok (.bipush 8, 2) := by decide +kernel
theorem dX9_init_124 : decode cX9_init 124 = .ok (.newarray .int, 2) := by decide +kernel
theorem dX9_init_126 : decode cX9_init 126 = .ok (.putfield 71, 3) := by decide +kernel
theorem dX9_init_129 : decode cX9_init 129 = .ok (.aload_n 0, 1) := by decide +kernel
theorem dX9_init_130 : decode cX9_init 130 = .ok (.iconst 4, 1) := by decide +kernel
theorem dX9_init_131 : decode cX9_init 131 = .ok (.anewarray 74, 3) := by decide +kernel
theorem dX9_init_134 : decode cX9_init 134 = .ok (.putfield 76, 3) := by decide +kernel
theorem dX9_init_137 : decode cX9_init 137 = .ok (.aload_n 0, 1) := by decide +kernel
theorem dX9_init_138 : decode cX9_init 138 = .ok (.iconst 4, 1) := by decide +kernel
theorem dX9_init_139 : decode cX9_init 139 = .ok (.putfield 80, 3) := by decide +kernel
theorem dX9_init_142 : decode cX9_init 142 = .ok (.aload_n 0, 1) := by decide +kernel
theorem dX9_init_143 : decode cX9_init 143 = .ok (.iconst 0, 1) := by decide +kernel
theorem dX9_init_144 : decode cX9_init 144 = .ok (.putfield 84, 3) := by decide +kernel
theorem dX9_init_147 : decode cX9_init 147 = .ok (.aload_n 0, 1) := by decide +kernel
theorem dX9_init_148 : decode cX9_init 148 = .ok (.iconst 0, 1) := by decide +kernel
theorem dX9_init_149 : decode cX9_init 149 = .ok (.putfield 87, 3) := by decide +kernel
theorem dX9_init_152 : decode cX9_init 152 = .ok (.iconst 0, 1) := by decide +kernel
theorem dX9_init_153 : decode cX9_init 153 = .ok (.istore_n 1, 1) := by decide +kernel
theorem dX9_init_154 : decode cX9_init 154 = .ok (.iload_n 1, 1) := by decide +kernel
theorem dX9_init_155 : decode cX9_init 155 = .ok (.iconst 2, 1) := by decide +kernel
theorem dX9_init_156 : decode cX9_init 156 = .ok (.if_icmp .ge 24, 3) := by decide +kernel
theorem dX9_init_159 : decode cX9_init 159 = .ok (.aload_n 0, 1) := by decide +kernel
theorem dX9_init_160 : decode cX9_init 160 = .ok (.getfield 31, 3) := by decide +kernel
theorem dX9_init_163 : decode cX9_init 163 = .ok (.iload_n 1, 1) := by decide +kernel
theorem dX9_init_164 : decode cX9_init 164 = .ok (.new 16, 3) := by decide +kernel
theorem dX9_init_167 : decode cX9_init 167 = .ok (.dup, 1) := by decide +kernel
theorem dX9_init_168 : decode cX9_init 168 = .ok (.bipush 16, 2) := by decide +kernel
theorem dX9_init_170 : decode cX9_init 170 = .ok (.invokespecial 18, 3) := by decide +kernel
theorem dX9_init_173 : decode cX9_init 173 = .ok (.aastore, 1) := by decide +kernel
theorem dX9_init_174 : decode cX9_init 174 = .ok (.iinc 1 1, 3) := by decide +kernel
theorem dX9_init_177 : decode cX9_init 177 = .ok (.goto (-23), 3) := by decide +kernel
theorem dX9_init_180 : decode cX9_init 180 = .ok (.iconst 0, 1) := by decide +kernel
theorem dX9_init_181 : decode cX9_init 181 = .ok (.istore_n 1, 1) := by decide +kernel
theorem dX9_init_182 : decode cX9_init 182 = .ok (.iload_n 1, 1) := by decide +kernel
theorem dX9_init_183 : decode cX9_init 183 = .ok (.iconst 4, 1) := by decide +kernel
theorem dX9_init_184 : decode cX9_init 184 = .ok (.if_icmp .ge 22, 3) := by decide +kernel
theorem dX9_init_187 : decode cX9_init 187 = .ok (.aload_n 0, 1) := by decide +kernel
theorem dX9_init_188 : decode cX9_init 188 = .ok (.getfield 76, 3) := by decide +kernel
theorem dX9_init_191 : decode cX9_init 191 = .ok (.iload_n 1, 1) := by decide +kernel
theorem dX9_init_192 : decode cX9_init 192 = .ok (.new 74, 3) := by decide +kernel
theorem dX9_init_195 : decode cX9_init 195 = .ok (.dup, 1) := by decide +kernel
theorem dX9_init_196 : decode cX9_init 196 = .ok (.invokespecial 91, 3) := by decide +kernel
theorem dX9_init_199 : decode cX9_init 199 = .ok (.aastore, 1) := by decide +kernel
theorem dX9_init_200 : decode cX9_init 200 = .ok (.iinc 1 1, 3) := by decide +kernel
theorem dX9_init_203 : decode cX9_init 203 = .ok (.goto (-21), 3) := by decide +kernel
theorem dX9_init_206 : decode cX9_init 206 = .ok (.iconst 0, 1) := by decide +kernel
theorem dX9_init_207 : decode cX9_init 207 = .ok (.istore_n 1, 1) := by decide +kernel
theorem dX9_init_208 : decode cX9_init 208 = .ok (.iload_n 1, 1) := by decide +kernel
theorem dX9_init_209 : decode cX9_init 209 = .ok (.bipush 8, 2) := by decide +kernel
theorem dX9_init_211 : decode cX9_init 211 = .ok (.if_icmp .ge 17, 3) := by decide +kernel
theorem dX9_init_214 : decode cX9_init 214 = .ok (.aload_n 0, 1) := by decide +kernel
theorem dX9_init_215 : decode cX9_init 215 = .ok (.getfield 67, 3) := by decide +kernel
theorem dX9_init_218 : decode cX9_init 218 = .ok (.iload_n 1, 1) := by decide +kernel
theorem dX9_init_219 : decode cX9_init 219 = .ok (.bipush 51, 2) := by decide +kernel
theorem dX9_init_221 : decode cX9_init 221 = .ok (.iastore, 1) := by decide +kernel
theorem dX9_init_222 : decode cX9_init 222 = .ok (.iinc 1 1, 3) := by decide +kernel
theorem dX9_init_225 : decode cX9_init 225 = .ok (.goto (-17), 3) := by decide +kernel
theorem dX9_init_228 : decode cX9_init 228 = .ok (.return_, 1) := by decide +kernel
theorem dX9_feed_0 : decode cX9_feed 0 = .ok (.iload_n 1, 1) := by decide +kernel
theorem dX9_feed_1 : decode cX9_feed 1 = .ok (.bipush 127, 2) := by decide +kernel
theorem dX9_feed_3 : decode cX9_feed 3 = .ok (.invokestatic 92, 3) := by decide +kernel
theorem dX9_feed_6 : decode cX9_feed 6 = .ok (.ifCond .ne 5, 3) := by decide +kernel
theorem dX9_feed_9 : decode cX9_feed 9 = .ok (.iconst (-1), 1) := by decide +kernel
theorem dX9_feed_10 : decode cX9_feed 10 = .ok (.ireturn, 1) := by decide +kernel
theorem dX9_feed_11 : decode cX9_feed 11 = .ok (.aload_n 0, 1) := by decide +kernel
theorem dX9_feed_12 : decode cX9_feed 12 = .ok (.getfield 10, 3) := by decide +kernel
theorem dX9_feed_15 : decode cX9_feed 15 = .ok (.iload_n 1, 1) := by decide +kernel
theorem dX9_feed_16 : decode cX9_feed 16 = .ok (.invokevirtual 96, 3) := by decide +kernel
theorem dX9_feed_19 : decode cX9_feed 19 = .ok (.ifCond .eq 13, 3) := by decide +kernel
theorem dX9_feed_22 : decode cX9_feed 22 = .ok (.aload_n 0, 1) := by decide +kernel
theorem dX9_feed_23 : decode cX9_feed 23 = .ok (.getfield 10, 3) := by decide +kernel
theorem dX9_feed_26 : decode cX9_feed 26 = .ok (.getfield 100, 3) := by decide +kernel
theorem dX9_feed_29 : decode cX9_feed 29 = .ok (.goto 5, 3) := by decide +kernel
theorem dX9_feed_32 : decode cX9_feed 32 = .ok (.bipush (-3), 2) := by decide +kernel
theorem dX9_feed_34 : decode cX9_feed 34 = .ok (.ireturn, 1) := by decide +kernel
theorem dX9_end_0 : decode cX9_end 0 = .ok (.iload_n 1, 1) := by decide +kernel
theorem dX9_end_1 : decode cX9_end 1 = .ok (.aload_n 0, 1) := by decide +kernel
theorem dX9_end_2 : decode cX9_end 2 = .ok (.getfield 10, 3) := by decide +kernel
theorem dX9_end_5 : decode cX9_end 5 = .ok (.getfield 100, 3) := by decide +kernel
theorem dX9_end_8 : decode cX9_end 8 = .ok (.invokestatic 92, 3) := by decide +kernel
theorem dX9_end_11 : decode cX9_end 11 = .ok (.ifCond .ne 5, 3) := by decide +kernel
theorem dX9_end_14 : decode cX9_end 14 = .ok (.iconst (-1), 1) := by decide +kernel
theorem dX9_end_15 : decode cX9_end 15 = .ok (.ireturn, 1) := by decide +kernel
theorem dX9_end_16 : decode cX9_end 16 = .ok (.aload_n 0, 1) := by decide +kernel
theorem dX9_end_17 : decode cX9_end 17 = .ok (.getfield 10, 3) := by decide +kernel
theorem dX9_end_20 : decode cX9_end 20 = .ok (.getfield 100, 3) := by decide +kernel
theorem dX9_end_23 : decode cX9_end 23 = .ok (.istore_n 2, 1) := by decide +kernel
theorem dX9_end_24 : decode cX9_end 24 = .ok (.aload_n 0, 1) := by decide +kernel
theorem dX9_end_25 : decode cX9_end 25 = .ok (.getfield 10, 3) := by decide +kernel
theorem dX9_end_28 : decode cX9_end 28 = .ok (.iload_n 1, 1) := by decide +kernel
theorem dX9_end_29 : decode cX9_end 29 = .ok (.putfield 100, 3) := by decide +kernel
theorem dX9_end_32 : decode cX9_end 32 = .ok (.iload_n 2, 1) := by decide +kernel
theorem dX9_end_33 : decode cX9_end 33 = .ok (.ireturn, 1) := by decide +kernel
theorem dX9_text_0 : decode cX9_text 0 = .ok (.aload_n 0, 1) := by decide +kernel
theorem dX9_text_1 : decode cX9_text 1 = .ok (.getfield 10, 3) := by decide +kernel
theorem dX9_text_4 : decode cX9_text 4 = .ok (.aload_n 0, 1) := by decide +kernel
theorem dX9_text_5 : decode cX9_text 5 = .ok (.getfield 21, 3) := by decide +kernel
theorem dX9_text_8 : decode cX9_text 8 = .ok (.invokevirtual 103, 3) := by decide +kernel
theorem dX9_text_11 : decode cX9_text 11 = .ok (.istore_n 1, 1) := by decide +kernel
theorem dX9_text_12 : decode cX9_text 12 = .ok (.aload_n 0, 1) := by decide +kernel
theorem dX9_text_13 : decode cX9_text 13 = .ok (.getfield 10, 3) := by decide +kernel
theorem dX9_text_16 : decode cX9_text 16 = .ok (.iconst 0, 1) := by decide +kernel
theorem dX9_text_17 : decode cX9_text 17 = .ok (.putfield 100, 3) := by decide +kernel
theorem dX9_text_20 : decode cX9_text 20 = .ok (.iload_n 1, 1) := by decide +kernel
theorem dX9_text_21 : decode cX9_text 21 = .ok (.ifCond .ne 14, 3) := by decide +kernel
theorem dX9_text_24 : decode cX9_text 24 = .ok (.bipush (-10), 2) := by decide +kernel
theorem dX9_text_26 : decode cX9_text 26 = .ok (.aload_n 0, 1) := by decide +kernel
theorem dX9_text_27 : decode cX9_text 27 = .ok (.getfield 10, 3) := by decide +kernel
theorem dX9_text_30 : decode cX9_text 30 = .ok (.getfield 107, 3) := by decide +kernel
theorem dX9_text_33 : decode cX9_text 33 = .ok (.isub, 1) := by decide +kernel
theorem dX9_text_34 : decode cX9_text 34 = .ok (.ireturn, 1) := by decide +kernel
theorem dX9_text_35 : decode cX9_text 35 = .ok (.aload_n 0, 1) := by decide +kernel
theorem dX9_text_36 : decode cX9_text 36 = .ok (.getfield 25, 3) := by decide +kernel
theorem dX9_text_39 : decode cX9_text 39 = .ok (.aload_n 0, 1) := by decide +kernel
theorem dX9_text_40 : decode cX9_text 40 = .ok (.getfield 21, 3) := by decide +kernel
theorem dX9_text_43 : decode cX9_text 43 = .ok (.invokevirtual 110, 3) := by decide +kernel
theorem dX9_text_46 : decode cX9_text 46 = .ok (.aload_n 0, 1) := by decide +kernel
theorem dX9_text_47 : decode cX9_text 47 = .ok (.invokevirtual 114, 3) := by decide +kernel
theorem dX9_text_50 : decode cX9_text 50 = .ok (.aload_n 0, 1) := by decide +kernel
theorem dX9_text_51 : decode cX9_text 51 = .ok (.getfield 25, 3) := by decide +kernel
theorem dX9_text_54 : decode cX9_text 54 = .ok (.getfield 117, 3) := by decide +kernel
theorem dX9_text_57 : decode cX9_text 57 = .ok (.ireturn, 1) := by decide +kernel
theorem dX9_fault_0 : decode cX9_fault 0 = .ok (.aload_n 0, 1) := by decide +kernel
theorem dX9_fault_1 : decode cX9_fault 1 = .ok (.getfield 10, 3) := by decide +kernel
theorem dX9_fault_4 : decode cX9_fault 4 = .ok (.getfield 120, 3) := by decide +kernel
theorem dX9_fault_7 : decode cX9_fault 7 = .ok (.ireturn, 1) := by decide +kernel
theorem dX9_program_0 : decode cX9_program 0 = .ok (.iload_n 1, 1) := by decide +kernel
theorem dX9_program_1 : decode cX9_program 1 = .ok (.iconst 1, 1) := by decide +kernel
theorem dX9_program_2 : decode cX9_program 2 = .ok (.invokestatic 92, 3) := by decide +kernel
theorem dX9_program_5 : decode cX9_program 5 = .ok (.ifCond .eq 12, 3) := by decide +kernel
theorem dX9_program_8 : decode cX9_program 8 = .ok (.iload_n 2, 1) := by decide +kernel
theorem dX9_program_9 : decode cX9_program 9 = .ok (.bipush 8, 2) := by decide +kernel
theorem dX9_program_11 : decode cX9_program 11 = .ok (.invokestatic 92, 3) := by decide +kernel
theorem dX9_program_14 : decode cX9_program 14 = .ok (.ifCond .ne 5, 3) := by decide +kernel
theorem dX9_program_17 : decode cX9_program 17 = .ok (.iconst (-1), 1) := by decide +kernel
theorem dX9_program_18 : decode cX9_program 18 = .ok (.ireturn, 1) := by decide +kernel
theorem dX9_program_19 : decode cX9_program 19 = .ok (.iload_n 2, 1) := by decide +kernel
theorem dX9_program_20 : decode cX9_program 20 = .ok (.iconst 3, 1) := by decide +kernel
theorem dX9_program_21 : decode cX9_program 21 = .ok (.if_icmp .gt 13, 3) := by decide +kernel
theorem dX9_program_24 : decode cX9_program 24 = .ok (.aload_n 0, 1) := by decide +kernel
theorem dX9_program_25 : decode cX9_program 25 = .ok (.iload_n 1, 1) := by decide +kernel
theorem dX9_program_26 : decode cX9_program 26 = .ok (.invokevirtual 123, 3) := by decide +kernel
theorem dX9_program_29 : decode cX9_program 29 = .ok (.iload_n 2, 1) := by decide +kernel
theorem dX9_program_30 : decode cX9_program 30 = .ok (.invokevirtual 127, 3) := by decide +kernel
theorem dX9_program_33 : decode cX9_program 33 = .ok (.ireturn, 1) := by decide +kernel
theorem dX9_program_34 : decode cX9_program 34 = .ok (.iload_n 1, 1) := by decide +kernel
theorem dX9_program_35 : decode cX9_program 35 = .ok (.ifCond .ne 6, 3) := by decide +kernel
theorem dX9_program_38 : decode cX9_program 38 = .ok (.bipush (-4), 2) := by decide +kernel
theorem dX9_program_40 : decode cX9_program 40 = .ok (.ireturn, 1) := by decide +kernel
theorem dX9_program_41 : decode cX9_program 41 = .ok (.aload_n 0, 1) := by decide +kernel
theorem dX9_program_42 : decode cX9_program 42 = .ok (.invokevirtual 131, 3) := by decide +kernel
theorem dX9_program_45 : decode cX9_program 45 = .ok (.iload_n 2, 1) := by decide +kernel
theorem dX9_program_46 : decode cX9_program 46 = .ok (.tableswitch 62 4 7 #[30, 38, 46, 57], 30) := by decide +kernel
theorem dX9_program_76 : decode cX9_program 76 = .ok (.aload_n 0, 1) := by decide +kernel
theorem dX9_program_77 : decode cX9_program 77 = .ok (.getfield 42, 3) := by decide +kernel
theorem dX9_program_80 : decode cX9_program 80 = .ok (.invokevirtual 134, 3) := by decide +kernel
theorem dX9_program_83 : decode cX9_program 83 = .ok (.ireturn, 1) := by decide +kernel
theorem dX9_program_84 : decode cX9_program 84 = .ok (.aload_n 0, 1) := by decide +kernel
theorem dX9_program_85 : decode cX9_program 85 = .ok (.getfield 42, 3) := by decide +kernel
theorem dX9_program_88 : decode cX9_program 88 = .ok (.invokevirtual 138, 3) := by decide +kernel
theorem dX9_program_91 : decode cX9_program 91 = .ok (.ireturn, 1) := by decide +kernel
theorem dX9_program_92 : decode cX9_program 92 = .ok (.aload_n 0, 1) := by decide +kernel
theorem dX9_program_93 : decode cX9_program 93 = .ok (.getfield 49, 3) := by decide +kernel
theorem dX9_program_96 : decode cX9_program 96 = .ok (.getfield 141, 3) := by decide +kernel
theorem dX9_program_99 : decode cX9_program 99 = .ok (.invokestatic 144, 3) := by decide +kernel
theorem dX9_program_102 : decode cX9_program 102 = .ok (.ireturn, 1) := by decide +kernel
theorem dX9_program_103 : decode cX9_program 103 = .ok (.aload_n 0, 1) := by decide +kernel
theorem dX9_program_104 : decode cX9_program 104 = .ok (.invokevirtual 149, 3) := by decide +kernel
theorem dX9_program_107 : decode cX9_program 107 = .ok (.ireturn, 1) := by decide +kernel
theorem dX9_program_108 : decode cX9_program 108 = .ok (.aload_n 0, 1) := by decide +kernel
theorem dX9_program_109 : decode cX9_program 109 = .ok (.getfield 42, 3) := by decide +kernel
theorem dX9_program_112 : decode cX9_program 112 = .ok (.aload_n 0, 1) := by decide +kernel
theorem dX9_program_113 : decode cX9_program 113 = .ok (.getfield 28, 3) := by decide +kernel
theorem dX9_program_116 : decode cX9_program 116 = .ok (.invokevirtual 152, 3) := by decide +kernel
theorem dX9_program_119 : decode cX9_program 119 = .ok (.ireturn, 1) := by decide +kernel
theorem dX9_block_0 : decode cX9_block 0 = .ok (.iload_n 1, 1) := by decide +kernel
theorem dX9_block_1 : decode cX9_block 1 = .ok (.iconst 1, 1) := by decide +kernel
theorem dX9_block_2 : decode cX9_block 2 = .ok (.invokestatic 92, 3) := by decide +kernel
theorem dX9_block_5 : decode cX9_block 5 = .ok (.ifCond .eq 24, 3) := by decide +kernel
theorem dX9_block_8 : decode cX9_block 8 = .ok (.iload_n 3, 1) := by decide +kernel
theorem dX9_block_9 : decode cX9_block 9 = .ok (.bipush 7, 2) := by decide +kernel
theorem dX9_block_11 : decode cX9_block 11 = .ok (.invokestatic 92, 3) := by decide +kernel
