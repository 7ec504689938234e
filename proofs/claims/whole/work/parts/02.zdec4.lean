theorem dX10_outcome_36 : decode cX10_outcome 36 = .ok (.invokestatic 188, 3) := by decide +kernel
theorem dX10_outcome_39 : decode cX10_outcome 39 = .ok (.ifCond .eq 11, 3) := by decide +kernel
theorem dX10_outcome_42 : decode cX10_outcome 42 = .ok (.aload_n 0, 1) := by decide +kernel
theorem dX10_outcome_43 : decode cX10_outcome 43 = .ok (.iload_n 1, 1) := by decide +kernel
theorem dX10_outcome_44 : decode cX10_outcome 44 = .ok (.invokevirtual 281, 3) := by decide +kernel
theorem dX10_outcome_47 : decode cX10_outcome 47 = .ok (.goto 5, 3) := by decide +kernel
theorem dX10_outcome_50 : decode cX10_outcome 50 = .ok (.bipush (-4), 2) := by decide +kernel
theorem dX10_outcome_52 : decode cX10_outcome 52 = .ok (.ireturn, 1) := by decide +kernel
theorem dX10_known_0 : decode cX10_known 0 = .ok (.aload_n 0, 1) := by decide +kernel
theorem dX10_known_1 : decode cX10_known 1 = .ok (.iconst 1, 1) := by decide +kernel
theorem dX10_known_2 : decode cX10_known 2 = .ok (.iload_n 1, 1) := by decide +kernel
theorem dX10_known_3 : decode cX10_known 3 = .ok (.iload_n 2, 1) := by decide +kernel
theorem dX10_known_4 : decode cX10_known 4 = .ok (.invokevirtual 277, 3) := by decide +kernel
theorem dX10_known_7 : decode cX10_known 7 = .ok (.ifCond .ne 5, 3) := by decide +kernel
theorem dX10_known_10 : decode cX10_known 10 = .ok (.iconst (-1), 1) := by decide +kernel
theorem dX10_known_11 : decode cX10_known 11 = .ok (.ireturn, 1) := by decide +kernel
theorem dX10_known_12 : decode cX10_known 12 = .ok (.aload_n 0, 1) := by decide +kernel
theorem dX10_known_13 : decode cX10_known 13 = .ok (.invokevirtual 270, 3) := by decide +kernel
theorem dX10_known_16 : decode cX10_known 16 = .ok (.aload_n 0, 1) := by decide +kernel
theorem dX10_known_17 : decode cX10_known 17 = .ok (.iload_n 1, 1) := by decide +kernel
theorem dX10_known_18 : decode cX10_known 18 = .ok (.iload_n 2, 1) := by decide +kernel
theorem dX10_known_19 : decode cX10_known 19 = .ok (.invokevirtual 260, 3) := by decide +kernel
theorem dX10_known_22 : decode cX10_known 22 = .ok (.ifCond .ne 6, 3) := by decide +kernel
theorem dX10_known_25 : decode cX10_known 25 = .ok (.bipush (-2), 2) := by decide +kernel
theorem dX10_known_27 : decode cX10_known 27 = .ok (.ireturn, 1) := by decide +kernel
theorem dX10_known_28 : decode cX10_known 28 = .ok (.aload_n 0, 1) := by decide +kernel
theorem dX10_known_29 : decode cX10_known 29 = .ok (.iconst 1, 1) := by decide +kernel
theorem dX10_known_30 : decode cX10_known 30 = .ok (.aload_n 0, 1) := by decide +kernel
theorem dX10_known_31 : decode cX10_known 31 = .ok (.iconst 1, 1) := by decide +kernel
theorem dX10_known_32 : decode cX10_known 32 = .ok (.iload_n 1, 1) := by decide +kernel
theorem dX10_known_33 : decode cX10_known 33 = .ok (.bipush 14, 2) := by decide +kernel
theorem dX10_known_35 : decode cX10_known 35 = .ok (.iload_n 2, 1) := by decide +kernel
theorem dX10_known_36 : decode cX10_known 36 = .ok (.iadd, 1) := by decide +kernel
theorem dX10_known_37 : decode cX10_known 37 = .ok (.invokevirtual 175, 3) := by decide +kernel
theorem dX10_known_40 : decode cX10_known 40 = .ok (.bipush 13, 2) := by decide +kernel
theorem dX10_known_42 : decode cX10_known 42 = .ok (.invokevirtual 175, 3) := by decide +kernel
theorem dX10_known_45 : decode cX10_known 45 = .ok (.invokestatic 188, 3) := by decide +kernel
theorem dX10_known_48 : decode cX10_known 48 = .ok (.ifCond .eq 12, 3) := by decide +kernel
theorem dX10_known_51 : decode cX10_known 51 = .ok (.aload_n 0, 1) := by decide +kernel
theorem dX10_known_52 : decode cX10_known 52 = .ok (.iload_n 1, 1) := by decide +kernel
theorem dX10_known_53 : decode cX10_known 53 = .ok (.iload_n 2, 1) := by decide +kernel
theorem dX10_known_54 : decode cX10_known 54 = .ok (.invokevirtual 284, 3) := by decide +kernel
theorem dX10_known_57 : decode cX10_known 57 = .ok (.goto 5, 3) := by decide +kernel
theorem dX10_known_60 : decode cX10_known 60 = .ok (.bipush (-4), 2) := by decide +kernel
theorem dX10_known_62 : decode cX10_known 62 = .ok (.ireturn, 1) := by decide +kernel
theorem dX10_meets_0 : decode cX10_meets 0 = .ok (.iconst 0, 1) := by decide +kernel
theorem dX10_meets_1 : decode cX10_meets 1 = .ok (.istore_n 2, 1) := by decide +kernel
theorem dX10_meets_2 : decode cX10_meets 2 = .ok (.iload_n 2, 1) := by decide +kernel
theorem dX10_meets_3 : decode cX10_meets 3 = .ok (.bipush 16, 2) := by decide +kernel
theorem dX10_meets_5 : decode cX10_meets 5 = .ok (.if_icmp .ge 36, 3) := by decide +kernel
theorem dX10_meets_8 : decode cX10_meets 8 = .ok (.aload_n 0, 1) := by decide +kernel
theorem dX10_meets_9 : decode cX10_meets 9 = .ok (.getfield 40, 3) := by decide +kernel
theorem dX10_meets_12 : decode cX10_meets 12 = .ok (.iload_n 2, 1) := by decide +kernel
theorem dX10_meets_13 : decode cX10_meets 13 = .ok (.iload_n 2, 1) := by decide +kernel
theorem dX10_meets_14 : decode cX10_meets 14 = .ok (.ifCond .ne 19, 3) := by decide +kernel
theorem dX10_meets_17 : decode cX10_meets 17 = .ok (.aload_n 0, 1) := by decide +kernel
theorem dX10_meets_18 : decode cX10_meets 18 = .ok (.iconst 1, 1) := by decide +kernel
theorem dX10_meets_19 : decode cX10_meets 19 = .ok (.invokevirtual 172, 3) := by decide +kernel
theorem dX10_meets_22 : decode cX10_meets 22 = .ok (.ifCond .le 11, 3) := by decide +kernel
theorem dX10_meets_25 : decode cX10_meets 25 = .ok (.iload_n 1, 1) := by decide +kernel
theorem dX10_meets_26 : decode cX10_meets 26 = .ok (.ifCond .eq 7, 3) := by decide +kernel
theorem dX10_meets_29 : decode cX10_meets 29 = .ok (.iconst 1, 1) := by decide +kernel
theorem dX10_meets_30 : decode cX10_meets 30 = .ok (.goto 4, 3) := by decide +kernel
theorem dX10_meets_33 : decode cX10_meets 33 = .ok (.iconst 0, 1) := by decide +kernel
theorem dX10_meets_34 : decode cX10_meets 34 = .ok (.bastore, 1) := by decide +kernel
theorem dX10_meets_35 : decode cX10_meets 35 = .ok (.iinc 2 1, 3) := by decide +kernel
theorem dX10_meets_38 : decode cX10_meets 38 = .ok (.goto (-36), 3) := by decide +kernel
theorem dX10_meets_41 : decode cX10_meets 41 = .ok (.iconst 1, 1) := by decide +kernel
theorem dX10_meets_42 : decode cX10_meets 42 = .ok (.istore_n 2, 1) := by decide +kernel
theorem dX10_meets_43 : decode cX10_meets 43 = .ok (.iload_n 2, 1) := by decide +kernel
theorem dX10_meets_44 : decode cX10_meets 44 = .ok (.ifCond .eq 121, 3) := by decide +kernel
theorem dX10_meets_47 : decode cX10_meets 47 = .ok (.iconst 0, 1) := by decide +kernel
theorem dX10_meets_48 : decode cX10_meets 48 = .ok (.istore_n 2, 1) := by decide +kernel
theorem dX10_meets_49 : decode cX10_meets 49 = .ok (.iconst 0, 1) := by decide +kernel
theorem dX10_meets_50 : decode cX10_meets 50 = .ok (.istore_n 3, 1) := by decide +kernel
theorem dX10_meets_51 : decode cX10_meets 51 = .ok (.iload_n 3, 1) := by decide +kernel
theorem dX10_meets_52 : decode cX10_meets 52 = .ok (.aload_n 0, 1) := by decide +kernel
theorem dX10_meets_53 : decode cX10_meets 53 = .ok (.iconst 1, 1) := by decide +kernel
theorem dX10_meets_54 : decode cX10_meets 54 = .ok (.invokevirtual 172, 3) := by decide +kernel
theorem dX10_meets_57 : decode cX10_meets 57 = .ok (.if_icmp .ge 105, 3) := by decide +kernel
theorem dX10_meets_60 : decode cX10_meets 60 = .ok (.iconst 0, 1) := by decide +kernel
theorem dX10_meets_61 : decode cX10_meets 61 = .ok (.istore 4, 2) := by decide +kernel
theorem dX10_meets_63 : decode cX10_meets 63 = .ok (.iload 4, 2) := by decide +kernel
theorem dX10_meets_65 : decode cX10_meets 65 = .ok (.aload_n 0, 1) := by decide +kernel
theorem dX10_meets_66 : decode cX10_meets 66 = .ok (.iconst 1, 1) := by decide +kernel
theorem dX10_meets_67 : decode cX10_meets 67 = .ok (.iload_n 3, 1) := by decide +kernel
theorem dX10_meets_68 : decode cX10_meets 68 = .ok (.invokevirtual 182, 3) := by decide +kernel
theorem dX10_meets_71 : decode cX10_meets 71 = .ok (.if_icmp .ge 85, 3) := by decide +kernel
theorem dX10_meets_74 : decode cX10_meets 74 = .ok (.aload_n 0, 1) := by decide +kernel
theorem dX10_meets_75 : decode cX10_meets 75 = .ok (.getfield 40, 3) := by decide +kernel
theorem dX10_meets_78 : decode cX10_meets 78 = .ok (.iload_n 3, 1) := by decide +kernel
theorem dX10_meets_79 : decode cX10_meets 79 = .ok (.baload, 1) := by decide +kernel
theorem dX10_meets_80 : decode cX10_meets 80 = .ok (.ifCond .eq 76, 3) := by decide +kernel
theorem dX10_meets_83 : decode cX10_meets 83 = .ok (.aload_n 0, 1) := by decide +kernel
theorem dX10_meets_84 : decode cX10_meets 84 = .ok (.iconst 1, 1) := by decide +kernel
theorem dX10_meets_85 : decode cX10_meets 85 = .ok (.iload_n 3, 1) := by decide +kernel
theorem dX10_meets_86 : decode cX10_meets 86 = .ok (.bipush 14, 2) := by decide +kernel
theorem dX10_meets_88 : decode cX10_meets 88 = .ok (.iload 4, 2) := by decide +kernel
theorem dX10_meets_90 : decode cX10_meets 90 = .ok (.iadd, 1) := by decide +kernel
theorem dX10_meets_91 : decode cX10_meets 91 = .ok (.invokevirtual 175, 3) := by decide +kernel
theorem dX10_meets_94 : decode cX10_meets 94 = .ok (.istore 5, 2) := by decide +kernel
theorem dX10_meets_96 : decode cX10_meets 96 = .ok (.iload_n 2, 1) := by decide +kernel
theorem dX10_meets_97 : decode cX10_meets 97 = .ok (.ifCond .ne 19, 3) := by decide +kernel
theorem dX10_meets_100 : decode cX10_meets 100 = .ok (.iload 5, 2) := by decide +kernel
theorem dX10_meets_102 : decode cX10_meets 102 = .ok (.iload_n 1, 1) := by decide +kernel
theorem dX10_meets_103 : decode cX10_meets 103 = .ok (.if_icmp .eq 17, 3) := by decide +kernel
theorem dX10_meets_106 : decode cX10_meets 106 = .ok (.aload_n 0, 1) := by decide +kernel
theorem dX10_meets_107 : decode cX10_meets 107 = .ok (.getfield 40, 3) := by decide +kernel
theorem dX10_meets_110 : decode cX10_meets 110 = .ok (.iload 5, 2) := by decide +kernel
theorem dX10_meets_112 : decode cX10_meets 112 = .ok (.baload, 1) := by decide +kernel
theorem dX10_meets_113 : decode cX10_meets 113 = .ok (.ifCond .ne 7, 3) := by decide +kernel
theorem dX10_meets_116 : decode cX10_meets 116 = .ok (.iconst 1, 1) := by decide +kernel
theorem dX10_meets_117 : decode cX10_meets 117 = .ok (.goto 4, 3) := by decide +kernel
theorem dX10_meets_120 : decode cX10_meets 120 = .ok (.iconst 0, 1) := by decide +kernel
theorem dX10_meets_121 : decode cX10_meets 121 = .ok (.istore_n 2, 1) := by decide +kernel
theorem dX10_meets_122 : decode cX10_meets 122 = .ok (.aload_n 0, 1) := by decide +kernel
theorem dX10_meets_123 : decode cX10_meets 123 = .ok (.getfield 40, 3) := by decide +kernel
theorem dX10_meets_126 : decode cX10_meets 126 = .ok (.iload 5, 2) := by decide +kernel
theorem dX10_meets_128 : decode cX10_meets 128 = .ok (.aload_n 0, 1) := by decide +kernel
theorem dX10_meets_129 : decode cX10_meets 129 = .ok (.getfield 40, 3) := by decide +kernel
theorem dX10_meets_132 : decode cX10_meets 132 = .ok (.iload 5, 2) := by decide +kernel
theorem dX10_meets_134 : decode cX10_meets 134 = .ok (.baload, 1) := by decide +kernel
theorem dX10_meets_135 : decode cX10_meets 135 = .ok (.ifCond .ne 9, 3) := by decide +kernel
theorem dX10_meets_138 : decode cX10_meets 138 = .ok (.iload 5, 2) := by decide +kernel
theorem dX10_meets_140 : decode cX10_meets 140 = .ok (.iload_n 1, 1) := by decide +kernel
theorem dX10_meets_141 : decode cX10_meets 141 = .ok (.if_icmp .eq 7, 3) := by decide +kernel
theorem dX10_meets_144 : decode cX10_meets 144 = .ok (.iconst 1, 1) := by decide +kernel
theorem dX10_meets_145 : decode cX10_meets 145 = .ok (.goto 4, 3) := by decide +kernel
theorem dX10_meets_148 : decode cX10_meets 148 = .ok (.iconst 0, 1) := by decide +kernel
theorem dX10_meets_149 : decode cX10_meets 149 = .ok (.bastore, 1) := by decide +kernel
theorem dX10_meets_150 : decode cX10_meets 150 = .ok (.iinc 4 1, 3) := by decide +kernel
theorem dX10_meets_153 : decode cX10_meets 153 = .ok (.goto (-90), 3) := by decide +kernel
theorem dX10_meets_156 : decode cX10_meets 156 = .ok (.iinc 3 1, 3) := by decide +kernel
theorem dX10_meets_159 : decode cX10_meets 159 = .ok (.goto (-108), 3) := by decide +kernel
theorem dX10_meets_162 : decode cX10_meets 162 = .ok (.goto (-119), 3) := by decide +kernel
theorem dX10_meets_165 : decode cX10_meets 165 = .ok (.return_, 1) := by decide +kernel
theorem dX10_doesDominate_0 : decode cX10_doesDominate 0 = .ok (.aload_n 0, 1) := by decide +kernel
theorem dX10_doesDominate_1 : decode cX10_doesDominate 1 = .ok (.bipush (-4), 2) := by decide +kernel
theorem dX10_doesDominate_3 : decode cX10_doesDominate 3 = .ok (.invokevirtual 287, 3) := by decide +kernel
theorem dX10_doesDominate_6 : decode cX10_doesDominate 6 = .ok (.aload_n 0, 1) := by decide +kernel
theorem dX10_doesDominate_7 : decode cX10_doesDominate 7 = .ok (.getfield 40, 3) := by decide +kernel
theorem dX10_doesDominate_10 : decode cX10_doesDominate 10 = .ok (.iload_n 1, 1) := by decide +kernel
theorem dX10_doesDominate_11 : decode cX10_doesDominate 11 = .ok (.baload, 1) := by decide +kernel
theorem dX10_doesDominate_12 : decode cX10_doesDominate 12 = .ok (.ifCond .eq 12, 3) := by decide +kernel
theorem dX10_doesDominate_15 : decode cX10_doesDominate 15 = .ok (.aload_n 0, 1) := by decide +kernel
theorem dX10_doesDominate_16 : decode cX10_doesDominate 16 = .ok (.getfield 40, 3) := by decide +kernel
theorem dX10_doesDominate_19 : decode cX10_doesDominate 19 = .ok (.iload_n 2, 1) := by decide +kernel
theorem dX10_doesDominate_20 : decode cX10_doesDominate 20 = .ok (.baload, 1) := by decide +kernel
theorem dX10_doesDominate_21 : decode cX10_doesDominate 21 = .ok (.ifCond .ne 5, 3) := by decide +kernel
theorem dX10_doesDominate_24 : decode cX10_doesDominate 24 = .ok (.iconst 0, 1) := by decide +kernel
theorem dX10_doesDominate_25 : decode cX10_doesDominate 25 = .ok (.ireturn, 1) := by decide +kernel
theorem dX10_doesDominate_26 : decode cX10_doesDominate 26 = .ok (.aload_n 0, 1) := by decide +kernel
theorem dX10_doesDominate_27 : decode cX10_doesDominate 27 = .ok (.iload_n 1, 1) := by decide +kernel
theorem dX10_doesDominate_28 : decode cX10_doesDominate 28 = .ok (.invokevirtual 287, 3) := by decide +kernel
theorem dX10_doesDominate_31 : decode cX10_doesDominate 31 = .ok (.iload_n 1, 1) := by decide +kernel
theorem dX10_doesDominate_32 : decode cX10_doesDominate 32 = .ok (.iload_n 2, 1) := by decide +kernel
theorem dX10_doesDominate_33 : decode cX10_doesDominate 33 = .ok (.if_icmp .eq 12, 3) := by decide +kernel
theorem dX10_doesDominate_36 : decode cX10_doesDominate 36 = .ok (.aload_n 0, 1) := by decide +kernel
theorem dX10_doesDominate_37 : decode cX10_doesDominate 37 = .ok (.getfield 40, 3) := by decide +kernel
theorem dX10_doesDominate_40 : decode cX10_doesDominate 40 = .ok (.iload_n 2, 1) := by decide +kernel
theorem dX10_doesDominate_41 : decode cX10_doesDominate 41 = .ok (.baload, 1) := by decide +kernel
theorem dX10_doesDominate_42 : decode cX10_doesDominate 42 = .ok (.ifCond .ne 7, 3) := by decide +kernel
theorem dX10_doesDominate_45 : decode cX10_doesDominate 45 = .ok (.iconst 1, 1) := by decide +kernel
theorem dX10_doesDominate_46 : decode cX10_doesDominate 46 = .ok (.goto 4, 3) := by decide +kernel
theorem dX10_doesDominate_49 : decode cX10_doesDominate 49 = .ok (.iconst 0, 1) := by decide +kernel
theorem dX10_doesDominate_50 : decode cX10_doesDominate 50 = .ok (.ireturn, 1) := by decide +kernel
theorem dX10_isHead_0 : decode cX10_isHead 0 = .ok (.iconst 0, 1) := by decide +kernel
theorem dX10_isHead_1 : decode cX10_isHead 1 = .ok (.istore_n 2, 1) := by decide +kernel
theorem dX10_isHead_2 : decode cX10_isHead 2 = .ok (.iload_n 2, 1) := by decide +kernel
theorem dX10_isHead_3 : decode cX10_isHead 3 = .ok (.aload_n 0, 1) := by decide +kernel
theorem dX10_isHead_4 : decode cX10_isHead 4 = .ok (.iconst 1, 1) := by decide +kernel
theorem dX10_isHead_5 : decode cX10_isHead 5 = .ok (.invokevirtual 172, 3) := by decide +kernel
theorem dX10_isHead_8 : decode cX10_isHead 8 = .ok (.if_icmp .ge 52, 3) := by decide +kernel
theorem dX10_isHead_11 : decode cX10_isHead 11 = .ok (.iconst 0, 1) := by decide +kernel
theorem dX10_isHead_12 : decode cX10_isHead 12 = .ok (.istore_n 3, 1) := by decide +kernel
theorem dX10_isHead_13 : decode cX10_isHead 13 = .ok (.iload_n 3, 1) := by decide +kernel
theorem dX10_isHead_14 : decode cX10_isHead 14 = .ok (.aload_n 0, 1) := by decide +kernel
theorem dX10_isHead_15 : decode cX10_isHead 15 = .ok (.iconst 1, 1) := by decide +kernel
theorem dX10_isHead_16 : decode cX10_isHead 16 = .ok (.iload_n 2, 1) := by decide +kernel
theorem dX10_isHead_17 : decode cX10_isHead 17 = .ok (.invokevirtual 182, 3) := by decide +kernel
theorem dX10_isHead_20 : decode cX10_isHead 20 = .ok (.if_icmp .ge 34, 3) := by decide +kernel
theorem dX10_isHead_23 : decode cX10_isHead 23 = .ok (.aload_n 0, 1) := by decide +kernel
theorem dX10_isHead_24 : decode cX10_isHead 24 = .ok (.iconst 1, 1) := by decide +kernel
theorem dX10_isHead_25 : decode cX10_isHead 25 = .ok (.iload_n 2, 1) := by decide +kernel
theorem dX10_isHead_26 : decode cX10_isHead 26 = .ok (.bipush 14, 2) := by decide +kernel
theorem dX10_isHead_28 : decode cX10_isHead 28 = .ok (.iload_n 3, 1) := by decide +kernel
theorem dX10_isHead_29 : decode cX10_isHead 29 = .ok (.iadd, 1) := by decide +kernel
theorem dX10_isHead_30 : decode cX10_isHead 30 = .ok (.invokevirtual 175, 3) := by decide +kernel
theorem dX10_isHead_33 : decode cX10_isHead 33 = .ok (.iload_n 1, 1) := by decide +kernel
theorem dX10_isHead_34 : decode cX10_isHead 34 = .ok (.if_icmp .ne 14, 3) := by decide +kernel
theorem dX10_isHead_37 : decode cX10_isHead 37 = .ok (.aload_n 0, 1) := by decide +kernel
theorem dX10_isHead_38 : decode cX10_isHead 38 = .ok (.iload_n 1, 1) := by decide +kernel
theorem dX10_isHead_39 : decode cX10_isHead 39 = .ok (.iload_n 2, 1) := by decide +kernel
theorem dX10_isHead_40 : decode cX10_isHead 40 = .ok (.invokevirtual 290, 3) := by decide +kernel
theorem dX10_isHead_43 : decode cX10_isHead 43 = .ok (.ifCond .eq 5, 3) := by decide +kernel
theorem dX10_isHead_46 : decode cX10_isHead 46 = .ok (.iconst 1, 1) := by decide +kernel
theorem dX10_isHead_47 : decode cX10_isHead 47 = .ok (.ireturn, 1) := by decide +kernel
theorem dX10_isHead_48 : decode cX10_isHead 48 = .ok (.iinc 3 1, 3) := by decide +kernel
theorem dX10_isHead_51 : decode cX10_isHead 51 = .ok (.goto (-38), 3) := by decide +kernel
theorem dX10_isHead_54 : decode cX10_isHead 54 = .ok (.iinc 2 1, 3) := by decide +kernel
theorem dX10_isHead_57 : decode cX10_isHead 57 = .ok (.goto (-55), 3) := by decide +kernel
theorem dX10_isHead_60 : decode cX10_isHead 60 = .ok (.iconst 0, 1) := by decide +kernel
theorem dX10_isHead_61 : decode cX10_isHead 61 = .ok (.ireturn, 1) := by decide +kernel
theorem dX10_nearest_0 : decode cX10_nearest 0 = .ok (.iconst 0, 1) := by decide +kernel
theorem dX10_nearest_1 : decode cX10_nearest 1 = .ok (.istore_n 2, 1) := by decide +kernel
theorem dX10_nearest_2 : decode cX10_nearest 2 = .ok (.iload_n 2, 1) := by decide +kernel
theorem dX10_nearest_3 : decode cX10_nearest 3 = .ok (.aload_n 0, 1) := by decide +kernel
theorem dX10_nearest_4 : decode cX10_nearest 4 = .ok (.iconst 1, 1) := by decide +kernel
theorem dX10_nearest_5 : decode cX10_nearest 5 = .ok (.invokevirtual 172, 3) := by decide +kernel
theorem dX10_nearest_8 : decode cX10_nearest 8 = .ok (.if_icmp .ge 90, 3) := by decide +kernel
theorem dX10_nearest_11 : decode cX10_nearest 11 = .ok (.iload_n 2, 1) := by decide +kernel
theorem dX10_nearest_12 : decode cX10_nearest 12 = .ok (.iload_n 1, 1) := by decide +kernel
theorem dX10_nearest_13 : decode cX10_nearest 13 = .ok (.if_icmp .eq 16, 3) := by decide +kernel
theorem dX10_nearest_16 : decode cX10_nearest 16 = .ok (.aload_n 0, 1) := by decide +kernel
theorem dX10_nearest_17 : decode cX10_nearest 17 = .ok (.iload_n 2, 1) := by decide +kernel
theorem dX10_nearest_18 : decode cX10_nearest 18 = .ok (.iload_n 1, 1) := by decide +kernel
theorem dX10_nearest_19 : decode cX10_nearest 19 = .ok (.invokevirtual 290, 3) := by decide +kernel
theorem dX10_nearest_22 : decode cX10_nearest 22 = .ok (.ifCond .eq 7, 3) := by decide +kernel
theorem dX10_nearest_25 : decode cX10_nearest 25 = .ok (.iconst 1, 1) := by decide +kernel
theorem dX10_nearest_26 : decode cX10_nearest 26 = .ok (.goto 4, 3) := by decide +kernel
theorem dX10_nearest_29 : decode cX10_nearest 29 = .ok (.iconst 0, 1) := by decide +kernel
theorem dX10_nearest_30 : decode cX10_nearest 30 = .ok (.istore_n 3, 1) := by decide +kernel
theorem dX10_nearest_31 : decode cX10_nearest 31 = .ok (.iconst 0, 1) := by decide +kernel
theorem dX10_nearest_32 : decode cX10_nearest 32 = .ok (.istore 4, 2) := by decide +kernel
theorem dX10_nearest_34 : decode cX10_nearest 34 = .ok (.iload 4, 2) := by decide +kernel
theorem dX10_nearest_36 : decode cX10_nearest 36 = .ok (.aload_n 0, 1) := by decide +kernel
theorem dX10_nearest_37 : decode cX10_nearest 37 = .ok (.iconst 1, 1) := by decide +kernel
theorem dX10_nearest_38 : decode cX10_nearest 38 = .ok (.invokevirtual 172, 3) := by decide +kernel
theorem dX10_nearest_41 : decode cX10_nearest 41 = .ok (.if_icmp .ge 45, 3) := by decide +kernel
theorem dX10_nearest_44 : decode cX10_nearest 44 = .ok (.iload_n 3, 1) := by decide +kernel
theorem dX10_nearest_45 : decode cX10_nearest 45 = .ok (.ifCond .eq 41, 3) := by decide +kernel
theorem dX10_nearest_48 : decode cX10_nearest 48 = .ok (.iload 4, 2) := by decide +kernel
theorem dX10_nearest_50 : decode cX10_nearest 50 = .ok (.iload_n 1, 1) := by decide +kernel
theorem dX10_nearest_51 : decode cX10_nearest 51 = .ok (.if_icmp .eq 23, 3) := by decide +kernel
theorem dX10_nearest_54 : decode cX10_nearest 54 = .ok (.aload_n 0, 1) := by decide +kernel
theorem dX10_nearest_55 : decode cX10_nearest 55 = .ok (.iload 4, 2) := by decide +kernel
theorem dX10_nearest_57 : decode cX10_nearest 57 = .ok (.iload_n 1, 1) := by decide +kernel
theorem dX10_nearest_58 : decode cX10_nearest 58 = .ok (.invokevirtual 290, 3) := by decide +kernel
theorem dX10_nearest_61 : decode cX10_nearest 61 = .ok (.ifCond .eq 13, 3) := by decide +kernel
theorem dX10_nearest_64 : decode cX10_nearest 64 = .ok (.aload_n 0, 1) := by decide +kernel
theorem dX10_nearest_65 : decode cX10_nearest 65 = .ok (.iload 4, 2) := by decide +kernel
theorem dX10_nearest_67 : decode cX10_nearest 67 = .ok (.iload_n 2, 1) := by decide +kernel
theorem dX10_nearest_68 : decode cX10_nearest 68 = .ok (.invokevirtual 290, 3) := by decide +kernel
theorem dX10_nearest_71 : decode cX10_nearest 71 = .ok (.ifCond .eq 7, 3) := by decide +kernel
theorem dX10_nearest_74 : decode cX10_nearest 74 = .ok (.iconst 1, 1) := by decide +kernel
theorem dX10_nearest_75 : decode cX10_nearest 75 = .ok (.goto 4, 3) := by decide +kernel
theorem dX10_nearest_78 : decode cX10_nearest 78 = .ok (.iconst 0, 1) := by decide +kernel
theorem dX10_nearest_79 : decode cX10_nearest 79 = .ok (.istore_n 3, 1) := by decide +kernel
theorem dX10_nearest_80 : decode cX10_nearest 80 = .ok (.iinc 4 1, 3) := by decide +kernel
theorem dX10_nearest_83 : decode cX10_nearest 83 = .ok (.goto (-49), 3) := by decide +kernel
theorem dX10_nearest_86 : decode cX10_nearest 86 = .ok (.iload_n 3, 1) := by decide +kernel
theorem dX10_nearest_87 : decode cX10_nearest 87 = .ok (.ifCond .eq 5, 3) := by decide +kernel
theorem dX10_nearest_90 : decode cX10_nearest 90 = .ok (.iload_n 2, 1) := by decide +kernel
theorem dX10_nearest_91 : decode cX10_nearest 91 = .ok (.ireturn, 1) := by decide +kernel
theorem dX10_nearest_92 : decode cX10_nearest 92 = .ok (.iinc 2 1, 3) := by decide +kernel
theorem dX10_nearest_95 : decode cX10_nearest 95 = .ok (.goto (-93), 3) := by decide +kernel
theorem dX10_nearest_98 : decode cX10_nearest 98 = .ok (.bipush (-4), 2) := by decide +kernel
theorem dX10_nearest_100 : decode cX10_nearest 100 = .ok (.ireturn, 1) := by decide +kernel
theorem dX10_dominates_0 : decode cX10_dominates 0 = .ok (.aload_n 0, 1) := by decide +kernel
theorem dX10_dominates_1 : decode cX10_dominates 1 = .ok (.iconst 1, 1) := by decide +kernel
theorem dX10_dominates_2 : decode cX10_dominates 2 = .ok (.iload_n 1, 1) := by decide +kernel
theorem dX10_dominates_3 : decode cX10_dominates 3 = .ok (.invokevirtual 178, 3) := by decide +kernel
theorem dX10_dominates_6 : decode cX10_dominates 6 = .ok (.ifCond .eq 24, 3) := by decide +kernel
theorem dX10_dominates_9 : decode cX10_dominates 9 = .ok (.aload_n 0, 1) := by decide +kernel
theorem dX10_dominates_10 : decode cX10_dominates 10 = .ok (.iconst 1, 1) := by decide +kernel
theorem dX10_dominates_11 : decode cX10_dominates 11 = .ok (.iload_n 2, 1) := by decide +kernel
theorem dX10_dominates_12 : decode cX10_dominates 12 = .ok (.invokevirtual 178, 3) := by decide +kernel
theorem dX10_dominates_15 : decode cX10_dominates 15 = .ok (.ifCond .eq 15, 3) := by decide +kernel
theorem dX10_dominates_18 : decode cX10_dominates 18 = .ok (.aload_n 0, 1) := by decide +kernel
theorem dX10_dominates_19 : decode cX10_dominates 19 = .ok (.iload_n 1, 1) := by decide +kernel
theorem dX10_dominates_20 : decode cX10_dominates 20 = .ok (.iload_n 2, 1) := by decide +kernel
theorem dX10_dominates_21 : decode cX10_dominates 21 = .ok (.invokevirtual 290, 3) := by decide +kernel
theorem dX10_dominates_24 : decode cX10_dominates 24 = .ok (.invokestatic 145, 3) := by decide +kernel
theorem dX10_dominates_27 : decode cX10_dominates 27 = .ok (.goto 4, 3) := by decide +kernel
theorem dX10_dominates_30 : decode cX10_dominates 30 = .ok (.iconst (-1), 1) := by decide +kernel
theorem dX10_dominates_31 : decode cX10_dominates 31 = .ok (.ireturn, 1) := by decide +kernel
theorem dX10_loop_0 : decode cX10_loop 0 = .ok (.aload_n 0, 1) := by decide +kernel
theorem dX10_loop_1 : decode cX10_loop 1 = .ok (.iconst 1, 1) := by decide +kernel
theorem dX10_loop_2 : decode cX10_loop 2 = .ok (.iload_n 1, 1) := by decide +kernel
theorem dX10_loop_3 : decode cX10_loop 3 = .ok (.invokevirtual 178, 3) := by decide +kernel
theorem dX10_loop_6 : decode cX10_loop 6 = .ok (.ifCond .eq 13, 3) := by decide +kernel
theorem dX10_loop_9 : decode cX10_loop 9 = .ok (.iload_n 2, 1) := by decide +kernel
theorem dX10_loop_10 : decode cX10_loop 10 = .ok (.i2l, 1) := by decide +kernel
theorem dX10_loop_11 : decode cX10_loop 11 = .ok (.lconst 0, 1) := by decide +kernel
theorem dX10_loop_12 : decode cX10_loop 12 = .ok (.lconst 1, 1) := by decide +kernel
theorem dX10_loop_13 : decode cX10_loop 13 = .ok (.invokestatic 80, 3) := by decide +kernel
theorem dX10_loop_16 : decode cX10_loop 16 = .ok (.ifCond .ne 5, 3) := by decide +kernel
theorem dX10_loop_19 : decode cX10_loop 19 = .ok (.iconst (-1), 1) := by decide +kernel
theorem dX10_loop_20 : decode cX10_loop 20 = .ok (.ireturn, 1) := by decide +kernel
theorem dX10_loop_21 : decode cX10_loop 21 = .ok (.iload_n 2, 1) := by decide +kernel
theorem dX10_loop_22 : decode cX10_loop 22 = .ok (.ifCond .ne 14, 3) := by decide +kernel
theorem dX10_loop_25 : decode cX10_loop 25 = .ok (.aload_n 0, 1) := by decide +kernel
theorem dX10_loop_26 : decode cX10_loop 26 = .ok (.iload_n 1, 1) := by decide +kernel
theorem dX10_loop_27 : decode cX10_loop 27 = .ok (.invokevirtual 293, 3) := by decide +kernel
theorem dX10_loop_30 : decode cX10_loop 30 = .ok (.invokestatic 145, 3) := by decide +kernel
theorem dX10_loop_33 : decode cX10_loop 33 = .ok (.goto 8, 3) := by decide +kernel
theorem dX10_loop_36 : decode cX10_loop 36 = .ok (.aload_n 0, 1) := by decide +kernel
theorem dX10_loop_37 : decode cX10_loop 37 = .ok (.iload_n 1, 1) := by decide +kernel
theorem dX10_loop_38 : decode cX10_loop 38 = .ok (.invokevirtual 296, 3) := by decide +kernel
theorem dX10_loop_41 : decode cX10_loop 41 = .ok (.ireturn, 1) := by decide +kernel
theorem dX10_against_0 : decode cX10_against 0 = .ok (.aload_n 0, 1) := by decide +kernel
theorem dX10_against_1 : decode cX10_against 1 = .ok (.iload_n 1, 1) := by decide +kernel
theorem dX10_against_2 : decode cX10_against 2 = .ok (.iload_n 2, 1) := by decide +kernel
theorem dX10_against_3 : decode cX10_against 3 = .ok (.invokevirtual 260, 3) := by decide +kernel
theorem dX10_against_6 : decode cX10_against 6 = .ok (.ifCond .ne 5, 3) := by decide +kernel
theorem dX10_against_9 : decode cX10_against 9 = .ok (.iconst 1, 1) := by decide +kernel
theorem dX10_against_10 : decode cX10_against 10 = .ok (.ireturn, 1) := by decide +kernel
theorem dX10_against_11 : decode cX10_against 11 = .ok (.aload_n 0, 1) := by decide +kernel
theorem dX10_against_12 : decode cX10_against 12 = .ok (.iconst 1, 1) := by decide +kernel
theorem dX10_against_13 : decode cX10_against 13 = .ok (.iload_n 1, 1) := by decide +kernel
theorem dX10_against_14 : decode cX10_against 14 = .ok (.bipush 14, 2) := by decide +kernel
theorem dX10_against_16 : decode cX10_against 16 = .ok (.iload_n 2, 1) := by decide +kernel
theorem dX10_against_17 : decode cX10_against 17 = .ok (.iadd, 1) := by decide +kernel
theorem dX10_against_18 : decode cX10_against 18 = .ok (.invokevirtual 175, 3) := by decide +kernel
theorem dX10_against_21 : decode cX10_against 21 = .ok (.istore_n 3, 1) := by decide +kernel
theorem dX10_against_22 : decode cX10_against 22 = .ok (.aload_n 0, 1) := by decide +kernel
theorem dX10_against_23 : decode cX10_against 23 = .ok (.iconst 1, 1) := by decide +kernel
theorem dX10_against_24 : decode cX10_against 24 = .ok (.iload_n 3, 1) := by decide +kernel
theorem dX10_against_25 : decode cX10_against 25 = .ok (.bipush 13, 2) := by decide +kernel
theorem dX10_against_27 : decode cX10_against 27 = .ok (.invokevirtual 175, 3) := by decide +kernel
theorem dX10_against_30 : decode cX10_against 30 = .ok (.invokestatic 188, 3) := by decide +kernel
theorem dX10_against_33 : decode cX10_against 33 = .ok (.ifCond .ne 5, 3) := by decide +kernel
theorem dX10_against_36 : decode cX10_against 36 = .ok (.iconst 2, 1) := by decide +kernel
theorem dX10_against_37 : decode cX10_against 37 = .ok (.ireturn, 1) := by decide +kernel
theorem dX10_against_38 : decode cX10_against 38 = .ok (.aload_n 0, 1) := by decide +kernel
theorem dX10_against_39 : decode cX10_against 39 = .ok (.iload_n 1, 1) := by decide +kernel
theorem dX10_against_40 : decode cX10_against 40 = .ok (.iload_n 2, 1) := by decide +kernel
theorem dX10_against_41 : decode cX10_against 41 = .ok (.invokevirtual 284, 3) := by decide +kernel
theorem dX10_against_44 : decode cX10_against 44 = .ok (.ifCond .ne 5, 3) := by decide +kernel
theorem dX10_against_47 : decode cX10_against 47 = .ok (.iconst 3, 1) := by decide +kernel
theorem dX10_against_48 : decode cX10_against 48 = .ok (.ireturn, 1) := by decide +kernel
theorem dX10_against_49 : decode cX10_against 49 = .ok (.aload_n 0, 1) := by decide +kernel
theorem dX10_against_50 : decode cX10_against 50 = .ok (.iload_n 3, 1) := by decide +kernel
theorem dX10_against_51 : decode cX10_against 51 = .ok (.invokevirtual 293, 3) := by decide +kernel
theorem dX10_against_54 : decode cX10_against 54 = .ok (.ifCond .eq 7, 3) := by decide +kernel
theorem dX10_against_57 : decode cX10_against 57 = .ok (.iconst 4, 1) := by decide +kernel
theorem dX10_against_58 : decode cX10_against 58 = .ok (.goto 37, 3) := by decide +kernel
theorem dX10_against_61 : decode cX10_against 61 = .ok (.aload_n 0, 1) := by decide +kernel
theorem dX10_against_62 : decode cX10_against 62 = .ok (.iconst 1, 1) := by decide +kernel
theorem dX10_against_63 : decode cX10_against 63 = .ok (.iload_n 3, 1) := by decide +kernel
theorem dX10_against_64 : decode cX10_against 64 = .ok (.iconst 0, 1) := by decide +kernel
theorem dX10_against_65 : decode cX10_against 65 = .ok (.invokevirtual 175, 3) := by decide +kernel
theorem dX10_against_68 : decode cX10_against 68 = .ok (.aload_n 0, 1) := by decide +kernel
theorem dX10_against_69 : decode cX10_against 69 = .ok (.getfield 23, 3) := by decide +kernel
theorem dX10_against_72 : decode cX10_against 72 = .ok (.if_icmp .le 7, 3) := by decide +kernel
theorem dX10_against_75 : decode cX10_against 75 = .ok (.iconst 5, 1) := by decide +kernel
theorem dX10_against_76 : decode cX10_against 76 = .ok (.goto 19, 3) := by decide +kernel
theorem dX10_against_79 : decode cX10_against 79 = .ok (.aload_n 0, 1) := by decide +kernel
theorem dX10_against_80 : decode cX10_against 80 = .ok (.iconst 1, 1) := by decide +kernel
theorem dX10_against_81 : decode cX10_against 81 = .ok (.invokevirtual 172, 3) := by decide +kernel
theorem dX10_against_84 : decode cX10_against 84 = .ok (.bipush 16, 2) := by decide +kernel
theorem dX10_against_86 : decode cX10_against 86 = .ok (.if_icmp .ne 8, 3) := by decide +kernel
theorem dX10_against_89 : decode cX10_against 89 = .ok (.bipush 6, 2) := by decide +kernel
theorem dX10_against_91 : decode cX10_against 91 = .ok (.goto 4, 3) := by decide +kernel
theorem dX10_against_94 : decode cX10_against 94 = .ok (.iconst 0, 1) := by decide +kernel
theorem dX10_against_95 : decode cX10_against 95 = .ok (.ireturn, 1) := by decide +kernel
theorem dX10_ofNow_0 : decode cX10_ofNow 0 = .ok (.aload_n 0, 1) := by decide +kernel
theorem dX10_ofNow_1 : decode cX10_ofNow 1 = .ok (.invokevirtual 270, 3) := by decide +kernel
theorem dX10_ofNow_4 : decode cX10_ofNow 4 = .ok (.iconst 0, 1) := by decide +kernel
theorem dX10_ofNow_5 : decode cX10_ofNow 5 = .ok (.istore_n 2, 1) := by decide +kernel
theorem dX10_ofNow_6 : decode cX10_ofNow 6 = .ok (.iconst 0, 1) := by decide +kernel
theorem dX10_ofNow_7 : decode cX10_ofNow 7 = .ok (.istore_n 3, 1) := by decide +kernel
theorem dX10_ofNow_8 : decode cX10_ofNow 8 = .ok (.iload_n 3, 1) := by decide +kernel
theorem dX10_ofNow_9 : decode cX10_ofNow 9 = .ok (.aload_n 0, 1) := by decide +kernel
theorem dX10_ofNow_10 : decode cX10_ofNow 10 = .ok (.iconst 1, 1) := by decide +kernel
theorem dX10_ofNow_11 : decode cX10_ofNow 11 = .ok (.invokevirtual 172, 3) := by decide +kernel
theorem dX10_ofNow_14 : decode cX10_ofNow 14 = .ok (.if_icmp .ge 166, 3) := by decide +kernel
theorem dX10_ofNow_17 : decode cX10_ofNow 17 = .ok (.iload_n 2, 1) := by decide +kernel
theorem dX10_ofNow_18 : decode cX10_ofNow 18 = .ok (.iload_n 1, 1) := by decide +kernel
theorem dX10_ofNow_19 : decode cX10_ofNow 19 = .ok (.iconst 4, 1) := by decide +kernel
theorem dX10_ofNow_20 : decode cX10_ofNow 20 = .ok (.if_icmp .ne 14, 3) := by decide +kernel
theorem dX10_ofNow_23 : decode cX10_ofNow 23 = .ok (.aload_n 0, 1) := by decide +kernel
theorem dX10_ofNow_24 : decode cX10_ofNow 24 = .ok (.iload_n 3, 1) := by decide +kernel
theorem dX10_ofNow_25 : decode cX10_ofNow 25 = .ok (.invokevirtual 251, 3) := by decide +kernel
theorem dX10_ofNow_28 : decode cX10_ofNow 28 = .ok (.invokestatic 145, 3) := by decide +kernel
theorem dX10_ofNow_31 : decode cX10_ofNow 31 = .ok (.goto 21, 3) := by decide +kernel
theorem dX10_ofNow_34 : decode cX10_ofNow 34 = .ok (.iload_n 1, 1) := by decide +kernel
theorem dX10_ofNow_35 : decode cX10_ofNow 35 = .ok (.bipush 6, 2) := by decide +kernel
theorem dX10_ofNow_37 : decode cX10_ofNow 37 = .ok (.if_icmp .ne 14, 3) := by decide +kernel
theorem dX10_ofNow_40 : decode cX10_ofNow 40 = .ok (.aload_n 0, 1) := by decide +kernel
theorem dX10_ofNow_41 : decode cX10_ofNow 41 = .ok (.iload_n 3, 1) := by decide +kernel
theorem dX10_ofNow_42 : decode cX10_ofNow 42 = .ok (.invokevirtual 293, 3) := by decide +kernel
theorem dX10_ofNow_45 : decode cX10_ofNow 45 = .ok (.invokestatic 145, 3) := by decide +kernel
theorem dX10_ofNow_48 : decode cX10_ofNow 48 = .ok (.goto 4, 3) := by decide +kernel
theorem dX10_ofNow_51 : decode cX10_ofNow 51 = .ok (.iconst 0, 1) := by decide +kernel
theorem dX10_ofNow_52 : decode cX10_ofNow 52 = .ok (.iadd, 1) := by decide +kernel
theorem dX10_ofNow_53 : decode cX10_ofNow 53 = .ok (.istore_n 2, 1) := by decide +kernel
theorem dX10_ofNow_54 : decode cX10_ofNow 54 = .ok (.iload_n 2, 1) := by decide +kernel
theorem dX10_ofNow_55 : decode cX10_ofNow 55 = .ok (.iload_n 1, 1) := by decide +kernel
theorem dX10_ofNow_56 : decode cX10_ofNow 56 = .ok (.bipush 8, 2) := by decide +kernel
theorem dX10_ofNow_58 : decode cX10_ofNow 58 = .ok (.if_icmp .ne 44, 3) := by decide +kernel
theorem dX10_ofNow_61 : decode cX10_ofNow 61 = .ok (.aload_n 0, 1) := by decide +kernel
theorem dX10_ofNow_62 : decode cX10_ofNow 62 = .ok (.iload_n 3, 1) := by decide +kernel
theorem dX10_ofNow_63 : decode cX10_ofNow 63 = .ok (.invokevirtual 251, 3) := by decide +kernel
theorem dX10_ofNow_66 : decode cX10_ofNow 66 = .ok (.ifCond .eq 29, 3) := by decide +kernel
theorem dX10_ofNow_69 : decode cX10_ofNow 69 = .ok (.aload_n 0, 1) := by decide +kernel
theorem dX10_ofNow_70 : decode cX10_ofNow 70 = .ok (.iconst 1, 1) := by decide +kernel
theorem dX10_ofNow_71 : decode cX10_ofNow 71 = .ok (.iload_n 3, 1) := by decide +kernel
theorem dX10_ofNow_72 : decode cX10_ofNow 72 = .ok (.bipush 13, 2) := by decide +kernel
theorem dX10_ofNow_74 : decode cX10_ofNow 74 = .ok (.invokevirtual 175, 3) := by decide +kernel
theorem dX10_ofNow_77 : decode cX10_ofNow 77 = .ok (.invokestatic 188, 3) := by decide +kernel
theorem dX10_ofNow_80 : decode cX10_ofNow 80 = .ok (.ifCond .eq 15, 3) := by decide +kernel
theorem dX10_ofNow_83 : decode cX10_ofNow 83 = .ok (.aload_n 0, 1) := by decide +kernel
theorem dX10_ofNow_84 : decode cX10_ofNow 84 = .ok (.iload_n 3, 1) := by decide +kernel
theorem dX10_ofNow_85 : decode cX10_ofNow 85 = .ok (.invokevirtual 281, 3) := by decide +kernel
theorem dX10_ofNow_88 : decode cX10_ofNow 88 = .ok (.ifCond .le 7, 3) := by decide +kernel
theorem dX10_ofNow_91 : decode cX10_ofNow 91 = .ok (.iconst 1, 1) := by decide +kernel
theorem dX10_ofNow_92 : decode cX10_ofNow 92 = .ok (.goto 4, 3) := by decide +kernel
theorem dX10_ofNow_95 : decode cX10_ofNow 95 = .ok (.iconst 0, 1) := by decide +kernel
theorem dX10_ofNow_96 : decode cX10_ofNow 96 = .ok (.invokestatic 145, 3) := by decide +kernel
theorem dX10_ofNow_99 : decode cX10_ofNow 99 = .ok (.goto 4, 3) := by decide +kernel
theorem dX10_ofNow_102 : decode cX10_ofNow 102 = .ok (.iconst 0, 1) := by decide +kernel
theorem dX10_ofNow_103 : decode cX10_ofNow 103 = .ok (.iadd, 1) := by decide +kernel
theorem dX10_ofNow_104 : decode cX10_ofNow 104 = .ok (.istore_n 2, 1) := by decide +kernel
theorem dX10_ofNow_105 : decode cX10_ofNow 105 = .ok (.iconst 0, 1) := by decide +kernel
theorem dX10_ofNow_106 : decode cX10_ofNow 106 = .ok (.istore 4, 2) := by decide +kernel
theorem dX10_ofNow_108 : decode cX10_ofNow 108 = .ok (.iload 4, 2) := by decide +kernel
theorem dX10_ofNow_110 : decode cX10_ofNow 110 = .ok (.aload_n 0, 1) := by decide +kernel
theorem dX10_ofNow_111 : decode cX10_ofNow 111 = .ok (.iconst 1, 1) := by decide +kernel
theorem dX10_ofNow_112 : decode cX10_ofNow 112 = .ok (.iload_n 3, 1) := by decide +kernel
theorem dX10_ofNow_113 : decode cX10_ofNow 113 = .ok (.invokevirtual 182, 3) := by decide +kernel
theorem dX10_ofNow_116 : decode cX10_ofNow 116 = .ok (.if_icmp .ge 58, 3) := by decide +kernel
theorem dX10_ofNow_119 : decode cX10_ofNow 119 = .ok (.iload_n 2, 1) := by decide +kernel
theorem dX10_ofNow_120 : decode cX10_ofNow 120 = .ok (.iload_n 1, 1) := by decide +kernel
theorem dX10_ofNow_121 : decode cX10_ofNow 121 = .ok (.iconst 5, 1) := by decide +kernel
theorem dX10_ofNow_122 : decode cX10_ofNow 122 = .ok (.if_icmp .ne 16, 3) := by decide +kernel
theorem dX10_ofNow_125 : decode cX10_ofNow 125 = .ok (.aload_n 0, 1) := by decide +kernel
theorem dX10_ofNow_126 : decode cX10_ofNow 126 = .ok (.iload_n 3, 1) := by decide +kernel
theorem dX10_ofNow_127 : decode cX10_ofNow 127 = .ok (.iload 4, 2) := by decide +kernel
theorem dX10_ofNow_129 : decode cX10_ofNow 129 = .ok (.invokevirtual 260, 3) := by decide +kernel
theorem dX10_ofNow_132 : decode cX10_ofNow 132 = .ok (.invokestatic 145, 3) := by decide +kernel
theorem dX10_ofNow_135 : decode cX10_ofNow 135 = .ok (.goto 31, 3) := by decide +kernel
theorem dX10_ofNow_138 : decode cX10_ofNow 138 = .ok (.iload_n 1, 1) := by decide +kernel
theorem dX10_ofNow_139 : decode cX10_ofNow 139 = .ok (.bipush 7, 2) := by decide +kernel
theorem dX10_ofNow_141 : decode cX10_ofNow 141 = .ok (.if_icmp .ne 24, 3) := by decide +kernel
theorem dX10_ofNow_144 : decode cX10_ofNow 144 = .ok (.aload_n 0, 1) := by decide +kernel
theorem dX10_ofNow_145 : decode cX10_ofNow 145 = .ok (.iload_n 3, 1) := by decide +kernel
theorem dX10_ofNow_146 : decode cX10_ofNow 146 = .ok (.iload 4, 2) := by decide +kernel
theorem dX10_ofNow_148 : decode cX10_ofNow 148 = .ok (.invokevirtual 299, 3) := by decide +kernel
theorem dX10_ofNow_151 : decode cX10_ofNow 151 = .ok (.ifCond .ne 7, 3) := by decide +kernel
theorem dX10_ofNow_154 : decode cX10_ofNow 154 = .ok (.iconst 1, 1) := by decide +kernel
theorem dX10_ofNow_155 : decode cX10_ofNow 155 = .ok (.goto 4, 3) := by decide +kernel
theorem dX10_ofNow_158 : decode cX10_ofNow 158 = .ok (.iconst 0, 1) := by decide +kernel
theorem dX10_ofNow_159 : decode cX10_ofNow 159 = .ok (.invokestatic 145, 3) := by decide +kernel
theorem dX10_ofNow_162 : decode cX10_ofNow 162 = .ok (.goto 4, 3) := by decide +kernel
theorem dX10_ofNow_165 : decode cX10_ofNow 165 = .ok (.iconst 0, 1) := by decide +kernel
theorem dX10_ofNow_166 : decode cX10_ofNow 166 = .ok (.iadd, 1) := by decide +kernel
theorem dX10_ofNow_167 : decode cX10_ofNow 167 = .ok (.istore_n 2, 1) := by decide +kernel
theorem dX10_ofNow_168 : decode cX10_ofNow 168 = .ok (.iinc 4 1, 3) := by decide +kernel
theorem dX10_ofNow_171 : decode cX10_ofNow 171 = .ok (.goto (-63), 3) := by decide +kernel
theorem dX10_ofNow_174 : decode cX10_ofNow 174 = .ok (.iinc 3 1, 3) := by decide +kernel
theorem dX10_ofNow_177 : decode cX10_ofNow 177 = .ok (.goto (-169), 3) := by decide +kernel
theorem dX10_ofNow_180 : decode cX10_ofNow 180 = .ok (.iload_n 2, 1) := by decide +kernel
theorem dX10_ofNow_181 : decode cX10_ofNow 181 = .ok (.ireturn, 1) := by decide +kernel
theorem dX10_why_0 : decode cX10_why 0 = .ok (.aload_n 0, 1) := by decide +kernel
theorem dX10_why_1 : decode cX10_why 1 = .ok (.iconst 1, 1) := by decide +kernel
theorem dX10_why_2 : decode cX10_why 2 = .ok (.iload_n 1, 1) := by decide +kernel
theorem dX10_why_3 : decode cX10_why 3 = .ok (.iload_n 2, 1) := by decide +kernel
theorem dX10_why_4 : decode cX10_why 4 = .ok (.invokevirtual 277, 3) := by decide +kernel
theorem dX10_why_7 : decode cX10_why 7 = .ok (.ifCond .ne 5, 3) := by decide +kernel
theorem dX10_why_10 : decode cX10_why 10 = .ok (.iconst (-1), 1) := by decide +kernel
theorem dX10_why_11 : decode cX10_why 11 = .ok (.ireturn, 1) := by decide +kernel
theorem dX10_why_12 : decode cX10_why 12 = .ok (.aload_n 0, 1) := by decide +kernel
theorem dX10_why_13 : decode cX10_why 13 = .ok (.invokevirtual 270, 3) := by decide +kernel
theorem dX10_why_16 : decode cX10_why 16 = .ok (.aload_n 0, 1) := by decide +kernel
theorem dX10_why_17 : decode cX10_why 17 = .ok (.iload_n 1, 1) := by decide +kernel
theorem dX10_why_18 : decode cX10_why 18 = .ok (.iload_n 2, 1) := by decide +kernel
theorem dX10_why_19 : decode cX10_why 19 = .ok (.invokevirtual 299, 3) := by decide +kernel
theorem dX10_why_22 : decode cX10_why 22 = .ok (.ireturn, 1) := by decide +kernel
theorem dX10_goesTo_0 : decode cX10_goesTo 0 = .ok (.iconst 1, 1) := by decide +kernel
theorem dX10_goesTo_1 : decode cX10_goesTo 1 = .ok (.iload_n 1, 1) := by decide +kernel
theorem dX10_goesTo_2 : decode cX10_goesTo 2 = .ok (.iconst 0, 1) := by decide +kernel
theorem dX10_goesTo_3 : decode cX10_goesTo 3 = .ok (.invokestatic 70, 3) := by decide +kernel
theorem dX10_goesTo_6 : decode cX10_goesTo 6 = .ok (.istore_n 3, 1) := by decide +kernel
theorem dX10_goesTo_7 : decode cX10_goesTo 7 = .ok (.aload_n 0, 1) := by decide +kernel
theorem dX10_goesTo_8 : decode cX10_goesTo 8 = .ok (.aload_n 0, 1) := by decide +kernel
theorem dX10_goesTo_9 : decode cX10_goesTo 9 = .ok (.getfield 9, 3) := by decide +kernel
theorem dX10_goesTo_12 : decode cX10_goesTo 12 = .ok (.iload_n 3, 1) := by decide +kernel
theorem dX10_goesTo_13 : decode cX10_goesTo 13 = .ok (.invokevirtual 149, 3) := by decide +kernel
theorem dX10_goesTo_16 : decode cX10_goesTo 16 = .ok (.aload_n 0, 1) := by decide +kernel
theorem dX10_goesTo_17 : decode cX10_goesTo 17 = .ok (.getfield 9, 3) := by decide +kernel
theorem dX10_goesTo_20 : decode cX10_goesTo 20 = .ok (.iload_n 3, 1) := by decide +kernel
theorem dX10_goesTo_21 : decode cX10_goesTo 21 = .ok (.bipush 13, 2) := by decide +kernel
theorem dX10_goesTo_23 : decode cX10_goesTo 23 = .ok (.iadd, 1) := by decide +kernel
theorem dX10_goesTo_24 : decode cX10_goesTo 24 = .ok (.iconst 1, 1) := by decide +kernel
theorem dX10_goesTo_25 : decode cX10_goesTo 25 = .ok (.iastore, 1) := by decide +kernel
theorem dX10_goesTo_26 : decode cX10_goesTo 26 = .ok (.aload_n 0, 1) := by decide +kernel
theorem dX10_goesTo_27 : decode cX10_goesTo 27 = .ok (.getfield 9, 3) := by decide +kernel
theorem dX10_goesTo_30 : decode cX10_goesTo 30 = .ok (.iload_n 3, 1) := by decide +kernel
theorem dX10_goesTo_31 : decode cX10_goesTo 31 = .ok (.bipush 14, 2) := by decide +kernel
theorem dX10_goesTo_33 : decode cX10_goesTo 33 = .ok (.iadd, 1) := by decide +kernel
theorem dX10_goesTo_34 : decode cX10_goesTo 34 = .ok (.iload_n 2, 1) := by decide +kernel
theorem dX10_goesTo_35 : decode cX10_goesTo 35 = .ok (.iastore, 1) := by decide +kernel
theorem dX10_goesTo_36 : decode cX10_goesTo 36 = .ok (.return_, 1) := by decide +kernel
theorem dX10_threaded_0 : decode cX10_threaded 0 = .ok (.aload_n 0, 1) := by decide +kernel
theorem dX10_threaded_1 : decode cX10_threaded 1 = .ok (.iconst 1, 1) := by decide +kernel
theorem dX10_threaded_2 : decode cX10_threaded 2 = .ok (.iload_n 1, 1) := by decide +kernel
theorem dX10_threaded_3 : decode cX10_threaded 3 = .ok (.bipush 14, 2) := by decide +kernel
theorem dX10_threaded_5 : decode cX10_threaded 5 = .ok (.iload_n 2, 1) := by decide +kernel
theorem dX10_threaded_6 : decode cX10_threaded 6 = .ok (.iadd, 1) := by decide +kernel
theorem dX10_threaded_7 : decode cX10_threaded 7 = .ok (.invokevirtual 175, 3) := by decide +kernel
theorem dX10_threaded_10 : decode cX10_threaded 10 = .ok (.istore_n 3, 1) := by decide +kernel
theorem dX10_threaded_11 : decode cX10_threaded 11 = .ok (.aload_n 0, 1) := by decide +kernel
theorem dX10_threaded_12 : decode cX10_threaded 12 = .ok (.iconst 1, 1) := by decide +kernel
theorem dX10_threaded_13 : decode cX10_threaded 13 = .ok (.iload_n 3, 1) := by decide +kernel
theorem dX10_threaded_14 : decode cX10_threaded 14 = .ok (.bipush 14, 2) := by decide +kernel
theorem dX10_threaded_16 : decode cX10_threaded 16 = .ok (.aload_n 0, 1) := by decide +kernel
theorem dX10_threaded_17 : decode cX10_threaded 17 = .ok (.iload_n 1, 1) := by decide +kernel
theorem dX10_threaded_18 : decode cX10_threaded 18 = .ok (.iload_n 2, 1) := by decide +kernel
theorem dX10_threaded_19 : decode cX10_threaded 19 = .ok (.invokevirtual 284, 3) := by decide +kernel
theorem dX10_threaded_22 : decode cX10_threaded 22 = .ok (.iadd, 1) := by decide +kernel
theorem dX10_threaded_23 : decode cX10_threaded 23 = .ok (.iconst 1, 1) := by decide +kernel
theorem dX10_threaded_24 : decode cX10_threaded 24 = .ok (.isub, 1) := by decide +kernel
theorem dX10_threaded_25 : decode cX10_threaded 25 = .ok (.invokevirtual 175, 3) := by decide +kernel
theorem dX10_threaded_28 : decode cX10_threaded 28 = .ok (.istore 4, 2) := by decide +kernel
theorem dX10_threaded_30 : decode cX10_threaded 30 = .ok (.aload_n 0, 1) := by decide +kernel
theorem dX10_threaded_31 : decode cX10_threaded 31 = .ok (.iconst 1, 1) := by decide +kernel
theorem dX10_threaded_32 : decode cX10_threaded 32 = .ok (.invokevirtual 172, 3) := by decide +kernel
theorem dX10_threaded_35 : decode cX10_threaded 35 = .ok (.istore 5, 2) := by decide +kernel
theorem dX10_threaded_37 : decode cX10_threaded 37 = .ok (.iconst 0, 1) := by decide +kernel
theorem dX10_threaded_38 : decode cX10_threaded 38 = .ok (.istore 6, 2) := by decide +kernel
theorem dX10_threaded_40 : decode cX10_threaded 40 = .ok (.iload 6, 2) := by decide +kernel
theorem dX10_threaded_42 : decode cX10_threaded 42 = .ok (.bipush 20, 2) := by decide +kernel
theorem dX10_threaded_44 : decode cX10_threaded 44 = .ok (.if_icmp .ge 30, 3) := by decide +kernel
theorem dX10_threaded_47 : decode cX10_threaded 47 = .ok (.aload_n 0, 1) := by decide +kernel
theorem dX10_threaded_48 : decode cX10_threaded 48 = .ok (.getfield 9, 3) := by decide +kernel
theorem dX10_threaded_51 : decode cX10_threaded 51 = .ok (.iconst 1, 1) := by decide +kernel
theorem dX10_threaded_52 : decode cX10_threaded 52 = .ok (.iload 5, 2) := by decide +kernel
theorem dX10_threaded_54 : decode cX10_threaded 54 = .ok (.iload 6, 2) := by decide +kernel
theorem dX10_threaded_56 : decode cX10_threaded 56 = .ok (.invokestatic 70, 3) := by decide +kernel
theorem dX10_threaded_59 : decode cX10_threaded 59 = .ok (.aload_n 0, 1) := by decide +kernel
theorem dX10_threaded_60 : decode cX10_threaded 60 = .ok (.iconst 1, 1) := by decide +kernel
theorem dX10_threaded_61 : decode cX10_threaded 61 = .ok (.iload_n 3, 1) := by decide +kernel
theorem dX10_threaded_62 : decode cX10_threaded 62 = .ok (.iload 6, 2) := by decide +kernel
theorem dX10_threaded_64 : decode cX10_threaded 64 = .ok (.invokevirtual 175, 3) := by decide +kernel
theorem dX10_threaded_67 : decode cX10_threaded 67 = .ok (.iastore, 1) := by decide +kernel
theorem dX10_threaded_68 : decode cX10_threaded 68 = .ok (.iinc 6 1, 3) := by decide +kernel
theorem dX10_threaded_71 : decode cX10_threaded 71 = .ok (.goto (-31), 3) := by decide +kernel
theorem dX10_threaded_74 : decode cX10_threaded 74 = .ok (.aload_n 0, 1) := by decide +kernel
theorem dX10_threaded_75 : decode cX10_threaded 75 = .ok (.iload 5, 2) := by decide +kernel
theorem dX10_threaded_77 : decode cX10_threaded 77 = .ok (.iload 4, 2) := by decide +kernel
theorem dX10_threaded_79 : decode cX10_threaded 79 = .ok (.invokevirtual 302, 3) := by decide +kernel
theorem dX10_threaded_82 : decode cX10_threaded 82 = .ok (.aload_n 0, 1) := by decide +kernel
theorem dX10_threaded_83 : decode cX10_threaded 83 = .ok (.getfield 9, 3) := by decide +kernel
theorem dX10_threaded_86 : decode cX10_threaded 86 = .ok (.iconst 1, 1) := by decide +kernel
theorem dX10_threaded_87 : decode cX10_threaded 87 = .ok (.iload_n 1, 1) := by decide +kernel
theorem dX10_threaded_88 : decode cX10_threaded 88 = .ok (.bipush 14, 2) := by decide +kernel
theorem dX10_threaded_90 : decode cX10_threaded 90 = .ok (.iload_n 2, 1) := by decide +kernel
theorem dX10_threaded_91 : decode cX10_threaded 91 = .ok (.iadd, 1) := by decide +kernel
theorem dX10_threaded_92 : decode cX10_threaded 92 = .ok (.invokestatic 70, 3) := by decide +kernel
theorem dX10_threaded_95 : decode cX10_threaded 95 = .ok (.iload 5, 2) := by decide +kernel
theorem dX10_threaded_97 : decode cX10_threaded 97 = .ok (.iastore, 1) := by decide +kernel
theorem dX10_threaded_98 : decode cX10_threaded 98 = .ok (.aload_n 0, 1) := by decide +kernel
theorem dX10_threaded_99 : decode cX10_threaded 99 = .ok (.getfield 9, 3) := by decide +kernel
theorem dX10_threaded_102 : decode cX10_threaded 102 = .ok (.sipush 321, 3) := by decide +kernel
theorem dX10_threaded_105 : decode cX10_threaded 105 = .ok (.dup2, 1) := by decide +kernel
theorem dX10_threaded_106 : decode cX10_threaded 106 = .ok (.iaload, 1) := by decide +kernel
theorem dX10_threaded_107 : decode cX10_threaded 107 = .ok (.iconst 1, 1) := by decide +kernel
theorem dX10_threaded_108 : decode cX10_threaded 108 = .ok (.iadd, 1) := by decide +kernel
theorem dX10_threaded_109 : decode cX10_threaded 109 = .ok (.iastore, 1) := by decide +kernel
theorem dX10_threaded_110 : decode cX10_threaded 110 = .ok (.iload 5, 2) := by decide +kernel
theorem dX10_threaded_112 : decode cX10_threaded 112 = .ok (.ireturn, 1) := by decide +kernel
theorem dX10_thread_0 : decode cX10_thread 0 = .ok (.aload_n 0, 1) := by decide +kernel
theorem dX10_thread_1 : decode cX10_thread 1 = .ok (.iconst 1, 1) := by decide +kernel
theorem dX10_thread_2 : decode cX10_thread 2 = .ok (.iload_n 1, 1) := by decide +kernel
theorem dX10_thread_3 : decode cX10_thread 3 = .ok (.iload_n 2, 1) := by decide +kernel
theorem dX10_thread_4 : decode cX10_thread 4 = .ok (.invokevirtual 277, 3) := by decide +kernel
theorem dX10_thread_7 : decode cX10_thread 7 = .ok (.ifCond .ne 5, 3) := by decide +kernel
theorem dX10_thread_10 : decode cX10_thread 10 = .ok (.iconst (-1), 1) := by decide +kernel
theorem dX10_thread_11 : decode cX10_thread 11 = .ok (.ireturn, 1) := by decide +kernel
theorem dX10_thread_12 : decode cX10_thread 12 = .ok (.aload_n 0, 1) := by decide +kernel
theorem dX10_thread_13 : decode cX10_thread 13 = .ok (.invokevirtual 270, 3) := by decide +kernel
theorem dX10_thread_16 : decode cX10_thread 16 = .ok (.aload_n 0, 1) := by decide +kernel
theorem dX10_thread_17 : decode cX10_thread 17 = .ok (.iload_n 1, 1) := by decide +kernel
theorem dX10_thread_18 : decode cX10_thread 18 = .ok (.iload_n 2, 1) := by decide +kernel
theorem dX10_thread_19 : decode cX10_thread 19 = .ok (.invokevirtual 299, 3) := by decide +kernel
theorem dX10_thread_22 : decode cX10_thread 22 = .ok (.ifCond .ne 12, 3) := by decide +kernel
theorem dX10_thread_25 : decode cX10_thread 25 = .ok (.aload_n 0, 1) := by decide +kernel
theorem dX10_thread_26 : decode cX10_thread 26 = .ok (.iload_n 1, 1) := by decide +kernel
theorem dX10_thread_27 : decode cX10_thread 27 = .ok (.iload_n 2, 1) := by decide +kernel
theorem dX10_thread_28 : decode cX10_thread 28 = .ok (.invokevirtual 305, 3) := by decide +kernel
theorem dX10_thread_31 : decode cX10_thread 31 = .ok (.goto 5, 3) := by decide +kernel
theorem dX10_thread_34 : decode cX10_thread 34 = .ok (.bipush (-2), 2) := by decide +kernel
theorem dX10_thread_36 : decode cX10_thread 36 = .ok (.ireturn, 1) := by decide +kernel
theorem dX10_threadsFirst_0 : decode cX10_threadsFirst 0 = .ok (.aload_n 0, 1) := by decide +kernel
theorem dX10_threadsFirst_1 : decode cX10_threadsFirst 1 = .ok (.invokevirtual 270, 3) := by decide +kernel
theorem dX10_threadsFirst_4 : decode cX10_threadsFirst 4 = .ok (.iconst 0, 1) := by decide +kernel
theorem dX10_threadsFirst_5 : decode cX10_threadsFirst 5 = .ok (.istore_n 1, 1) := by decide +kernel
theorem dX10_threadsFirst_6 : decode cX10_threadsFirst 6 = .ok (.iload_n 1, 1) := by decide +kernel
theorem dX10_threadsFirst_7 : decode cX10_threadsFirst 7 = .ok (.aload_n 0, 1) := by decide +kernel
theorem dX10_threadsFirst_8 : decode cX10_threadsFirst 8 = .ok (.iconst 1, 1) := by decide +kernel
theorem dX10_threadsFirst_9 : decode cX10_threadsFirst 9 = .ok (.invokevirtual 172, 3) := by decide +kernel
theorem dX10_threadsFirst_12 : decode cX10_threadsFirst 12 = .ok (.if_icmp .ge 45, 3) := by decide +kernel
theorem dX10_threadsFirst_15 : decode cX10_threadsFirst 15 = .ok (.iconst 0, 1) := by decide +kernel
theorem dX10_threadsFirst_16 : decode cX10_threadsFirst 16 = .ok (.istore_n 2, 1) := by decide +kernel
theorem dX10_threadsFirst_17 : decode cX10_threadsFirst 17 = .ok (.iload_n 2, 1) := by decide +kernel
theorem dX10_threadsFirst_18 : decode cX10_threadsFirst 18 = .ok (.aload_n 0, 1) := by decide +kernel
theorem dX10_threadsFirst_19 : decode cX10_threadsFirst 19 = .ok (.iconst 1, 1) := by decide +kernel
theorem dX10_threadsFirst_20 : decode cX10_threadsFirst 20 = .ok (.iload_n 1, 1) := by decide +kernel
theorem dX10_threadsFirst_21 : decode cX10_threadsFirst 21 = .ok (.invokevirtual 182, 3) := by decide +kernel
theorem dX10_threadsFirst_24 : decode cX10_threadsFirst 24 = .ok (.if_icmp .ge 27, 3) := by decide +kernel
theorem dX10_threadsFirst_27 : decode cX10_threadsFirst 27 = .ok (.aload_n 0, 1) := by decide +kernel
theorem dX10_threadsFirst_28 : decode cX10_threadsFirst 28 = .ok (.iload_n 1, 1) := by decide +kernel
theorem dX10_threadsFirst_29 : decode cX10_threadsFirst 29 = .ok (.iload_n 2, 1) := by decide +kernel
theorem dX10_threadsFirst_30 : decode cX10_threadsFirst 30 = .ok (.invokevirtual 299, 3) := by decide +kernel
theorem dX10_threadsFirst_33 : decode cX10_threadsFirst 33 = .ok (.ifCond .ne 12, 3) := by decide +kernel
theorem dX10_threadsFirst_36 : decode cX10_threadsFirst 36 = .ok (.aload_n 0, 1) := by decide +kernel
theorem dX10_threadsFirst_37 : decode cX10_threadsFirst 37 = .ok (.iload_n 1, 1) := by decide +kernel
theorem dX10_threadsFirst_38 : decode cX10_threadsFirst 38 = .ok (.iload_n 2, 1) := by decide +kernel
theorem dX10_threadsFirst_39 : decode cX10_threadsFirst 39 = .ok (.invokevirtual 305, 3) := by decide +kernel
theorem dX10_threadsFirst_42 : decode cX10_threadsFirst 42 = .ok (.pop, 1) := by decide +kernel
theorem dX10_threadsFirst_43 : decode cX10_threadsFirst 43 = .ok (.iconst 1, 1) := by decide +kernel
theorem dX10_threadsFirst_44 : decode cX10_threadsFirst 44 = .ok (.ireturn, 1) := by decide +kernel
theorem dX10_threadsFirst_45 : decode cX10_threadsFirst 45 = .ok (.iinc 2 1, 3) := by decide +kernel
theorem dX10_threadsFirst_48 : decode cX10_threadsFirst 48 = .ok (.goto (-31), 3) := by decide +kernel
theorem dX10_threadsFirst_51 : decode cX10_threadsFirst 51 = .ok (.iinc 1 1, 3) := by decide +kernel
theorem dX10_threadsFirst_54 : decode cX10_threadsFirst 54 = .ok (.goto (-48), 3) := by decide +kernel
theorem dX10_threadsFirst_57 : decode cX10_threadsFirst 57 = .ok (.iconst 0, 1) := by decide +kernel
theorem dX10_threadsFirst_58 : decode cX10_threadsFirst 58 = .ok (.ireturn, 1) := by decide +kernel
theorem dX10_threads_0 : decode cX10_threads 0 = .ok (.iload_n 1, 1) := by decide +kernel
theorem dX10_threads_1 : decode cX10_threads 1 = .ok (.i2l, 1) := by decide +kernel
theorem dX10_threads_2 : decode cX10_threads 2 = .ok (.lconst 1, 1) := by decide +kernel
theorem dX10_threads_3 : decode cX10_threads 3 = .ok (.ldc2_w 308, 3) := by decide +kernel
theorem dX10_threads_6 : decode cX10_threads 6 = .ok (.invokestatic 80, 3) := by decide +kernel
theorem dX10_threads_9 : decode cX10_threads 9 = .ok (.ifCond .ne 5, 3) := by decide +kernel
theorem dX10_threads_12 : decode cX10_threads 12 = .ok (.iconst (-1), 1) := by decide +kernel
theorem dX10_threads_13 : decode cX10_threads 13 = .ok (.ireturn, 1) := by decide +kernel
theorem dX10_threads_14 : decode cX10_threads 14 = .ok (.iconst 0, 1) := by decide +kernel
theorem dX10_threads_15 : decode cX10_threads 15 = .ok (.istore_n 2, 1) := by decide +kernel
theorem dX10_threads_16 : decode cX10_threads 16 = .ok (.iload_n 2, 1) := by decide +kernel
theorem dX10_threads_17 : decode cX10_threads 17 = .ok (.iload_n 1, 1) := by decide +kernel
theorem dX10_threads_18 : decode cX10_threads 18 = .ok (.if_icmp .ge 16, 3) := by decide +kernel
theorem dX10_threads_21 : decode cX10_threads 21 = .ok (.aload_n 0, 1) := by decide +kernel
theorem dX10_threads_22 : decode cX10_threads 22 = .ok (.invokevirtual 310, 3) := by decide +kernel
theorem dX10_threads_25 : decode cX10_threads 25 = .ok (.ifCond .eq 9, 3) := by decide +kernel
theorem dX10_threads_28 : decode cX10_threads 28 = .ok (.iinc 2 1, 3) := by decide +kernel
theorem dX10_threads_31 : decode cX10_threads 31 = .ok (.goto (-15), 3) := by decide +kernel
theorem dX10_threads_34 : decode cX10_threads 34 = .ok (.iload_n 2, 1) := by decide +kernel
theorem dX10_threads_35 : decode cX10_threads 35 = .ok (.ireturn, 1) := by decide +kernel
theorem dX10_fold_0 : decode cX10_fold 0 = .ok (.aload_n 0, 1) := by decide +kernel
theorem dX10_fold_1 : decode cX10_fold 1 = .ok (.invokevirtual 270, 3) := by decide +kernel
theorem dX10_fold_4 : decode cX10_fold 4 = .ok (.iconst 0, 1) := by decide +kernel
theorem dX10_fold_5 : decode cX10_fold 5 = .ok (.istore_n 1, 1) := by decide +kernel
theorem dX10_fold_6 : decode cX10_fold 6 = .ok (.iconst 0, 1) := by decide +kernel
theorem dX10_fold_7 : decode cX10_fold 7 = .ok (.istore_n 2, 1) := by decide +kernel
theorem dX10_fold_8 : decode cX10_fold 8 = .ok (.iload_n 2, 1) := by decide +kernel
theorem dX10_fold_9 : decode cX10_fold 9 = .ok (.aload_n 0, 1) := by decide +kernel
theorem dX10_fold_10 : decode cX10_fold 10 = .ok (.iconst 1, 1) := by decide +kernel
theorem dX10_fold_11 : decode cX10_fold 11 = .ok (.invokevirtual 172, 3) := by decide +kernel
theorem dX10_fold_14 : decode cX10_fold 14 = .ok (.if_icmp .ge 46, 3) := by decide +kernel
theorem dX10_fold_17 : decode cX10_fold 17 = .ok (.aload_n 0, 1) := by decide +kernel
theorem dX10_fold_18 : decode cX10_fold 18 = .ok (.getfield 43, 3) := by decide +kernel
theorem dX10_fold_21 : decode cX10_fold 21 = .ok (.iload_n 2, 1) := by decide +kernel
theorem dX10_fold_22 : decode cX10_fold 22 = .ok (.aload_n 0, 1) := by decide +kernel
theorem dX10_fold_23 : decode cX10_fold 23 = .ok (.iload_n 2, 1) := by decide +kernel
theorem dX10_fold_24 : decode cX10_fold 24 = .ok (.invokevirtual 251, 3) := by decide +kernel
theorem dX10_fold_27 : decode cX10_fold 27 = .ok (.ifCond .eq 25, 3) := by decide +kernel
theorem dX10_fold_30 : decode cX10_fold 30 = .ok (.aload_n 0, 1) := by decide +kernel
theorem dX10_fold_31 : decode cX10_fold 31 = .ok (.iconst 1, 1) := by decide +kernel
theorem dX10_fold_32 : decode cX10_fold 32 = .ok (.iload_n 2, 1) := by decide +kernel
theorem dX10_fold_33 : decode cX10_fold 33 = .ok (.bipush 13, 2) := by decide +kernel
theorem dX10_fold_35 : decode cX10_fold 35 = .ok (.invokevirtual 175, 3) := by decide +kernel
theorem dX10_fold_38 : decode cX10_fold 38 = .ok (.invokestatic 188, 3) := by decide +kernel
theorem dX10_fold_41 : decode cX10_fold 41 = .ok (.ifCond .eq 11, 3) := by decide +kernel
theorem dX10_fold_44 : decode cX10_fold 44 = .ok (.aload_n 0, 1) := by decide +kernel
theorem dX10_fold_45 : decode cX10_fold 45 = .ok (.iload_n 2, 1) := by decide +kernel
theorem dX10_fold_46 : decode cX10_fold 46 = .ok (.invokevirtual 281, 3) := by decide +kernel
theorem dX10_fold_49 : decode cX10_fold 49 = .ok (.goto 4, 3) := by decide +kernel
theorem dX10_fold_52 : decode cX10_fold 52 = .ok (.iconst 0, 1) := by decide +kernel
theorem dX10_fold_53 : decode cX10_fold 53 = .ok (.iastore, 1) := by decide +kernel
theorem dX10_fold_54 : decode cX10_fold 54 = .ok (.iinc 2 1, 3) := by decide +kernel
theorem dX10_fold_57 : decode cX10_fold 57 = .ok (.goto (-49), 3) := by decide +kernel
theorem dX10_fold_60 : decode cX10_fold 60 = .ok (.iconst 0, 1) := by decide +kernel
theorem dX10_fold_61 : decode cX10_fold 61 = .ok (.istore_n 2, 1) := by decide +kernel
theorem dX10_fold_62 : decode cX10_fold 62 = .ok (.iload_n 2, 1) := by decide +kernel
theorem dX10_fold_63 : decode cX10_fold 63 = .ok (.aload_n 0, 1) := by decide +kernel
theorem dX10_fold_64 : decode cX10_fold 64 = .ok (.iconst 1, 1) := by decide +kernel
theorem dX10_fold_65 : decode cX10_fold 65 = .ok (.invokevirtual 172, 3) := by decide +kernel
theorem dX10_fold_68 : decode cX10_fold 68 = .ok (.if_icmp .ge 43, 3) := by decide +kernel
theorem dX10_fold_71 : decode cX10_fold 71 = .ok (.aload_n 0, 1) := by decide +kernel
theorem dX10_fold_72 : decode cX10_fold 72 = .ok (.getfield 43, 3) := by decide +kernel
theorem dX10_fold_75 : decode cX10_fold 75 = .ok (.iload_n 2, 1) := by decide +kernel
theorem dX10_fold_76 : decode cX10_fold 76 = .ok (.iaload, 1) := by decide +kernel
theorem dX10_fold_77 : decode cX10_fold 77 = .ok (.ifCond .le 28, 3) := by decide +kernel
theorem dX10_fold_80 : decode cX10_fold 80 = .ok (.aload_n 0, 1) := by decide +kernel
theorem dX10_fold_81 : decode cX10_fold 81 = .ok (.iload_n 2, 1) := by decide +kernel
theorem dX10_fold_82 : decode cX10_fold 82 = .ok (.aload_n 0, 1) := by decide +kernel
theorem dX10_fold_83 : decode cX10_fold 83 = .ok (.iconst 1, 1) := by decide +kernel
theorem dX10_fold_84 : decode cX10_fold 84 = .ok (.iload_n 2, 1) := by decide +kernel
theorem dX10_fold_85 : decode cX10_fold 85 = .ok (.bipush 14, 2) := by decide +kernel
theorem dX10_fold_87 : decode cX10_fold 87 = .ok (.aload_n 0, 1) := by decide +kernel
theorem dX10_fold_88 : decode cX10_fold 88 = .ok (.getfield 43, 3) := by decide +kernel
theorem dX10_fold_91 : decode cX10_fold 91 = .ok (.iload_n 2, 1) := by decide +kernel
theorem dX10_fold_92 : decode cX10_fold 92 = .ok (.iaload, 1) := by decide +kernel
theorem dX10_fold_93 : decode cX10_fold 93 = .ok (.iadd, 1) := by decide +kernel
theorem dX10_fold_94 : decode cX10_fold 94 = .ok (.iconst 1, 1) := by decide +kernel
theorem dX10_fold_95 : decode cX10_fold 95 = .ok (.isub, 1) := by decide +kernel
theorem dX10_fold_96 : decode cX10_fold 96 = .ok (.invokevirtual 175, 3) := by decide +kernel
theorem dX10_fold_99 : decode cX10_fold 99 = .ok (.invokevirtual 302, 3) := by decide +kernel
theorem dX10_fold_102 : decode cX10_fold 102 = .ok (.iinc 1 1, 3) := by decide +kernel
theorem dX10_fold_105 : decode cX10_fold 105 = .ok (.iinc 2 1, 3) := by decide +kernel
theorem dX10_fold_108 : decode cX10_fold 108 = .ok (.goto (-46), 3) := by decide +kernel
theorem dX10_fold_111 : decode cX10_fold 111 = .ok (.iload_n 1, 1) := by decide +kernel
theorem dX10_fold_112 : decode cX10_fold 112 = .ok (.ireturn, 1) := by decide +kernel
theorem dX10_sweep_0 : decode cX10_sweep 0 = .ok (.aload_n 0, 1) := by decide +kernel
theorem dX10_sweep_1 : decode cX10_sweep 1 = .ok (.bipush (-4), 2) := by decide +kernel
theorem dX10_sweep_3 : decode cX10_sweep 3 = .ok (.invokevirtual 287, 3) := by decide +kernel
theorem dX10_sweep_6 : decode cX10_sweep 6 = .ok (.iconst 0, 1) := by decide +kernel
theorem dX10_sweep_7 : decode cX10_sweep 7 = .ok (.istore_n 1, 1) := by decide +kernel
theorem dX10_sweep_8 : decode cX10_sweep 8 = .ok (.aload_n 0, 1) := by decide +kernel
theorem dX10_sweep_9 : decode cX10_sweep 9 = .ok (.iconst 1, 1) := by decide +kernel
theorem dX10_sweep_10 : decode cX10_sweep 10 = .ok (.invokevirtual 172, 3) := by decide +kernel
theorem dX10_sweep_13 : decode cX10_sweep 13 = .ok (.istore_n 2, 1) := by decide +kernel
theorem dX10_sweep_14 : decode cX10_sweep 14 = .ok (.iconst 0, 1) := by decide +kernel
theorem dX10_sweep_15 : decode cX10_sweep 15 = .ok (.istore_n 3, 1) := by decide +kernel
theorem dX10_sweep_16 : decode cX10_sweep 16 = .ok (.iload_n 3, 1) := by decide +kernel
theorem dX10_sweep_17 : decode cX10_sweep 17 = .ok (.iload_n 2, 1) := by decide +kernel
theorem dX10_sweep_18 : decode cX10_sweep 18 = .ok (.if_icmp .ge 28, 3) := by decide +kernel
theorem dX10_sweep_21 : decode cX10_sweep 21 = .ok (.aload_n 0, 1) := by decide +kernel
theorem dX10_sweep_22 : decode cX10_sweep 22 = .ok (.getfield 46, 3) := by decide +kernel
theorem dX10_sweep_25 : decode cX10_sweep 25 = .ok (.iload_n 3, 1) := by decide +kernel
theorem dX10_sweep_26 : decode cX10_sweep 26 = .ok (.iload_n 1, 1) := by decide +kernel
theorem dX10_sweep_27 : decode cX10_sweep 27 = .ok (.iastore, 1) := by decide +kernel
theorem dX10_sweep_28 : decode cX10_sweep 28 = .ok (.iload_n 1, 1) := by decide +kernel
theorem dX10_sweep_29 : decode cX10_sweep 29 = .ok (.aload_n 0, 1) := by decide +kernel
theorem dX10_sweep_30 : decode cX10_sweep 30 = .ok (.getfield 40, 3) := by decide +kernel
theorem dX10_sweep_33 : decode cX10_sweep 33 = .ok (.iload_n 3, 1) := by decide +kernel
theorem dX10_sweep_34 : decode cX10_sweep 34 = .ok (.baload, 1) := by decide +kernel
theorem dX10_sweep_35 : decode cX10_sweep 35 = .ok (.invokestatic 145, 3) := by decide +kernel
theorem dX10_sweep_38 : decode cX10_sweep 38 = .ok (.iadd, 1) := by decide +kernel
theorem dX10_sweep_39 : decode cX10_sweep 39 = .ok (.istore_n 1, 1) := by decide +kernel
theorem dX10_sweep_40 : decode cX10_sweep 40 = .ok (.iinc 3 1, 3) := by decide +kernel
theorem dX10_sweep_43 : decode cX10_sweep 43 = .ok (.goto (-27), 3) := by decide +kernel
theorem dX10_sweep_46 : decode cX10_sweep 46 = .ok (.iconst 0, 1) := by decide +kernel
theorem dX10_sweep_47 : decode cX10_sweep 47 = .ok (.istore_n 3, 1) := by decide +kernel
theorem dX10_sweep_48 : decode cX10_sweep 48 = .ok (.iload_n 3, 1) := by decide +kernel
theorem dX10_sweep_49 : decode cX10_sweep 49 = .ok (.iload_n 2, 1) := by decide +kernel
theorem dX10_sweep_50 : decode cX10_sweep 50 = .ok (.if_icmp .ge 59, 3) := by decide +kernel
theorem dX10_sweep_53 : decode cX10_sweep 53 = .ok (.iconst 0, 1) := by decide +kernel
theorem dX10_sweep_54 : decode cX10_sweep 54 = .ok (.istore 4, 2) := by decide +kernel
theorem dX10_sweep_56 : decode cX10_sweep 56 = .ok (.iload 4, 2) := by decide +kernel
theorem dX10_sweep_58 : decode cX10_sweep 58 = .ok (.bipush 20, 2) := by decide +kernel
theorem dX10_sweep_60 : decode cX10_sweep 60 = .ok (.if_icmp .ge 43, 3) := by decide +kernel
theorem dX10_sweep_63 : decode cX10_sweep 63 = .ok (.aload_n 0, 1) := by decide +kernel
theorem dX10_sweep_64 : decode cX10_sweep 64 = .ok (.getfield 40, 3) := by decide +kernel
theorem dX10_sweep_67 : decode cX10_sweep 67 = .ok (.iload_n 3, 1) := by decide +kernel
theorem dX10_sweep_68 : decode cX10_sweep 68 = .ok (.baload, 1) := by decide +kernel
theorem dX10_sweep_69 : decode cX10_sweep 69 = .ok (.ifCond .eq 34, 3) := by decide +kernel
theorem dX10_sweep_72 : decode cX10_sweep 72 = .ok (.aload_n 0, 1) := by decide +kernel
theorem dX10_sweep_73 : decode cX10_sweep 73 = .ok (.getfield 9, 3) := by decide +kernel
theorem dX10_sweep_76 : decode cX10_sweep 76 = .ok (.iconst 1, 1) := by decide +kernel
theorem dX10_sweep_77 : decode cX10_sweep 77 = .ok (.aload_n 0, 1) := by decide +kernel
theorem dX10_sweep_78 : decode cX10_sweep 78 = .ok (.getfield 46, 3) := by decide +kernel
theorem dX10_sweep_81 : decode cX10_sweep 81 = .ok (.iload_n 3, 1) := by decide +kernel
theorem dX10_sweep_82 : decode cX10_sweep 82 = .ok (.iaload, 1) := by decide +kernel
theorem dX10_sweep_83 : decode cX10_sweep 83 = .ok (.iload 4, 2) := by decide +kernel
theorem dX10_sweep_85 : decode cX10_sweep 85 = .ok (.invokestatic 70, 3) := by decide +kernel
theorem dX10_sweep_88 : decode cX10_sweep 88 = .ok (.aload_n 0, 1) := by decide +kernel
theorem dX10_sweep_89 : decode cX10_sweep 89 = .ok (.iconst 1, 1) := by decide +kernel
theorem dX10_sweep_90 : decode cX10_sweep 90 = .ok (.iload_n 3, 1) := by decide +kernel
theorem dX10_sweep_91 : decode cX10_sweep 91 = .ok (.iload 4, 2) := by decide +kernel
theorem dX10_sweep_93 : decode cX10_sweep 93 = .ok (.invokevirtual 175, 3) := by decide +kernel
theorem dX10_sweep_96 : decode cX10_sweep 96 = .ok (.iastore, 1) := by decide +kernel
theorem dX10_sweep_97 : decode cX10_sweep 97 = .ok (.iinc 4 1, 3) := by decide +kernel
theorem dX10_sweep_100 : decode cX10_sweep 100 = .ok (.goto (-44), 3) := by decide +kernel
theorem dX10_sweep_103 : decode cX10_sweep 103 = .ok (.iinc 3 1, 3) := by decide +kernel
theorem dX10_sweep_106 : decode cX10_sweep 106 = .ok (.goto (-58), 3) := by decide +kernel
theorem dX10_sweep_109 : decode cX10_sweep 109 = .ok (.aload_n 0, 1) := by decide +kernel
theorem dX10_sweep_110 : decode cX10_sweep 110 = .ok (.getfield 9, 3) := by decide +kernel
theorem dX10_sweep_113 : decode cX10_sweep 113 = .ok (.sipush 321, 3) := by decide +kernel
theorem dX10_sweep_116 : decode cX10_sweep 116 = .ok (.iload_n 1, 1) := by decide +kernel
theorem dX10_sweep_117 : decode cX10_sweep 117 = .ok (.iastore, 1) := by decide +kernel
theorem dX10_sweep_118 : decode cX10_sweep 118 = .ok (.iconst 0, 1) := by decide +kernel
theorem dX10_sweep_119 : decode cX10_sweep 119 = .ok (.istore_n 3, 1) := by decide +kernel
theorem dX10_sweep_120 : decode cX10_sweep 120 = .ok (.iload_n 3, 1) := by decide +kernel
theorem dX10_sweep_121 : decode cX10_sweep 121 = .ok (.iload_n 1, 1) := by decide +kernel
theorem dX10_sweep_122 : decode cX10_sweep 122 = .ok (.if_icmp .ge 60, 3) := by decide +kernel
theorem dX10_sweep_125 : decode cX10_sweep 125 = .ok (.iconst 0, 1) := by decide +kernel
theorem dX10_sweep_126 : decode cX10_sweep 126 = .ok (.istore 4, 2) := by decide +kernel
theorem dX10_sweep_128 : decode cX10_sweep 128 = .ok (.iload 4, 2) := by decide +kernel
theorem dX10_sweep_130 : decode cX10_sweep 130 = .ok (.aload_n 0, 1) := by decide +kernel
theorem dX10_sweep_131 : decode cX10_sweep 131 = .ok (.iconst 1, 1) := by decide +kernel
theorem dX10_sweep_132 : decode cX10_sweep 132 = .ok (.iload_n 3, 1) := by decide +kernel
theorem dX10_sweep_133 : decode cX10_sweep 133 = .ok (.invokevirtual 182, 3) := by decide +kernel
theorem dX10_sweep_136 : decode cX10_sweep 136 = .ok (.if_icmp .ge 40, 3) := by decide +kernel
theorem dX10_sweep_139 : decode cX10_sweep 139 = .ok (.aload_n 0, 1) := by decide +kernel
theorem dX10_sweep_140 : decode cX10_sweep 140 = .ok (.getfield 9, 3) := by decide +kernel
theorem dX10_sweep_143 : decode cX10_sweep 143 = .ok (.iconst 1, 1) := by decide +kernel
theorem dX10_sweep_144 : decode cX10_sweep 144 = .ok (.iload_n 3, 1) := by decide +kernel
theorem dX10_sweep_145 : decode cX10_sweep 145 = .ok (.bipush 14, 2) := by decide +kernel
theorem dX10_sweep_147 : decode cX10_sweep 147 = .ok (.iload 4, 2) := by decide +kernel
theorem dX10_sweep_149 : decode cX10_sweep 149 = .ok (.iadd, 1) := by decide +kernel
theorem dX10_sweep_150 : decode cX10_sweep 150 = .ok (.invokestatic 70, 3) := by decide +kernel
theorem dX10_sweep_153 : decode cX10_sweep 153 = .ok (.aload_n 0, 1) := by decide +kernel
theorem dX10_sweep_154 : decode cX10_sweep 154 = .ok (.getfield 46, 3) := by decide +kernel
theorem dX10_sweep_157 : decode cX10_sweep 157 = .ok (.aload_n 0, 1) := by decide +kernel
theorem dX10_sweep_158 : decode cX10_sweep 158 = .ok (.iconst 1, 1) := by decide +kernel
theorem dX10_sweep_159 : decode cX10_sweep 159 = .ok (.iload_n 3, 1) := by decide +kernel
theorem dX10_sweep_160 : decode cX10_sweep 160 = .ok (.bipush 14, 2) := by decide +kernel
theorem dX10_sweep_162 : decode cX10_sweep 162 = .ok (.iload 4, 2) := by decide +kernel
theorem dX10_sweep_164 : decode cX10_sweep 164 = .ok (.iadd, 1) := by decide +kernel
theorem dX10_sweep_165 : decode cX10_sweep 165 = .ok (.invokevirtual 175, 3) := by decide +kernel
theorem dX10_sweep_168 : decode cX10_sweep 168 = .ok (.iaload, 1) := by decide +kernel
theorem dX10_sweep_169 : decode cX10_sweep 169 = .ok (.iastore, 1) := by decide +kernel
theorem dX10_sweep_170 : decode cX10_sweep 170 = .ok (.iinc 4 1, 3) := by decide +kernel
theorem dX10_sweep_173 : decode cX10_sweep 173 = .ok (.goto (-45), 3) := by decide +kernel
theorem dX10_sweep_176 : decode cX10_sweep 176 = .ok (.iinc 3 1, 3) := by decide +kernel
theorem dX10_sweep_179 : decode cX10_sweep 179 = .ok (.goto (-59), 3) := by decide +kernel
theorem dX10_sweep_182 : decode cX10_sweep 182 = .ok (.iload_n 2, 1) := by decide +kernel
theorem dX10_sweep_183 : decode cX10_sweep 183 = .ok (.iload_n 1, 1) := by decide +kernel
theorem dX10_sweep_184 : decode cX10_sweep 184 = .ok (.isub, 1) := by decide +kernel
theorem dX10_sweep_185 : decode cX10_sweep 185 = .ok (.ireturn, 1) := by decide +kernel
theorem dX10_limit_0 : decode cX10_limit 0 = .ok (.iload_n 1, 1) := by decide +kernel
theorem dX10_limit_1 : decode cX10_limit 1 = .ok (.i2l, 1) := by decide +kernel
theorem dX10_limit_2 : decode cX10_limit 2 = .ok (.lconst 0, 1) := by decide +kernel
theorem dX10_limit_3 : decode cX10_limit 3 = .ok (.ldc2_w 313, 3) := by decide +kernel
theorem dX10_limit_6 : decode cX10_limit 6 = .ok (.invokestatic 80, 3) := by decide +kernel
theorem dX10_limit_9 : decode cX10_limit 9 = .ok (.ifCond .ne 5, 3) := by decide +kernel
theorem dX10_limit_12 : decode cX10_limit 12 = .ok (.iconst (-1), 1) := by decide +kernel
theorem dX10_limit_13 : decode cX10_limit 13 = .ok (.ireturn, 1) := by decide +kernel
theorem dX10_limit_14 : decode cX10_limit 14 = .ok (.aload_n 0, 1) := by decide +kernel
theorem dX10_limit_15 : decode cX10_limit 15 = .ok (.getfield 23, 3) := by decide +kernel
theorem dX10_limit_18 : decode cX10_limit 18 = .ok (.istore_n 2, 1) := by decide +kernel
theorem dX10_limit_19 : decode cX10_limit 19 = .ok (.aload_n 0, 1) := by decide +kernel
theorem dX10_limit_20 : decode cX10_limit 20 = .ok (.iload_n 1, 1) := by decide +kernel
theorem dX10_limit_21 : decode cX10_limit 21 = .ok (.putfield 23, 3) := by decide +kernel
theorem dX10_limit_24 : decode cX10_limit 24 = .ok (.iload_n 2, 1) := by decide +kernel
theorem dX10_limit_25 : decode cX10_limit 25 = .ok (.ireturn, 1) := by decide +kernel
theorem dX10_acts_0 : decode cX10_acts 0 = .ok (.aload_n 0, 1) := by decide +kernel
theorem dX10_acts_1 : decode cX10_acts 1 = .ok (.getfield 49, 3) := by decide +kernel
theorem dX10_acts_4 : decode cX10_acts 4 = .ok (.iload_n 2, 1) := by decide +kernel
theorem dX10_acts_5 : decode cX10_acts 5 = .ok (.iaload, 1) := by decide +kernel
theorem dX10_acts_6 : decode cX10_acts 6 = .ok (.istore 4, 2) := by decide +kernel
theorem dX10_acts_8 : decode cX10_acts 8 = .ok (.iload_n 1, 1) := by decide +kernel
theorem dX10_acts_9 : decode cX10_acts 9 = .ok (.tableswitch 158 0 4 #[35, 45, 73, 101, 116], 35) := by decide +kernel
theorem dX10_acts_44 : decode cX10_acts 44 = .ok (.aload_n 0, 1) := by decide +kernel
theorem dX10_acts_45 : decode cX10_acts 45 = .ok (.getfield 49, 3) := by decide +kernel
theorem dX10_acts_48 : decode cX10_acts 48 = .ok (.iload_n 2, 1) := by decide +kernel
theorem dX10_acts_49 : decode cX10_acts 49 = .ok (.iload_n 3, 1) := by decide +kernel
theorem dX10_acts_50 : decode cX10_acts 50 = .ok (.iastore, 1) := by decide +kernel
theorem dX10_acts_51 : decode cX10_acts 51 = .ok (.goto 137, 3) := by decide +kernel
theorem dX10_acts_54 : decode cX10_acts 54 = .ok (.aload_n 0, 1) := by decide +kernel
theorem dX10_acts_55 : decode cX10_acts 55 = .ok (.getfield 49, 3) := by decide +kernel
theorem dX10_acts_58 : decode cX10_acts 58 = .ok (.iload_n 2, 1) := by decide +kernel
theorem dX10_acts_59 : decode cX10_acts 59 = .ok (.iload 4, 2) := by decide +kernel
theorem dX10_acts_61 : decode cX10_acts 61 = .ok (.bipush 51, 2) := by decide +kernel
theorem dX10_acts_63 : decode cX10_acts 63 = .ok (.if_icmp .ne 8, 3) := by decide +kernel
theorem dX10_acts_66 : decode cX10_acts 66 = .ok (.bipush 51, 2) := by decide +kernel
theorem dX10_acts_68 : decode cX10_acts 68 = .ok (.goto 10, 3) := by decide +kernel
theorem dX10_acts_71 : decode cX10_acts 71 = .ok (.iload 4, 2) := by decide +kernel
theorem dX10_acts_73 : decode cX10_acts 73 = .ok (.iload_n 3, 1) := by decide +kernel
theorem dX10_acts_74 : decode cX10_acts 74 = .ok (.iadd, 1) := by decide +kernel
theorem dX10_acts_75 : decode cX10_acts 75 = .ok (.invokestatic 217, 3) := by decide +kernel
theorem dX10_acts_78 : decode cX10_acts 78 = .ok (.iastore, 1) := by decide +kernel
theorem dX10_acts_79 : decode cX10_acts 79 = .ok (.goto 109, 3) := by decide +kernel
theorem dX10_acts_82 : decode cX10_acts 82 = .ok (.aload_n 0, 1) := by decide +kernel
theorem dX10_acts_83 : decode cX10_acts 83 = .ok (.getfield 49, 3) := by decide +kernel
theorem dX10_acts_86 : decode cX10_acts 86 = .ok (.iload_n 2, 1) := by decide +kernel
theorem dX10_acts_87 : decode cX10_acts 87 = .ok (.iload 4, 2) := by decide +kernel
theorem dX10_acts_89 : decode cX10_acts 89 = .ok (.bipush 51, 2) := by decide +kernel
theorem dX10_acts_91 : decode cX10_acts 91 = .ok (.if_icmp .ne 8, 3) := by decide +kernel
theorem dX10_acts_94 : decode cX10_acts 94 = .ok (.bipush 51, 2) := by decide +kernel
theorem dX10_acts_96 : decode cX10_acts 96 = .ok (.goto 10, 3) := by decide +kernel
theorem dX10_acts_99 : decode cX10_acts 99 = .ok (.iload 4, 2) := by decide +kernel
theorem dX10_acts_101 : decode cX10_acts 101 = .ok (.iload_n 3, 1) := by decide +kernel
theorem dX10_acts_102 : decode cX10_acts 102 = .ok (.isub, 1) := by decide +kernel
theorem dX10_acts_103 : decode cX10_acts 103 = .ok (.invokestatic 217, 3) := by decide +kernel
theorem dX10_acts_106 : decode cX10_acts 106 = .ok (.iastore, 1) := by decide +kernel
theorem dX10_acts_107 : decode cX10_acts 107 = .ok (.goto 81, 3) := by decide +kernel
theorem dX10_acts_110 : decode cX10_acts 110 = .ok (.aload_n 0, 1) := by decide +kernel
theorem dX10_acts_111 : decode cX10_acts 111 = .ok (.getfield 49, 3) := by decide +kernel
theorem dX10_acts_114 : decode cX10_acts 114 = .ok (.iload_n 2, 1) := by decide +kernel
theorem dX10_acts_115 : decode cX10_acts 115 = .ok (.aload_n 0, 1) := by decide +kernel
theorem dX10_acts_116 : decode cX10_acts 116 = .ok (.getfield 49, 3) := by decide +kernel
theorem dX10_acts_119 : decode cX10_acts 119 = .ok (.iload_n 3, 1) := by decide +kernel
theorem dX10_acts_120 : decode cX10_acts 120 = .ok (.iaload, 1) := by decide +kernel
theorem dX10_acts_121 : decode cX10_acts 121 = .ok (.iastore, 1) := by decide +kernel
theorem dX10_acts_122 : decode cX10_acts 122 = .ok (.goto 66, 3) := by decide +kernel
theorem dX10_acts_125 : decode cX10_acts 125 = .ok (.aload_n 0, 1) := by decide +kernel
theorem dX10_acts_126 : decode cX10_acts 126 = .ok (.getfield 49, 3) := by decide +kernel
theorem dX10_acts_129 : decode cX10_acts 129 = .ok (.iload_n 2, 1) := by decide +kernel
theorem dX10_acts_130 : decode cX10_acts 130 = .ok (.aload_n 0, 1) := by decide +kernel
theorem dX10_acts_131 : decode cX10_acts 131 = .ok (.getfield 315, 3) := by decide +kernel
theorem dX10_acts_134 : decode cX10_acts 134 = .ok (.bipush 8, 2) := by decide +kernel
theorem dX10_acts_136 : decode cX10_acts 136 = .ok (.if_icmp .ge 15, 3) := by decide +kernel
theorem dX10_acts_139 : decode cX10_acts 139 = .ok (.aload_n 0, 1) := by decide +kernel
theorem dX10_acts_140 : decode cX10_acts 140 = .ok (.getfield 16, 3) := by decide +kernel
theorem dX10_acts_143 : decode cX10_acts 143 = .ok (.aload_n 0, 1) := by decide +kernel
theorem dX10_acts_144 : decode cX10_acts 144 = .ok (.getfield 315, 3) := by decide +kernel
theorem dX10_acts_147 : decode cX10_acts 147 = .ok (.iaload, 1) := by decide +kernel
theorem dX10_acts_148 : decode cX10_acts 148 = .ok (.goto 5, 3) := by decide +kernel
theorem dX10_acts_151 : decode cX10_acts 151 = .ok (.bipush 51, 2) := by decide +kernel
theorem dX10_acts_153 : decode cX10_acts 153 = .ok (.iastore, 1) := by decide +kernel
theorem dX10_acts_154 : decode cX10_acts 154 = .ok (.aload_n 0, 1) := by decide +kernel
theorem dX10_acts_155 : decode cX10_acts 155 = .ok (.dup, 1) := by decide +kernel
theorem dX10_acts_156 : decode cX10_acts 156 = .ok (.getfield 315, 3) := by decide +kernel
theorem dX10_acts_159 : decode cX10_acts 159 = .ok (.iconst 1, 1) := by decide +kernel
theorem dX10_acts_160 : decode cX10_acts 160 = .ok (.iadd, 1) := by decide +kernel
theorem dX10_acts_161 : decode cX10_acts 161 = .ok (.putfield 315, 3) := by decide +kernel
theorem dX10_acts_164 : decode cX10_acts 164 = .ok (.goto 24, 3) := by decide +kernel
theorem dX10_acts_167 : decode cX10_acts 167 = .ok (.aload_n 0, 1) := by decide +kernel
theorem dX10_acts_168 : decode cX10_acts 168 = .ok (.getfield 52, 3) := by decide +kernel
theorem dX10_acts_171 : decode cX10_acts 171 = .ok (.aload_n 0, 1) := by decide +kernel
theorem dX10_acts_172 : decode cX10_acts 172 = .ok (.getfield 318, 3) := by decide +kernel
theorem dX10_acts_175 : decode cX10_acts 175 = .ok (.iload 4, 2) := by decide +kernel
theorem dX10_acts_177 : decode cX10_acts 177 = .ok (.iastore, 1) := by decide +kernel
theorem dX10_acts_178 : decode cX10_acts 178 = .ok (.aload_n 0, 1) := by decide +kernel
theorem dX10_acts_179 : decode cX10_acts 179 = .ok (.dup, 1) := by decide +kernel
theorem dX10_acts_180 : decode cX10_acts 180 = .ok (.getfield 318, 3) := by decide +kernel
theorem dX10_acts_183 : decode cX10_acts 183 = .ok (.iconst 1, 1) := by decide +kernel
theorem dX10_acts_184 : decode cX10_acts 184 = .ok (.iadd, 1) := by decide +kernel
theorem dX10_acts_185 : decode cX10_acts 185 = .ok (.putfield 318, 3) := by decide +kernel
theorem dX10_acts_188 : decode cX10_acts 188 = .ok (.aload_n 0, 1) := by decide +kernel
theorem dX10_acts_189 : decode cX10_acts 189 = .ok (.dup, 1) := by decide +kernel
theorem dX10_acts_190 : decode cX10_acts 190 = .ok (.getfield 321, 3) := by decide +kernel
theorem dX10_acts_193 : decode cX10_acts 193 = .ok (.iconst 1, 1) := by decide +kernel
theorem dX10_acts_194 : decode cX10_acts 194 = .ok (.iadd, 1) := by decide +kernel
theorem dX10_acts_195 : decode cX10_acts 195 = .ok (.putfield 321, 3) := by decide +kernel
theorem dX10_acts_198 : decode cX10_acts 198 = .ok (.return_, 1) := by decide +kernel
theorem dX10_holds_0 : decode cX10_holds 0 = .ok (.aload_n 0, 1) := by decide +kernel
theorem dX10_holds_1 : decode cX10_holds 1 = .ok (.getfield 49, 3) := by decide +kernel
theorem dX10_holds_4 : decode cX10_holds 4 = .ok (.aload_n 0, 1) := by decide +kernel
theorem dX10_holds_5 : decode cX10_holds 5 = .ok (.iload_n 1, 1) := by decide +kernel
theorem dX10_holds_6 : decode cX10_holds 6 = .ok (.iload_n 2, 1) := by decide +kernel
theorem dX10_holds_7 : decode cX10_holds 7 = .ok (.bipush 16, 2) := by decide +kernel
theorem dX10_holds_9 : decode cX10_holds 9 = .ok (.invokevirtual 175, 3) := by decide +kernel
theorem dX10_holds_12 : decode cX10_holds 12 = .ok (.iaload, 1) := by decide +kernel
theorem dX10_holds_13 : decode cX10_holds 13 = .ok (.istore_n 3, 1) := by decide +kernel
theorem dX10_holds_14 : decode cX10_holds 14 = .ok (.aload_n 0, 1) := by decide +kernel
theorem dX10_holds_15 : decode cX10_holds 15 = .ok (.iload_n 1, 1) := by decide +kernel
theorem dX10_holds_16 : decode cX10_holds 16 = .ok (.iload_n 2, 1) := by decide +kernel
theorem dX10_holds_17 : decode cX10_holds 17 = .ok (.bipush 17, 2) := by decide +kernel
theorem dX10_holds_19 : decode cX10_holds 19 = .ok (.invokevirtual 175, 3) := by decide +kernel
theorem dX10_holds_22 : decode cX10_holds 22 = .ok (.iconst 1, 1) := by decide +kernel
theorem dX10_holds_23 : decode cX10_holds 23 = .ok (.if_icmp .ne 19, 3) := by decide +kernel
theorem dX10_holds_26 : decode cX10_holds 26 = .ok (.aload_n 0, 1) := by decide +kernel
theorem dX10_holds_27 : decode cX10_holds 27 = .ok (.getfield 49, 3) := by decide +kernel
theorem dX10_holds_30 : decode cX10_holds 30 = .ok (.aload_n 0, 1) := by decide +kernel
theorem dX10_holds_31 : decode cX10_holds 31 = .ok (.iload_n 1, 1) := by decide +kernel
theorem dX10_holds_32 : decode cX10_holds 32 = .ok (.iload_n 2, 1) := by decide +kernel
theorem dX10_holds_33 : decode cX10_holds 33 = .ok (.bipush 18, 2) := by decide +kernel
theorem dX10_holds_35 : decode cX10_holds 35 = .ok (.invokevirtual 175, 3) := by decide +kernel
theorem dX10_holds_38 : decode cX10_holds 38 = .ok (.iaload, 1) := by decide +kernel
theorem dX10_holds_39 : decode cX10_holds 39 = .ok (.goto 11, 3) := by decide +kernel
theorem dX10_holds_42 : decode cX10_holds 42 = .ok (.aload_n 0, 1) := by decide +kernel
theorem dX10_holds_43 : decode cX10_holds 43 = .ok (.iload_n 1, 1) := by decide +kernel
theorem dX10_holds_44 : decode cX10_holds 44 = .ok (.iload_n 2, 1) := by decide +kernel
theorem dX10_holds_45 : decode cX10_holds 45 = .ok (.bipush 18, 2) := by decide +kernel
theorem dX10_holds_47 : decode cX10_holds 47 = .ok (.invokevirtual 175, 3) := by decide +kernel
theorem dX10_holds_50 : decode cX10_holds 50 = .ok (.istore 4, 2) := by decide +kernel
theorem dX10_holds_52 : decode cX10_holds 52 = .ok (.iload_n 3, 1) := by decide +kernel
theorem dX10_holds_53 : decode cX10_holds 53 = .ok (.bipush 51, 2) := by decide +kernel
theorem dX10_holds_55 : decode cX10_holds 55 = .ok (.if_icmp .eq 14, 3) := by decide +kernel
theorem dX10_holds_58 : decode cX10_holds 58 = .ok (.iload 4, 2) := by decide +kernel
theorem dX10_holds_60 : decode cX10_holds 60 = .ok (.bipush 51, 2) := by decide +kernel
theorem dX10_holds_62 : decode cX10_holds 62 = .ok (.if_icmp .eq 7, 3) := by decide +kernel
theorem dX10_holds_65 : decode cX10_holds 65 = .ok (.iconst 1, 1) := by decide +kernel
theorem dX10_holds_66 : decode cX10_holds 66 = .ok (.goto 4, 3) := by decide +kernel
theorem dX10_holds_69 : decode cX10_holds 69 = .ok (.iconst 0, 1) := by decide +kernel
theorem dX10_holds_70 : decode cX10_holds 70 = .ok (.istore 5, 2) := by decide +kernel
theorem dX10_holds_72 : decode cX10_holds 72 = .ok (.iload 5, 2) := by decide +kernel
theorem dX10_holds_74 : decode cX10_holds 74 = .ok (.ifCond .eq 34, 3) := by decide +kernel
theorem dX10_holds_77 : decode cX10_holds 77 = .ok (.aload_n 0, 1) := by decide +kernel
theorem dX10_holds_78 : decode cX10_holds 78 = .ok (.iload_n 1, 1) := by decide +kernel
theorem dX10_holds_79 : decode cX10_holds 79 = .ok (.iload_n 2, 1) := by decide +kernel
theorem dX10_holds_80 : decode cX10_holds 80 = .ok (.bipush 13, 2) := by decide +kernel
theorem dX10_holds_82 : decode cX10_holds 82 = .ok (.invokevirtual 175, 3) := by decide +kernel
theorem dX10_holds_85 : decode cX10_holds 85 = .ok (.iconst 2, 1) := by decide +kernel
theorem dX10_holds_86 : decode cX10_holds 86 = .ok (.if_icmp .ne 12, 3) := by decide +kernel
theorem dX10_holds_89 : decode cX10_holds 89 = .ok (.iload_n 3, 1) := by decide +kernel
theorem dX10_holds_90 : decode cX10_holds 90 = .ok (.iload 4, 2) := by decide +kernel
theorem dX10_holds_92 : decode cX10_holds 92 = .ok (.if_icmp .ge 16, 3) := by decide +kernel
theorem dX10_holds_95 : decode cX10_holds 95 = .ok (.goto 9, 3) := by decide +kernel
theorem dX10_holds_98 : decode cX10_holds 98 = .ok (.iload_n 3, 1) := by decide +kernel
theorem dX10_holds_99 : decode cX10_holds 99 = .ok (.iload 4, 2) := by decide +kernel
theorem dX10_holds_101 : decode cX10_holds 101 = .ok (.if_icmp .ne 7, 3) := by decide +kernel
theorem dX10_holds_104 : decode cX10_holds 104 = .ok (.iconst 1, 1) := by decide +kernel
theorem dX10_holds_105 : decode cX10_holds 105 = .ok (.goto 4, 3) := by decide +kernel
theorem dX10_holds_108 : decode cX10_holds 108 = .ok (.iconst 0, 1) := by decide +kernel
theorem dX10_holds_109 : decode cX10_holds 109 = .ok (.ireturn, 1) := by decide +kernel
theorem dX10_runs_0 : decode cX10_runs 0 = .ok (.iconst 0, 1) := by decide +kernel
theorem dX10_runs_1 : decode cX10_runs 1 = .ok (.istore_n 2, 1) := by decide +kernel
theorem dX10_runs_2 : decode cX10_runs 2 = .ok (.iload_n 2, 1) := by decide +kernel
theorem dX10_runs_3 : decode cX10_runs 3 = .ok (.iconst 4, 1) := by decide +kernel
theorem dX10_runs_4 : decode cX10_runs 4 = .ok (.if_icmp .ge 17, 3) := by decide +kernel
theorem dX10_runs_7 : decode cX10_runs 7 = .ok (.aload_n 0, 1) := by decide +kernel
theorem dX10_runs_8 : decode cX10_runs 8 = .ok (.getfield 49, 3) := by decide +kernel
theorem dX10_runs_11 : decode cX10_runs 11 = .ok (.iload_n 2, 1) := by decide +kernel
theorem dX10_runs_12 : decode cX10_runs 12 = .ok (.bipush 51, 2) := by decide +kernel
theorem dX10_runs_14 : decode cX10_runs 14 = .ok (.iastore, 1) := by decide +kernel
theorem dX10_runs_15 : decode cX10_runs 15 = .ok (.iinc 2 1, 3) := by decide +kernel
theorem dX10_runs_18 : decode cX10_runs 18 = .ok (.goto (-16), 3) := by decide +kernel
theorem dX10_runs_21 : decode cX10_runs 21 = .ok (.aload_n 0, 1) := by decide +kernel
theorem dX10_runs_22 : decode cX10_runs 22 = .ok (.iconst 0, 1) := by decide +kernel
theorem dX10_runs_23 : decode cX10_runs 23 = .ok (.putfield 324, 3) := by decide +kernel
theorem dX10_runs_26 : decode cX10_runs 26 = .ok (.aload_n 0, 1) := by decide +kernel
theorem dX10_runs_27 : decode cX10_runs 27 = .ok (.iconst 0, 1) := by decide +kernel
theorem dX10_runs_28 : decode cX10_runs 28 = .ok (.putfield 321, 3) := by decide +kernel
theorem dX10_runs_31 : decode cX10_runs 31 = .ok (.aload_n 0, 1) := by decide +kernel
theorem dX10_runs_32 : decode cX10_runs 32 = .ok (.iconst 0, 1) := by decide +kernel
theorem dX10_runs_33 : decode cX10_runs 33 = .ok (.putfield 327, 3) := by decide +kernel
theorem dX10_runs_36 : decode cX10_runs 36 = .ok (.aload_n 0, 1) := by decide +kernel
theorem dX10_runs_37 : decode cX10_runs 37 = .ok (.iconst 0, 1) := by decide +kernel
theorem dX10_runs_38 : decode cX10_runs 38 = .ok (.putfield 318, 3) := by decide +kernel
theorem dX10_runs_41 : decode cX10_runs 41 = .ok (.aload_n 0, 1) := by decide +kernel
theorem dX10_runs_42 : decode cX10_runs 42 = .ok (.iconst 0, 1) := by decide +kernel
theorem dX10_runs_43 : decode cX10_runs 43 = .ok (.putfield 315, 3) := by decide +kernel
theorem dX10_runs_46 : decode cX10_runs 46 = .ok (.aload_n 0, 1) := by decide +kernel
theorem dX10_runs_47 : decode cX10_runs 47 = .ok (.aload_n 0, 1) := by decide +kernel
theorem dX10_runs_48 : decode cX10_runs 48 = .ok (.iload_n 1, 1) := by decide +kernel
theorem dX10_runs_49 : decode cX10_runs 49 = .ok (.invokevirtual 172, 3) := by decide +kernel
theorem dX10_runs_52 : decode cX10_runs 52 = .ok (.ifCond .ne 7, 3) := by decide +kernel
theorem dX10_runs_55 : decode cX10_runs 55 = .ok (.iconst 1, 1) := by decide +kernel
theorem dX10_runs_56 : decode cX10_runs 56 = .ok (.goto 4, 3) := by decide +kernel
theorem dX10_runs_59 : decode cX10_runs 59 = .ok (.iconst 0, 1) := by decide +kernel
theorem dX10_runs_60 : decode cX10_runs 60 = .ok (.putfield 330, 3) := by decide +kernel
theorem dX10_runs_63 : decode cX10_runs 63 = .ok (.iconst 0, 1) := by decide +kernel
theorem dX10_runs_64 : decode cX10_runs 64 = .ok (.istore_n 2, 1) := by decide +kernel
theorem dX10_runs_65 : decode cX10_runs 65 = .ok (.aload_n 0, 1) := by decide +kernel
theorem dX10_runs_66 : decode cX10_runs 66 = .ok (.getfield 330, 3) := by decide +kernel
theorem dX10_runs_69 : decode cX10_runs 69 = .ok (.ifCond .ne 175, 3) := by decide +kernel
theorem dX10_runs_72 : decode cX10_runs 72 = .ok (.aload_n 0, 1) := by decide +kernel
theorem dX10_runs_73 : decode cX10_runs 73 = .ok (.getfield 324, 3) := by decide +kernel
theorem dX10_runs_76 : decode cX10_runs 76 = .ok (.bipush 60, 2) := by decide +kernel
theorem dX10_runs_78 : decode cX10_runs 78 = .ok (.if_icmp .ge 166, 3) := by decide +kernel
theorem dX10_runs_81 : decode cX10_runs 81 = .ok (.aload_n 0, 1) := by decide +kernel
theorem dX10_runs_82 : decode cX10_runs 82 = .ok (.getfield 55, 3) := by decide +kernel
theorem dX10_runs_85 : decode cX10_runs 85 = .ok (.aload_n 0, 1) := by decide +kernel
theorem dX10_runs_86 : decode cX10_runs 86 = .ok (.getfield 324, 3) := by decide +kernel
theorem dX10_runs_89 : decode cX10_runs 89 = .ok (.iload_n 2, 1) := by decide +kernel
theorem dX10_runs_90 : decode cX10_runs 90 = .ok (.iastore, 1) := by decide +kernel
theorem dX10_runs_91 : decode cX10_runs 91 = .ok (.aload_n 0, 1) := by decide +kernel
theorem dX10_runs_92 : decode cX10_runs 92 = .ok (.dup, 1) := by decide +kernel
theorem dX10_runs_93 : decode cX10_runs 93 = .ok (.getfield 324, 3) := by decide +kernel
theorem dX10_runs_96 : decode cX10_runs 96 = .ok (.iconst 1, 1) := by decide +kernel
theorem dX10_runs_97 : decode cX10_runs 97 = .ok (.iadd, 1) := by decide +kernel
theorem dX10_runs_98 : decode cX10_runs 98 = .ok (.putfield 324, 3) := by decide +kernel
theorem dX10_runs_101 : decode cX10_runs 101 = .ok (.iconst 0, 1) := by decide +kernel
theorem dX10_runs_102 : decode cX10_runs 102 = .ok (.istore_n 3, 1) := by decide +kernel
theorem dX10_runs_103 : decode cX10_runs 103 = .ok (.iload_n 3, 1) := by decide +kernel
theorem dX10_runs_104 : decode cX10_runs 104 = .ok (.aload_n 0, 1) := by decide +kernel
theorem dX10_runs_105 : decode cX10_runs 105 = .ok (.iload_n 1, 1) := by decide +kernel
theorem dX10_runs_106 : decode cX10_runs 106 = .ok (.iload_n 2, 1) := by decide +kernel
theorem dX10_runs_107 : decode cX10_runs 107 = .ok (.iconst 0, 1) := by decide +kernel
theorem dX10_runs_108 : decode cX10_runs 108 = .ok (.invokevirtual 175, 3) := by decide +kernel
theorem dX10_runs_111 : decode cX10_runs 111 = .ok (.if_icmp .ge 50, 3) := by decide +kernel
theorem dX10_runs_114 : decode cX10_runs 114 = .ok (.aload_n 0, 1) := by decide +kernel
theorem dX10_runs_115 : decode cX10_runs 115 = .ok (.aload_n 0, 1) := by decide +kernel
theorem dX10_runs_116 : decode cX10_runs 116 = .ok (.iload_n 1, 1) := by decide +kernel
theorem dX10_runs_117 : decode cX10_runs 117 = .ok (.iload_n 2, 1) := by decide +kernel
theorem dX10_runs_118 : decode cX10_runs 118 = .ok (.iconst 1, 1) := by decide +kernel
theorem dX10_runs_119 : decode cX10_runs 119 = .ok (.iconst 3, 1) := by decide +kernel
theorem dX10_runs_120 : decode cX10_runs 120 = .ok (.iload_n 3, 1) := by decide +kernel
theorem dX10_runs_121 : decode cX10_runs 121 = .ok (.imul, 1) := by decide +kernel
theorem dX10_runs_122 : decode cX10_runs 122 = .ok (.iadd, 1) := by decide +kernel
theorem dX10_runs_123 : decode cX10_runs 123 = .ok (.invokevirtual 175, 3) := by decide +kernel
theorem dX10_runs_126 : decode cX10_runs 126 = .ok (.aload_n 0, 1) := by decide +kernel
theorem dX10_runs_127 : decode cX10_runs 127 = .ok (.iload_n 1, 1) := by decide +kernel
theorem dX10_runs_128 : decode cX10_runs 128 = .ok (.iload_n 2, 1) := by decide +kernel
theorem dX10_runs_129 : decode cX10_runs 129 = .ok (.iconst 1, 1) := by decide +kernel
theorem dX10_runs_130 : decode cX10_runs 130 = .ok (.iconst 3, 1) := by decide +kernel
theorem dX10_runs_131 : decode cX10_runs 131 = .ok (.iload_n 3, 1) := by decide +kernel
theorem dX10_runs_132 : decode cX10_runs 132 = .ok (.imul, 1) := by decide +kernel
theorem dX10_runs_133 : decode cX10_runs 133 = .ok (.iadd, 1) := by decide +kernel
theorem dX10_runs_134 : decode cX10_runs 134 = .ok (.iconst 1, 1) := by decide +kernel
theorem dX10_runs_135 : decode cX10_runs 135 = .ok (.iadd, 1) := by decide +kernel
theorem dX10_runs_136 : decode cX10_runs 136 = .ok (.invokevirtual 175, 3) := by decide +kernel
theorem dX10_runs_139 : decode cX10_runs 139 = .ok (.aload_n 0, 1) := by decide +kernel
theorem dX10_runs_140 : decode cX10_runs 140 = .ok (.iload_n 1, 1) := by decide +kernel
theorem dX10_runs_141 : decode cX10_runs 141 = .ok (.iload_n 2, 1) := by decide +kernel
theorem dX10_runs_142 : decode cX10_runs 142 = .ok (.iconst 1, 1) := by decide +kernel
theorem dX10_runs_143 : decode cX10_runs 143 = .ok (.iconst 3, 1) := by decide +kernel
theorem dX10_runs_144 : decode cX10_runs 144 = .ok (.iload_n 3, 1) := by decide +kernel
theorem dX10_runs_145 : decode cX10_runs 145 = .ok (.imul, 1) := by decide +kernel
theorem dX10_runs_146 : decode cX10_runs 146 = .ok (.iadd, 1) := by decide +kernel
theorem dX10_runs_147 : decode cX10_runs 147 = .ok (.iconst 2, 1) := by decide +kernel
theorem dX10_runs_148 : decode cX10_runs 148 = .ok (.iadd, 1) := by decide +kernel
theorem dX10_runs_149 : decode cX10_runs 149 = .ok (.invokevirtual 175, 3) := by decide +kernel
theorem dX10_runs_152 : decode cX10_runs 152 = .ok (.invokevirtual 334, 3) := by decide +kernel
theorem dX10_runs_155 : decode cX10_runs 155 = .ok (.iinc 3 1, 3) := by decide +kernel
theorem dX10_runs_158 : decode cX10_runs 158 = .ok (.goto (-55), 3) := by decide +kernel
theorem dX10_runs_161 : decode cX10_runs 161 = .ok (.aload_n 0, 1) := by decide +kernel
theorem dX10_runs_162 : decode cX10_runs 162 = .ok (.iload_n 1, 1) := by decide +kernel
theorem dX10_runs_163 : decode cX10_runs 163 = .ok (.iload_n 2, 1) := by decide +kernel
theorem dX10_runs_164 : decode cX10_runs 164 = .ok (.bipush 13, 2) := by decide +kernel
theorem dX10_runs_166 : decode cX10_runs 166 = .ok (.invokevirtual 175, 3) := by decide +kernel
theorem dX10_runs_169 : decode cX10_runs 169 = .ok (.istore_n 3, 1) := by decide +kernel
theorem dX10_runs_170 : decode cX10_runs 170 = .ok (.aload_n 0, 1) := by decide +kernel
theorem dX10_runs_171 : decode cX10_runs 171 = .ok (.iload_n 3, 1) := by decide +kernel
theorem dX10_runs_172 : decode cX10_runs 172 = .ok (.ifCond .ne 7, 3) := by decide +kernel
theorem dX10_runs_175 : decode cX10_runs 175 = .ok (.iconst 1, 1) := by decide +kernel
theorem dX10_runs_176 : decode cX10_runs 176 = .ok (.goto 4, 3) := by decide +kernel
theorem dX10_runs_179 : decode cX10_runs 179 = .ok (.iconst 0, 1) := by decide +kernel
theorem dX10_runs_180 : decode cX10_runs 180 = .ok (.putfield 330, 3) := by decide +kernel
theorem dX10_runs_183 : decode cX10_runs 183 = .ok (.aload_n 0, 1) := by decide +kernel
theorem dX10_runs_184 : decode cX10_runs 184 = .ok (.dup, 1) := by decide +kernel
theorem dX10_runs_185 : decode cX10_runs 185 = .ok (.getfield 327, 3) := by decide +kernel
theorem dX10_runs_188 : decode cX10_runs 188 = .ok (.iload_n 3, 1) := by decide +kernel
theorem dX10_runs_189 : decode cX10_runs 189 = .ok (.invokestatic 188, 3) := by decide +kernel
theorem dX10_runs_192 : decode cX10_runs 192 = .ok (.invokestatic 145, 3) := by decide +kernel
theorem dX10_runs_195 : decode cX10_runs 195 = .ok (.iadd, 1) := by decide +kernel
theorem dX10_runs_196 : decode cX10_runs 196 = .ok (.putfield 327, 3) := by decide +kernel
theorem dX10_runs_199 : decode cX10_runs 199 = .ok (.iload_n 3, 1) := by decide +kernel
theorem dX10_runs_200 : decode cX10_runs 200 = .ok (.ifCond .ne 7, 3) := by decide +kernel
theorem dX10_runs_203 : decode cX10_runs 203 = .ok (.iload_n 2, 1) := by decide +kernel
theorem dX10_runs_204 : decode cX10_runs 204 = .ok (.goto 36, 3) := by decide +kernel
theorem dX10_runs_207 : decode cX10_runs 207 = .ok (.aload_n 0, 1) := by decide +kernel
theorem dX10_runs_208 : decode cX10_runs 208 = .ok (.iload_n 1, 1) := by decide +kernel
theorem dX10_runs_209 : decode cX10_runs 209 = .ok (.iload_n 2, 1) := by decide +kernel
theorem dX10_runs_210 : decode cX10_runs 210 = .ok (.bipush 14, 2) := by decide +kernel
theorem dX10_runs_212 : decode cX10_runs 212 = .ok (.iload_n 3, 1) := by decide +kernel
theorem dX10_runs_213 : decode cX10_runs 213 = .ok (.invokestatic 188, 3) := by decide +kernel
theorem dX10_runs_216 : decode cX10_runs 216 = .ok (.ifCond .eq 16, 3) := by decide +kernel
theorem dX10_runs_219 : decode cX10_runs 219 = .ok (.aload_n 0, 1) := by decide +kernel
theorem dX10_runs_220 : decode cX10_runs 220 = .ok (.iload_n 1, 1) := by decide +kernel
theorem dX10_runs_221 : decode cX10_runs 221 = .ok (.iload_n 2, 1) := by decide +kernel
theorem dX10_runs_222 : decode cX10_runs 222 = .ok (.invokevirtual 337, 3) := by decide +kernel
theorem dX10_runs_225 : decode cX10_runs 225 = .ok (.ifCond .ne 7, 3) := by decide +kernel
theorem dX10_runs_228 : decode cX10_runs 228 = .ok (.iconst 1, 1) := by decide +kernel
theorem dX10_runs_229 : decode cX10_runs 229 = .ok (.goto 4, 3) := by decide +kernel
theorem dX10_runs_232 : decode cX10_runs 232 = .ok (.iconst 0, 1) := by decide +kernel
theorem dX10_runs_233 : decode cX10_runs 233 = .ok (.invokestatic 145, 3) := by decide +kernel
theorem dX10_runs_236 : decode cX10_runs 236 = .ok (.iadd, 1) := by decide +kernel
theorem dX10_runs_237 : decode cX10_runs 237 = .ok (.invokevirtual 175, 3) := by decide +kernel
theorem dX10_runs_240 : decode cX10_runs 240 = .ok (.istore_n 2, 1) := by decide +kernel
theorem dX10_runs_241 : decode cX10_runs 241 = .ok (.goto (-176), 3) := by decide +kernel
theorem dX10_runs_244 : decode cX10_runs 244 = .ok (.return_, 1) := by decide +kernel
theorem dX10_input_0 : decode cX10_input 0 = .ok (.iload_n 1, 1) := by decide +kernel
theorem dX10_input_1 : decode cX10_input 1 = .ok (.i2l, 1) := by decide +kernel
theorem dX10_input_2 : decode cX10_input 2 = .ok (.lconst 0, 1) := by decide +kernel
theorem dX10_input_3 : decode cX10_input 3 = .ok (.ldc2_w 340, 3) := by decide +kernel
theorem dX10_input_6 : decode cX10_input 6 = .ok (.invokestatic 80, 3) := by decide +kernel
theorem dX10_input_9 : decode cX10_input 9 = .ok (.ifCond .eq 15, 3) := by decide +kernel
theorem dX10_input_12 : decode cX10_input 12 = .ok (.iload_n 2, 1) := by decide +kernel
theorem dX10_input_13 : decode cX10_input 13 = .ok (.i2l, 1) := by decide +kernel
theorem dX10_input_14 : decode cX10_input 14 = .ok (.lconst 0, 1) := by decide +kernel
theorem dX10_input_15 : decode cX10_input 15 = .ok (.ldc2_w 342, 3) := by decide +kernel
theorem dX10_input_18 : decode cX10_input 18 = .ok (.invokestatic 80, 3) := by decide +kernel
theorem dX10_input_21 : decode cX10_input 21 = .ok (.ifCond .ne 5, 3) := by decide +kernel
theorem dX10_input_24 : decode cX10_input 24 = .ok (.iconst (-1), 1) := by decide +kernel
theorem dX10_input_25 : decode cX10_input 25 = .ok (.ireturn, 1) := by decide +kernel
theorem dX10_input_26 : decode cX10_input 26 = .ok (.aload_n 0, 1) := by decide +kernel
theorem dX10_input_27 : decode cX10_input 27 = .ok (.getfield 16, 3) := by decide +kernel
theorem dX10_input_30 : decode cX10_input 30 = .ok (.iload_n 1, 1) := by decide +kernel
theorem dX10_input_31 : decode cX10_input 31 = .ok (.iaload, 1) := by decide +kernel
theorem dX10_input_32 : decode cX10_input 32 = .ok (.istore_n 3, 1) := by decide +kernel
theorem dX10_input_33 : decode cX10_input 33 = .ok (.aload_n 0, 1) := by decide +kernel
theorem dX10_input_34 : decode cX10_input 34 = .ok (.getfield 16, 3) := by decide +kernel
theorem dX10_input_37 : decode cX10_input 37 = .ok (.iload_n 1, 1) := by decide +kernel
theorem dX10_input_38 : decode cX10_input 38 = .ok (.iload_n 2, 1) := by decide +kernel
theorem dX10_input_39 : decode cX10_input 39 = .ok (.iastore, 1) := by decide +kernel
theorem dX10_input_40 : decode cX10_input 40 = .ok (.iload_n 3, 1) := by decide +kernel
theorem dX10_input_41 : decode cX10_input 41 = .ok (.ireturn, 1) := by decide +kernel
theorem dX10_ran_0 : decode cX10_ran 0 = .ok (.aload_n 0, 1) := by decide +kernel
theorem dX10_ran_1 : decode cX10_ran 1 = .ok (.iload_n 1, 1) := by decide +kernel
theorem dX10_ran_2 : decode cX10_ran 2 = .ok (.invokevirtual 191, 3) := by decide +kernel
theorem dX10_ran_5 : decode cX10_ran 5 = .ok (.ifCond .eq 15, 3) := by decide +kernel
theorem dX10_ran_8 : decode cX10_ran 8 = .ok (.iload_n 2, 1) := by decide +kernel
theorem dX10_ran_9 : decode cX10_ran 9 = .ok (.i2l, 1) := by decide +kernel
theorem dX10_ran_10 : decode cX10_ran 10 = .ok (.lconst 0, 1) := by decide +kernel
theorem dX10_ran_11 : decode cX10_ran 11 = .ok (.ldc2_w 344, 3) := by decide +kernel
theorem dX10_ran_14 : decode cX10_ran 14 = .ok (.invokestatic 80, 3) := by decide +kernel
theorem dX10_ran_17 : decode cX10_ran 17 = .ok (.ifCond .ne 5, 3) := by decide +kernel
theorem dX10_ran_20 : decode cX10_ran 20 = .ok (.iconst (-1), 1) := by decide +kernel
theorem dX10_ran_21 : decode cX10_ran 21 = .ok (.ireturn, 1) := by decide +kernel
theorem dX10_ran_22 : decode cX10_ran 22 = .ok (.aload_n 0, 1) := by decide +kernel
theorem dX10_ran_23 : decode cX10_ran 23 = .ok (.iload_n 1, 1) := by decide +kernel
theorem dX10_ran_24 : decode cX10_ran 24 = .ok (.invokevirtual 346, 3) := by decide +kernel
theorem dX10_ran_27 : decode cX10_ran 27 = .ok (.iload_n 2, 1) := by decide +kernel
theorem dX10_ran_28 : decode cX10_ran 28 = .ok (.tableswitch 89 0 9 #[56, 61, 66, 71, 76, 89, 89, 89, 89, 84], 56) := by decide +kernel
theorem dX10_ran_84 : decode cX10_ran 84 = .ok (.aload_n 0, 1) := by decide +kernel
theorem dX10_ran_85 : decode cX10_ran 85 = .ok (.getfield 324, 3) := by decide +kernel
theorem dX10_ran_88 : decode cX10_ran 88 = .ok (.ireturn, 1) := by decide +kernel
theorem dX10_ran_89 : decode cX10_ran 89 = .ok (.aload_n 0, 1) := by decide +kernel
theorem dX10_ran_90 : decode cX10_ran 90 = .ok (.getfield 321, 3) := by decide +kernel
theorem dX10_ran_93 : decode cX10_ran 93 = .ok (.ireturn, 1) := by decide +kernel
theorem dX10_ran_94 : decode cX10_ran 94 = .ok (.aload_n 0, 1) := by decide +kernel
theorem dX10_ran_95 : decode cX10_ran 95 = .ok (.getfield 327, 3) := by decide +kernel
theorem dX10_ran_98 : decode cX10_ran 98 = .ok (.ireturn, 1) := by decide +kernel
theorem dX10_ran_99 : decode cX10_ran 99 = .ok (.aload_n 0, 1) := by decide +kernel
theorem dX10_ran_100 : decode cX10_ran 100 = .ok (.getfield 318, 3) := by decide +kernel
theorem dX10_ran_103 : decode cX10_ran 103 = .ok (.ireturn, 1) := by decide +kernel
theorem dX10_ran_104 : decode cX10_ran 104 = .ok (.aload_n 0, 1) := by decide +kernel
theorem dX10_ran_105 : decode cX10_ran 105 = .ok (.getfield 330, 3) := by decide +kernel
theorem dX10_ran_108 : decode cX10_ran 108 = .ok (.invokestatic 145, 3) := by decide +kernel
theorem dX10_ran_111 : decode cX10_ran 111 = .ok (.ireturn, 1) := by decide +kernel
theorem dX10_ran_112 : decode cX10_ran 112 = .ok (.aload_n 0, 1) := by decide +kernel
theorem dX10_ran_113 : decode cX10_ran 113 = .ok (.getfield 315, 3) := by decide +kernel
theorem dX10_ran_116 : decode cX10_ran 116 = .ok (.ireturn, 1) := by decide +kernel
theorem dX10_ran_117 : decode cX10_ran 117 = .ok (.aload_n 0, 1) := by decide +kernel
theorem dX10_ran_118 : decode cX10_ran 118 = .ok (.getfield 49, 3) := by decide +kernel
theorem dX10_ran_121 : decode cX10_ran 121 = .ok (.iload_n 2, 1) := by decide +kernel
theorem dX10_ran_122 : decode cX10_ran 122 = .ok (.iconst 5, 1) := by decide +kernel
theorem dX10_ran_123 : decode cX10_ran 123 = .ok (.isub, 1) := by decide +kernel
theorem dX10_ran_124 : decode cX10_ran 124 = .ok (.iaload, 1) := by decide +kernel
theorem dX10_ran_125 : decode cX10_ran 125 = .ok (.ireturn, 1) := by decide +kernel
theorem dX10_wrote_0 : decode cX10_wrote 0 = .ok (.aload_n 0, 1) := by decide +kernel
theorem dX10_wrote_1 : decode cX10_wrote 1 = .ok (.iload_n 1, 1) := by decide +kernel
theorem dX10_wrote_2 : decode cX10_wrote 2 = .ok (.invokevirtual 191, 3) := by decide +kernel
theorem dX10_wrote_5 : decode cX10_wrote 5 = .ok (.ifCond .eq 7, 3) := by decide +kernel
theorem dX10_wrote_8 : decode cX10_wrote 8 = .ok (.iload_n 2, 1) := by decide +kernel
theorem dX10_wrote_9 : decode cX10_wrote 9 = .ok (.ifCond .ge 5, 3) := by decide +kernel
theorem dX10_wrote_12 : decode cX10_wrote 12 = .ok (.iconst (-1), 1) := by decide +kernel
theorem dX10_wrote_13 : decode cX10_wrote 13 = .ok (.ireturn, 1) := by decide +kernel
theorem dX10_wrote_14 : decode cX10_wrote 14 = .ok (.aload_n 0, 1) := by decide +kernel
theorem dX10_wrote_15 : decode cX10_wrote 15 = .ok (.iload_n 1, 1) := by decide +kernel
theorem dX10_wrote_16 : decode cX10_wrote 16 = .ok (.invokevirtual 346, 3) := by decide +kernel
theorem dX10_wrote_19 : decode cX10_wrote 19 = .ok (.iload_n 2, 1) := by decide +kernel
theorem dX10_wrote_20 : decode cX10_wrote 20 = .ok (.aload_n 0, 1) := by decide +kernel
theorem dX10_wrote_21 : decode cX10_wrote 21 = .ok (.getfield 318, 3) := by decide +kernel
theorem dX10_wrote_24 : decode cX10_wrote 24 = .ok (.if_icmp .ge 12, 3) := by decide +kernel
theorem dX10_wrote_27 : decode cX10_wrote 27 = .ok (.aload_n 0, 1) := by decide +kernel
theorem dX10_wrote_28 : decode cX10_wrote 28 = .ok (.getfield 52, 3) := by decide +kernel
theorem dX10_wrote_31 : decode cX10_wrote 31 = .ok (.iload_n 2, 1) := by decide +kernel
theorem dX10_wrote_32 : decode cX10_wrote 32 = .ok (.iaload, 1) := by decide +kernel
theorem dX10_wrote_33 : decode cX10_wrote 33 = .ok (.goto 5, 3) := by decide +kernel
theorem dX10_wrote_36 : decode cX10_wrote 36 = .ok (.bipush (-4), 2) := by decide +kernel
theorem dX10_wrote_38 : decode cX10_wrote 38 = .ok (.ireturn, 1) := by decide +kernel
theorem dX10_path_0 : decode cX10_path 0 = .ok (.aload_n 0, 1) := by decide +kernel
theorem dX10_path_1 : decode cX10_path 1 = .ok (.iload_n 1, 1) := by decide +kernel
theorem dX10_path_2 : decode cX10_path 2 = .ok (.invokevirtual 191, 3) := by decide +kernel
theorem dX10_path_5 : decode cX10_path 5 = .ok (.ifCond .eq 7, 3) := by decide +kernel
theorem dX10_path_8 : decode cX10_path 8 = .ok (.iload_n 2, 1) := by decide +kernel
theorem dX10_path_9 : decode cX10_path 9 = .ok (.ifCond .ge 5, 3) := by decide +kernel
theorem dX10_path_12 : decode cX10_path 12 = .ok (.iconst (-1), 1) := by decide +kernel
theorem dX10_path_13 : decode cX10_path 13 = .ok (.ireturn, 1) := by decide +kernel
theorem dX10_path_14 : decode cX10_path 14 = .ok (.aload_n 0, 1) := by decide +kernel
theorem dX10_path_15 : decode cX10_path 15 = .ok (.iload_n 1, 1) := by decide +kernel
theorem dX10_path_16 : decode cX10_path 16 = .ok (.invokevirtual 346, 3) := by decide +kernel
theorem dX10_path_19 : decode cX10_path 19 = .ok (.iload_n 2, 1) := by decide +kernel
theorem dX10_path_20 : decode cX10_path 20 = .ok (.aload_n 0, 1) := by decide +kernel
theorem dX10_path_21 : decode cX10_path 21 = .ok (.getfield 324, 3) := by decide +kernel
theorem dX10_path_24 : decode cX10_path 24 = .ok (.if_icmp .ge 12, 3) := by decide +kernel
theorem dX10_path_27 : decode cX10_path 27 = .ok (.aload_n 0, 1) := by decide +kernel
theorem dX10_path_28 : decode cX10_path 28 = .ok (.getfield 55, 3) := by decide +kernel
theorem dX10_path_31 : decode cX10_path 31 = .ok (.iload_n 2, 1) := by decide +kernel
theorem dX10_path_32 : decode cX10_path 32 = .ok (.iaload, 1) := by decide +kernel
theorem dX10_path_33 : decode cX10_path 33 = .ok (.goto 5, 3) := by decide +kernel
theorem dX10_path_36 : decode cX10_path 36 = .ok (.bipush (-4), 2) := by decide +kernel
theorem dX10_path_38 : decode cX10_path 38 = .ok (.ireturn, 1) := by decide +kernel
theorem dX10_gets_0 : decode cX10_gets 0 = .ok (.aload_n 0, 1) := by decide +kernel
theorem dX10_gets_1 : decode cX10_gets 1 = .ok (.aload_n 0, 1) := by decide +kernel
theorem dX10_gets_2 : decode cX10_gets 2 = .ok (.getfield 349, 3) := by decide +kernel
theorem dX10_gets_5 : decode cX10_gets 5 = .ok (.ldc_w 352, 3) := by decide +kernel
theorem dX10_gets_8 : decode cX10_gets 8 = .ok (.imul, 1) := by decide +kernel
theorem dX10_gets_9 : decode cX10_gets 9 = .ok (.sipush 12345, 3) := by decide +kernel
theorem dX10_gets_12 : decode cX10_gets 12 = .ok (.iadd, 1) := by decide +kernel
theorem dX10_gets_13 : decode cX10_gets 13 = .ok (.putfield 349, 3) := by decide +kernel
theorem dX10_gets_16 : decode cX10_gets 16 = .ok (.aload_n 0, 1) := by decide +kernel
theorem dX10_gets_17 : decode cX10_gets 17 = .ok (.getfield 349, 3) := by decide +kernel
theorem dX10_gets_20 : decode cX10_gets 20 = .ok (.bipush 16, 2) := by decide +kernel
theorem dX10_gets_22 : decode cX10_gets 22 = .ok (.ishr, 1) := by decide +kernel
theorem dX10_gets_23 : decode cX10_gets 23 = .ok (.sipush 32767, 3) := by decide +kernel
theorem dX10_gets_26 : decode cX10_gets 26 = .ok (.iand, 1) := by decide +kernel
theorem dX10_gets_27 : decode cX10_gets 27 = .ok (.ireturn, 1) := by decide +kernel
theorem dX10_testsOf_0 : decode cX10_testsOf 0 = .ok (.aload_n 0, 1) := by decide +kernel
theorem dX10_testsOf_1 : decode cX10_testsOf 1 = .ok (.iload_n 1, 1) := by decide +kernel
theorem dX10_testsOf_2 : decode cX10_testsOf 2 = .ok (.invokevirtual 346, 3) := by decide +kernel
theorem dX10_testsOf_5 : decode cX10_testsOf 5 = .ok (.aload_n 0, 1) := by decide +kernel
theorem dX10_testsOf_6 : decode cX10_testsOf 6 = .ok (.getfield 327, 3) := by decide +kernel
theorem dX10_testsOf_9 : decode cX10_testsOf 9 = .ok (.ireturn, 1) := by decide +kernel
theorem dX10_saved_0 : decode cX10_saved 0 = .ok (.iload_n 2, 1) := by decide +kernel
theorem dX10_saved_1 : decode cX10_saved 1 = .ok (.i2l, 1) := by decide +kernel
theorem dX10_saved_2 : decode cX10_saved 2 = .ok (.lconst 1, 1) := by decide +kernel
theorem dX10_saved_3 : decode cX10_saved 3 = .ok (.ldc2_w 353, 3) := by decide +kernel
theorem dX10_saved_6 : decode cX10_saved 6 = .ok (.invokestatic 80, 3) := by decide +kernel
theorem dX10_saved_9 : decode cX10_saved 9 = .ok (.ifCond .ne 5, 3) := by decide +kernel
theorem dX10_saved_12 : decode cX10_saved 12 = .ok (.iconst (-1), 1) := by decide +kernel
theorem dX10_saved_13 : decode cX10_saved 13 = .ok (.ireturn, 1) := by decide +kernel
theorem dX10_saved_14 : decode cX10_saved 14 = .ok (.aload_n 0, 1) := by decide +kernel
theorem dX10_saved_15 : decode cX10_saved 15 = .ok (.iload_n 1, 1) := by decide +kernel
theorem dX10_saved_16 : decode cX10_saved 16 = .ok (.putfield 349, 3) := by decide +kernel
theorem dX10_saved_19 : decode cX10_saved 19 = .ok (.iconst 0, 1) := by decide +kernel
theorem dX10_saved_20 : decode cX10_saved 20 = .ok (.istore_n 3, 1) := by decide +kernel
theorem dX10_saved_21 : decode cX10_saved 21 = .ok (.iconst 0, 1) := by decide +kernel
theorem dX10_saved_22 : decode cX10_saved 22 = .ok (.istore 4, 2) := by decide +kernel
theorem dX10_saved_24 : decode cX10_saved 24 = .ok (.iload 4, 2) := by decide +kernel
theorem dX10_saved_26 : decode cX10_saved 26 = .ok (.bipush 8, 2) := by decide +kernel
theorem dX10_saved_28 : decode cX10_saved 28 = .ok (.if_icmp .ge 23, 3) := by decide +kernel
theorem dX10_saved_31 : decode cX10_saved 31 = .ok (.aload_n 0, 1) := by decide +kernel
theorem dX10_saved_32 : decode cX10_saved 32 = .ok (.getfield 58, 3) := by decide +kernel
theorem dX10_saved_35 : decode cX10_saved 35 = .ok (.iload 4, 2) := by decide +kernel
theorem dX10_saved_37 : decode cX10_saved 37 = .ok (.aload_n 0, 1) := by decide +kernel
theorem dX10_saved_38 : decode cX10_saved 38 = .ok (.getfield 16, 3) := by decide +kernel
theorem dX10_saved_41 : decode cX10_saved 41 = .ok (.iload 4, 2) := by decide +kernel
theorem dX10_saved_43 : decode cX10_saved 43 = .ok (.iaload, 1) := by decide +kernel
theorem dX10_saved_44 : decode cX10_saved 44 = .ok (.iastore, 1) := by decide +kernel
theorem dX10_saved_45 : decode cX10_saved 45 = .ok (.iinc 4 1, 3) := by decide +kernel
theorem dX10_saved_48 : decode cX10_saved 48 = .ok (.goto (-24), 3) := by decide +kernel
theorem dX10_saved_51 : decode cX10_saved 51 = .ok (.iconst 0, 1) := by decide +kernel
theorem dX10_saved_52 : decode cX10_saved 52 = .ok (.istore 4, 2) := by decide +kernel
theorem dX10_saved_54 : decode cX10_saved 54 = .ok (.iload 4, 2) := by decide +kernel
theorem dX10_saved_56 : decode cX10_saved 56 = .ok (.iload_n 2, 1) := by decide +kernel
theorem dX10_saved_57 : decode cX10_saved 57 = .ok (.if_icmp .ge 53, 3) := by decide +kernel
theorem dX10_saved_60 : decode cX10_saved 60 = .ok (.iconst 0, 1) := by decide +kernel
theorem dX10_saved_61 : decode cX10_saved 61 = .ok (.istore 5, 2) := by decide +kernel
theorem dX10_saved_63 : decode cX10_saved 63 = .ok (.iload 5, 2) := by decide +kernel
theorem dX10_saved_65 : decode cX10_saved 65 = .ok (.bipush 8, 2) := by decide +kernel
theorem dX10_saved_67 : decode cX10_saved 67 = .ok (.if_icmp .ge 23, 3) := by decide +kernel
theorem dX10_saved_70 : decode cX10_saved 70 = .ok (.aload_n 0, 1) := by decide +kernel
theorem dX10_saved_71 : decode cX10_saved 71 = .ok (.getfield 16, 3) := by decide +kernel
theorem dX10_saved_74 : decode cX10_saved 74 = .ok (.iload 5, 2) := by decide +kernel
theorem dX10_saved_76 : decode cX10_saved 76 = .ok (.aload_n 0, 1) := by decide +kernel
theorem dX10_saved_77 : decode cX10_saved 77 = .ok (.invokevirtual 355, 3) := by decide +kernel
theorem dX10_saved_80 : decode cX10_saved 80 = .ok (.bipush 52, 2) := by decide +kernel
theorem dX10_saved_82 : decode cX10_saved 82 = .ok (.irem, 1) := by decide +kernel
theorem dX10_saved_83 : decode cX10_saved 83 = .ok (.iastore, 1) := by decide +kernel
theorem dX10_saved_84 : decode cX10_saved 84 = .ok (.iinc 5 1, 3) := by decide +kernel
theorem dX10_saved_87 : decode cX10_saved 87 = .ok (.goto (-24), 3) := by decide +kernel
theorem dX10_saved_90 : decode cX10_saved 90 = .ok (.iload_n 3, 1) := by decide +kernel
theorem dX10_saved_91 : decode cX10_saved 91 = .ok (.aload_n 0, 1) := by decide +kernel
theorem dX10_saved_92 : decode cX10_saved 92 = .ok (.iconst 0, 1) := by decide +kernel
theorem dX10_saved_93 : decode cX10_saved 93 = .ok (.invokevirtual 358, 3) := by decide +kernel
theorem dX10_saved_96 : decode cX10_saved 96 = .ok (.aload_n 0, 1) := by decide +kernel
theorem dX10_saved_97 : decode cX10_saved 97 = .ok (.iconst 1, 1) := by decide +kernel
theorem dX10_saved_98 : decode cX10_saved 98 = .ok (.invokevirtual 358, 3) := by decide +kernel
theorem dX10_saved_101 : decode cX10_saved 101 = .ok (.isub, 1) := by decide +kernel
theorem dX10_saved_102 : decode cX10_saved 102 = .ok (.iadd, 1) := by decide +kernel
theorem dX10_saved_103 : decode cX10_saved 103 = .ok (.istore_n 3, 1) := by decide +kernel
theorem dX10_saved_104 : decode cX10_saved 104 = .ok (.iinc 4 1, 3) := by decide +kernel
theorem dX10_saved_107 : decode cX10_saved 107 = .ok (.goto (-53), 3) := by decide +kernel
theorem dX10_saved_110 : decode cX10_saved 110 = .ok (.iconst 0, 1) := by decide +kernel
theorem dX10_saved_111 : decode cX10_saved 111 = .ok (.istore 4, 2) := by decide +kernel
theorem dX10_saved_113 : decode cX10_saved 113 = .ok (.iload 4, 2) := by decide +kernel
theorem dX10_saved_115 : decode cX10_saved 115 = .ok (.bipush 8, 2) := by decide +kernel
theorem dX10_saved_117 : decode cX10_saved 117 = .ok (.if_icmp .ge 23, 3) := by decide +kernel
theorem dX10_saved_120 : decode cX10_saved 120 = .ok (.aload_n 0, 1) := by decide +kernel
theorem dX10_saved_121 : decode cX10_saved 121 = .ok (.getfield 16, 3) := by decide +kernel
theorem dX10_saved_124 : decode cX10_saved 124 = .ok (.iload 4, 2) := by decide +kernel
theorem dX10_saved_126 : decode cX10_saved 126 = .ok (.aload_n 0, 1) := by decide +kernel
theorem dX10_saved_127 : decode cX10_saved 127 = .ok (.getfield 58, 3) := by decide +kernel
theorem dX10_saved_130 : decode cX10_saved 130 = .ok (.iload 4, 2) := by decide +kernel
theorem dX10_saved_132 : decode cX10_saved 132 = .ok (.iaload, 1) := by decide +kernel
theorem dX10_saved_133 : decode cX10_saved 133 = .ok (.iastore, 1) := by decide +kernel
theorem dX10_saved_134 : decode cX10_saved 134 = .ok (.iinc 4 1, 3) := by decide +kernel
theorem dX10_saved_137 : decode cX10_saved 137 = .ok (.goto (-24), 3) := by decide +kernel
theorem dX10_saved_140 : decode cX10_saved 140 = .ok (.iload_n 3, 1) := by decide +kernel
theorem dX10_saved_141 : decode cX10_saved 141 = .ok (.ireturn, 1) := by decide +kernel
theorem dX10_lead_0 : decode cX10_lead 0 = .ok (.aload_n 0, 1) := by decide +kernel
theorem dX10_lead_1 : decode cX10_lead 1 = .ok (.iconst 0, 1) := by decide +kernel
theorem dX10_lead_2 : decode cX10_lead 2 = .ok (.iload_n 1, 1) := by decide +kernel
theorem dX10_lead_3 : decode cX10_lead 3 = .ok (.iload_n 2, 1) := by decide +kernel
theorem dX10_lead_4 : decode cX10_lead 4 = .ok (.invokevirtual 277, 3) := by decide +kernel
theorem dX10_lead_7 : decode cX10_lead 7 = .ok (.ifCond .eq 12, 3) := by decide +kernel
theorem dX10_lead_10 : decode cX10_lead 10 = .ok (.aload_n 0, 1) := by decide +kernel
theorem dX10_lead_11 : decode cX10_lead 11 = .ok (.iconst 0, 1) := by decide +kernel
theorem dX10_lead_12 : decode cX10_lead 12 = .ok (.iload_n 3, 1) := by decide +kernel
theorem dX10_lead_13 : decode cX10_lead 13 = .ok (.invokevirtual 178, 3) := by decide +kernel
theorem dX10_lead_16 : decode cX10_lead 16 = .ok (.ifCond .ne 5, 3) := by decide +kernel
theorem dX10_lead_19 : decode cX10_lead 19 = .ok (.iconst (-1), 1) := by decide +kernel
theorem dX10_lead_20 : decode cX10_lead 20 = .ok (.ireturn, 1) := by decide +kernel
theorem dX10_lead_21 : decode cX10_lead 21 = .ok (.iconst 0, 1) := by decide +kernel
theorem dX10_lead_22 : decode cX10_lead 22 = .ok (.iload_n 1, 1) := by decide +kernel
theorem dX10_lead_23 : decode cX10_lead 23 = .ok (.bipush 14, 2) := by decide +kernel
theorem dX10_lead_25 : decode cX10_lead 25 = .ok (.iload_n 2, 1) := by decide +kernel
theorem dX10_lead_26 : decode cX10_lead 26 = .ok (.iadd, 1) := by decide +kernel
theorem dX10_lead_27 : decode cX10_lead 27 = .ok (.invokestatic 70, 3) := by decide +kernel
theorem dX10_lead_30 : decode cX10_lead 30 = .ok (.istore 4, 2) := by decide +kernel
theorem dX10_lead_32 : decode cX10_lead 32 = .ok (.aload_n 0, 1) := by decide +kernel
theorem dX10_lead_33 : decode cX10_lead 33 = .ok (.getfield 9, 3) := by decide +kernel
theorem dX10_lead_36 : decode cX10_lead 36 = .ok (.iload 4, 2) := by decide +kernel
theorem dX10_lead_38 : decode cX10_lead 38 = .ok (.iaload, 1) := by decide +kernel
theorem dX10_lead_39 : decode cX10_lead 39 = .ok (.istore 5, 2) := by decide +kernel
theorem dX10_lead_41 : decode cX10_lead 41 = .ok (.aload_n 0, 1) := by decide +kernel
theorem dX10_lead_42 : decode cX10_lead 42 = .ok (.getfield 9, 3) := by decide +kernel
theorem dX10_lead_45 : decode cX10_lead 45 = .ok (.iload 4, 2) := by decide +kernel
theorem dX10_lead_47 : decode cX10_lead 47 = .ok (.iload_n 3, 1) := by decide +kernel
theorem dX10_lead_48 : decode cX10_lead 48 = .ok (.iastore, 1) := by decide +kernel
theorem dX10_lead_49 : decode cX10_lead 49 = .ok (.aload_n 0, 1) := by decide +kernel
theorem dX10_lead_50 : decode cX10_lead 50 = .ok (.invokevirtual 169, 3) := by decide +kernel
theorem dX10_lead_53 : decode cX10_lead 53 = .ok (.iload 5, 2) := by decide +kernel
theorem dX10_lead_55 : decode cX10_lead 55 = .ok (.ireturn, 1) := by decide +kernel
theorem dX10_drawsAct_0 : decode cX10_drawsAct 0 = .ok (.iload_n 1, 1) := by decide +kernel
theorem dX10_drawsAct_1 : decode cX10_drawsAct 1 = .ok (.iconst 1, 1) := by decide +kernel
theorem dX10_drawsAct_2 : decode cX10_drawsAct 2 = .ok (.iadd, 1) := by decide +kernel
theorem dX10_drawsAct_3 : decode cX10_drawsAct 3 = .ok (.iconst 3, 1) := by decide +kernel
theorem dX10_drawsAct_4 : decode cX10_drawsAct 4 = .ok (.aload_n 0, 1) := by decide +kernel
theorem dX10_drawsAct_5 : decode cX10_drawsAct 5 = .ok (.getfield 9, 3) := by decide +kernel
theorem dX10_drawsAct_8 : decode cX10_drawsAct 8 = .ok (.iload_n 1, 1) := by decide +kernel
theorem dX10_drawsAct_9 : decode cX10_drawsAct 9 = .ok (.iaload, 1) := by decide +kernel
theorem dX10_drawsAct_10 : decode cX10_drawsAct 10 = .ok (.imul, 1) := by decide +kernel
theorem dX10_drawsAct_11 : decode cX10_drawsAct 11 = .ok (.iadd, 1) := by decide +kernel
theorem dX10_drawsAct_12 : decode cX10_drawsAct 12 = .ok (.istore_n 2, 1) := by decide +kernel
theorem dX10_drawsAct_13 : decode cX10_drawsAct 13 = .ok (.aload_n 0, 1) := by decide +kernel
theorem dX10_drawsAct_14 : decode cX10_drawsAct 14 = .ok (.getfield 9, 3) := by decide +kernel
theorem dX10_drawsAct_17 : decode cX10_drawsAct 17 = .ok (.iload_n 1, 1) := by decide +kernel
theorem dX10_drawsAct_18 : decode cX10_drawsAct 18 = .ok (.dup2, 1) := by decide +kernel
theorem dX10_drawsAct_19 : decode cX10_drawsAct 19 = .ok (.iaload, 1) := by decide +kernel
theorem dX10_drawsAct_20 : decode cX10_drawsAct 20 = .ok (.iconst 1, 1) := by decide +kernel
theorem dX10_drawsAct_21 : decode cX10_drawsAct 21 = .ok (.iadd, 1) := by decide +kernel
theorem dX10_drawsAct_22 : decode cX10_drawsAct 22 = .ok (.iastore, 1) := by decide +kernel
theorem dX10_drawsAct_23 : decode cX10_drawsAct 23 = .ok (.aload_n 0, 1) := by decide +kernel
theorem dX10_drawsAct_24 : decode cX10_drawsAct 24 = .ok (.getfield 9, 3) := by decide +kernel
theorem dX10_drawsAct_27 : decode cX10_drawsAct 27 = .ok (.iload_n 2, 1) := by decide +kernel
theorem dX10_drawsAct_28 : decode cX10_drawsAct 28 = .ok (.aload_n 0, 1) := by decide +kernel
theorem dX10_drawsAct_29 : decode cX10_drawsAct 29 = .ok (.invokevirtual 355, 3) := by decide +kernel
theorem dX10_drawsAct_32 : decode cX10_drawsAct 32 = .ok (.bipush 6, 2) := by decide +kernel
theorem dX10_drawsAct_34 : decode cX10_drawsAct 34 = .ok (.irem, 1) := by decide +kernel
theorem dX10_drawsAct_35 : decode cX10_drawsAct 35 = .ok (.iastore, 1) := by decide +kernel
theorem dX10_drawsAct_36 : decode cX10_drawsAct 36 = .ok (.aload_n 0, 1) := by decide +kernel
theorem dX10_drawsAct_37 : decode cX10_drawsAct 37 = .ok (.getfield 9, 3) := by decide +kernel
theorem dX10_drawsAct_40 : decode cX10_drawsAct 40 = .ok (.iload_n 2, 1) := by decide +kernel
theorem dX10_drawsAct_41 : decode cX10_drawsAct 41 = .ok (.iconst 1, 1) := by decide +kernel
theorem dX10_drawsAct_42 : decode cX10_drawsAct 42 = .ok (.iadd, 1) := by decide +kernel
theorem dX10_drawsAct_43 : decode cX10_drawsAct 43 = .ok (.aload_n 0, 1) := by decide +kernel
theorem dX10_drawsAct_44 : decode cX10_drawsAct 44 = .ok (.invokevirtual 355, 3) := by decide +kernel
theorem dX10_drawsAct_47 : decode cX10_drawsAct 47 = .ok (.iconst 4, 1) := by decide +kernel
theorem dX10_drawsAct_48 : decode cX10_drawsAct 48 = .ok (.irem, 1) := by decide +kernel
theorem dX10_drawsAct_49 : decode cX10_drawsAct 49 = .ok (.iastore, 1) := by decide +kernel
theorem dX10_drawsAct_50 : decode cX10_drawsAct 50 = .ok (.aload_n 0, 1) := by decide +kernel
theorem dX10_drawsAct_51 : decode cX10_drawsAct 51 = .ok (.getfield 9, 3) := by decide +kernel
theorem dX10_drawsAct_54 : decode cX10_drawsAct 54 = .ok (.iload_n 2, 1) := by decide +kernel
theorem dX10_drawsAct_55 : decode cX10_drawsAct 55 = .ok (.iconst 2, 1) := by decide +kernel
theorem dX10_drawsAct_56 : decode cX10_drawsAct 56 = .ok (.iadd, 1) := by decide +kernel
theorem dX10_drawsAct_57 : decode cX10_drawsAct 57 = .ok (.aload_n 0, 1) := by decide +kernel
theorem dX10_drawsAct_58 : decode cX10_drawsAct 58 = .ok (.getfield 9, 3) := by decide +kernel
theorem dX10_drawsAct_61 : decode cX10_drawsAct 61 = .ok (.iload_n 2, 1) := by decide +kernel
theorem dX10_drawsAct_62 : decode cX10_drawsAct 62 = .ok (.iaload, 1) := by decide +kernel
theorem dX10_drawsAct_63 : decode cX10_drawsAct 63 = .ok (.ifCond .ne 13, 3) := by decide +kernel
theorem dX10_drawsAct_66 : decode cX10_drawsAct 66 = .ok (.aload_n 0, 1) := by decide +kernel
theorem dX10_drawsAct_67 : decode cX10_drawsAct 67 = .ok (.invokevirtual 355, 3) := by decide +kernel
theorem dX10_drawsAct_70 : decode cX10_drawsAct 70 = .ok (.bipush 51, 2) := by decide +kernel
theorem dX10_drawsAct_72 : decode cX10_drawsAct 72 = .ok (.irem, 1) := by decide +kernel
theorem dX10_drawsAct_73 : decode cX10_drawsAct 73 = .ok (.goto 43, 3) := by decide +kernel
theorem dX10_drawsAct_76 : decode cX10_drawsAct 76 = .ok (.aload_n 0, 1) := by decide +kernel
theorem dX10_drawsAct_77 : decode cX10_drawsAct 77 = .ok (.getfield 9, 3) := by decide +kernel
theorem dX10_drawsAct_80 : decode cX10_drawsAct 80 = .ok (.iload_n 2, 1) := by decide +kernel
theorem dX10_drawsAct_81 : decode cX10_drawsAct 81 = .ok (.iaload, 1) := by decide +kernel
theorem dX10_drawsAct_82 : decode cX10_drawsAct 82 = .ok (.iconst 2, 1) := by decide +kernel
theorem dX10_drawsAct_83 : decode cX10_drawsAct 83 = .ok (.if_icmp .gt 12, 3) := by decide +kernel
theorem dX10_drawsAct_86 : decode cX10_drawsAct 86 = .ok (.aload_n 0, 1) := by decide +kernel
theorem dX10_drawsAct_87 : decode cX10_drawsAct 87 = .ok (.invokevirtual 355, 3) := by decide +kernel
theorem dX10_drawsAct_90 : decode cX10_drawsAct 90 = .ok (.iconst 5, 1) := by decide +kernel
theorem dX10_drawsAct_91 : decode cX10_drawsAct 91 = .ok (.irem, 1) := by decide +kernel
theorem dX10_drawsAct_92 : decode cX10_drawsAct 92 = .ok (.goto 24, 3) := by decide +kernel
theorem dX10_drawsAct_95 : decode cX10_drawsAct 95 = .ok (.aload_n 0, 1) := by decide +kernel
theorem dX10_drawsAct_96 : decode cX10_drawsAct 96 = .ok (.getfield 9, 3) := by decide +kernel
theorem dX10_drawsAct_99 : decode cX10_drawsAct 99 = .ok (.iload_n 2, 1) := by decide +kernel
theorem dX10_drawsAct_100 : decode cX10_drawsAct 100 = .ok (.iaload, 1) := by decide +kernel
theorem dX10_drawsAct_101 : decode cX10_drawsAct 101 = .ok (.iconst 3, 1) := by decide +kernel
theorem dX10_drawsAct_102 : decode cX10_drawsAct 102 = .ok (.if_icmp .ne 12, 3) := by decide +kernel
theorem dX10_drawsAct_105 : decode cX10_drawsAct 105 = .ok (.aload_n 0, 1) := by decide +kernel
theorem dX10_drawsAct_106 : decode cX10_drawsAct 106 = .ok (.invokevirtual 355, 3) := by decide +kernel
theorem dX10_drawsAct_109 : decode cX10_drawsAct 109 = .ok (.iconst 4, 1) := by decide +kernel
theorem dX10_drawsAct_110 : decode cX10_drawsAct 110 = .ok (.irem, 1) := by decide +kernel
theorem dX10_drawsAct_111 : decode cX10_drawsAct 111 = .ok (.goto 5, 3) := by decide +kernel
theorem dX10_drawsAct_114 : decode cX10_drawsAct 114 = .ok (.bipush (-4), 2) := by decide +kernel
theorem dX10_drawsAct_116 : decode cX10_drawsAct 116 = .ok (.iastore, 1) := by decide +kernel
theorem dX10_drawsAct_117 : decode cX10_drawsAct 117 = .ok (.return_, 1) := by decide +kernel
theorem dX10_drawsEnd_0 : decode cX10_drawsEnd 0 = .ok (.aload_n 0, 1) := by decide +kernel
theorem dX10_drawsEnd_1 : decode cX10_drawsEnd 1 = .ok (.invokevirtual 355, 3) := by decide +kernel
theorem dX10_drawsEnd_4 : decode cX10_drawsEnd 4 = .ok (.iconst 5, 1) := by decide +kernel
theorem dX10_drawsEnd_5 : decode cX10_drawsEnd 5 = .ok (.irem, 1) := by decide +kernel
theorem dX10_drawsEnd_6 : decode cX10_drawsEnd 6 = .ok (.istore_n 3, 1) := by decide +kernel
theorem dX10_drawsEnd_7 : decode cX10_drawsEnd 7 = .ok (.aload_n 0, 1) := by decide +kernel
theorem dX10_drawsEnd_8 : decode cX10_drawsEnd 8 = .ok (.aload_n 0, 1) := by decide +kernel
theorem dX10_drawsEnd_9 : decode cX10_drawsEnd 9 = .ok (.getfield 9, 3) := by decide +kernel
theorem dX10_drawsEnd_12 : decode cX10_drawsEnd 12 = .ok (.iload_n 1, 1) := by decide +kernel
theorem dX10_drawsEnd_13 : decode cX10_drawsEnd 13 = .ok (.invokevirtual 149, 3) := by decide +kernel
theorem dX10_drawsEnd_16 : decode cX10_drawsEnd 16 = .ok (.aload_n 0, 1) := by decide +kernel
theorem dX10_drawsEnd_17 : decode cX10_drawsEnd 17 = .ok (.getfield 9, 3) := by decide +kernel
theorem dX10_drawsEnd_20 : decode cX10_drawsEnd 20 = .ok (.iload_n 1, 1) := by decide +kernel
theorem dX10_drawsEnd_21 : decode cX10_drawsEnd 21 = .ok (.bipush 13, 2) := by decide +kernel
theorem dX10_drawsEnd_23 : decode cX10_drawsEnd 23 = .ok (.iadd, 1) := by decide +kernel
theorem dX10_drawsEnd_24 : decode cX10_drawsEnd 24 = .ok (.iload_n 3, 1) := by decide +kernel
theorem dX10_drawsEnd_25 : decode cX10_drawsEnd 25 = .ok (.iconst 4, 1) := by decide +kernel
theorem dX10_drawsEnd_26 : decode cX10_drawsEnd 26 = .ok (.if_icmp .ne 7, 3) := by decide +kernel
theorem dX10_drawsEnd_29 : decode cX10_drawsEnd 29 = .ok (.iconst 2, 1) := by decide +kernel
theorem dX10_drawsEnd_30 : decode cX10_drawsEnd 30 = .ok (.goto 4, 3) := by decide +kernel
theorem dX10_drawsEnd_33 : decode cX10_drawsEnd 33 = .ok (.iload_n 3, 1) := by decide +kernel
theorem dX10_drawsEnd_34 : decode cX10_drawsEnd 34 = .ok (.iastore, 1) := by decide +kernel
theorem dX10_drawsEnd_35 : decode cX10_drawsEnd 35 = .ok (.iload_n 3, 1) := by decide +kernel
theorem dX10_drawsEnd_36 : decode cX10_drawsEnd 36 = .ok (.iconst 1, 1) := by decide +kernel
theorem dX10_drawsEnd_37 : decode cX10_drawsEnd 37 = .ok (.if_icmp .le 65, 3) := by decide +kernel
theorem dX10_drawsEnd_40 : decode cX10_drawsEnd 40 = .ok (.aload_n 0, 1) := by decide +kernel
theorem dX10_drawsEnd_41 : decode cX10_drawsEnd 41 = .ok (.getfield 9, 3) := by decide +kernel
theorem dX10_drawsEnd_44 : decode cX10_drawsEnd 44 = .ok (.iload_n 1, 1) := by decide +kernel
theorem dX10_drawsEnd_45 : decode cX10_drawsEnd 45 = .ok (.bipush 16, 2) := by decide +kernel
theorem dX10_drawsEnd_47 : decode cX10_drawsEnd 47 = .ok (.iadd, 1) := by decide +kernel
theorem dX10_drawsEnd_48 : decode cX10_drawsEnd 48 = .ok (.aload_n 0, 1) := by decide +kernel
theorem dX10_drawsEnd_49 : decode cX10_drawsEnd 49 = .ok (.invokevirtual 355, 3) := by decide +kernel
theorem dX10_drawsEnd_52 : decode cX10_drawsEnd 52 = .ok (.iconst 4, 1) := by decide +kernel
theorem dX10_drawsEnd_53 : decode cX10_drawsEnd 53 = .ok (.irem, 1) := by decide +kernel
theorem dX10_drawsEnd_54 : decode cX10_drawsEnd 54 = .ok (.iastore, 1) := by decide +kernel
theorem dX10_drawsEnd_55 : decode cX10_drawsEnd 55 = .ok (.aload_n 0, 1) := by decide +kernel
theorem dX10_drawsEnd_56 : decode cX10_drawsEnd 56 = .ok (.invokevirtual 355, 3) := by decide +kernel
theorem dX10_drawsEnd_59 : decode cX10_drawsEnd 59 = .ok (.istore 4, 2) := by decide +kernel
theorem dX10_drawsEnd_61 : decode cX10_drawsEnd 61 = .ok (.aload_n 0, 1) := by decide +kernel
theorem dX10_drawsEnd_62 : decode cX10_drawsEnd 62 = .ok (.getfield 9, 3) := by decide +kernel
theorem dX10_drawsEnd_65 : decode cX10_drawsEnd 65 = .ok (.iload_n 1, 1) := by decide +kernel
theorem dX10_drawsEnd_66 : decode cX10_drawsEnd 66 = .ok (.bipush 17, 2) := by decide +kernel
theorem dX10_drawsEnd_68 : decode cX10_drawsEnd 68 = .ok (.iadd, 1) := by decide +kernel
theorem dX10_drawsEnd_69 : decode cX10_drawsEnd 69 = .ok (.iload 4, 2) := by decide +kernel
theorem dX10_drawsEnd_71 : decode cX10_drawsEnd 71 = .ok (.iconst 2, 1) := by decide +kernel
theorem dX10_drawsEnd_72 : decode cX10_drawsEnd 72 = .ok (.irem, 1) := by decide +kernel
theorem dX10_drawsEnd_73 : decode cX10_drawsEnd 73 = .ok (.iastore, 1) := by decide +kernel
theorem dX10_drawsEnd_74 : decode cX10_drawsEnd 74 = .ok (.aload_n 0, 1) := by decide +kernel
theorem dX10_drawsEnd_75 : decode cX10_drawsEnd 75 = .ok (.getfield 9, 3) := by decide +kernel
theorem dX10_drawsEnd_78 : decode cX10_drawsEnd 78 = .ok (.iload_n 1, 1) := by decide +kernel
theorem dX10_drawsEnd_79 : decode cX10_drawsEnd 79 = .ok (.bipush 18, 2) := by decide +kernel
theorem dX10_drawsEnd_81 : decode cX10_drawsEnd 81 = .ok (.iadd, 1) := by decide +kernel
theorem dX10_drawsEnd_82 : decode cX10_drawsEnd 82 = .ok (.iload 4, 2) := by decide +kernel
theorem dX10_drawsEnd_84 : decode cX10_drawsEnd 84 = .ok (.bipush 8, 2) := by decide +kernel
theorem dX10_drawsEnd_86 : decode cX10_drawsEnd 86 = .ok (.idiv, 1) := by decide +kernel
theorem dX10_drawsEnd_87 : decode cX10_drawsEnd 87 = .ok (.iload 4, 2) := by decide +kernel
theorem dX10_drawsEnd_89 : decode cX10_drawsEnd 89 = .ok (.iconst 2, 1) := by decide +kernel
theorem dX10_drawsEnd_90 : decode cX10_drawsEnd 90 = .ok (.irem, 1) := by decide +kernel
theorem dX10_drawsEnd_91 : decode cX10_drawsEnd 91 = .ok (.ifCond .ne 8, 3) := by decide +kernel
theorem dX10_drawsEnd_94 : decode cX10_drawsEnd 94 = .ok (.bipush 51, 2) := by decide +kernel
theorem dX10_drawsEnd_96 : decode cX10_drawsEnd 96 = .ok (.goto 4, 3) := by decide +kernel
theorem dX10_drawsEnd_99 : decode cX10_drawsEnd 99 = .ok (.iconst 4, 1) := by decide +kernel
theorem dX10_drawsEnd_100 : decode cX10_drawsEnd 100 = .ok (.irem, 1) := by decide +kernel
theorem dX10_drawsEnd_101 : decode cX10_drawsEnd 101 = .ok (.iastore, 1) := by decide +kernel
theorem dX10_drawsEnd_102 : decode cX10_drawsEnd 102 = .ok (.iconst 0, 1) := by decide +kernel
theorem dX10_drawsEnd_103 : decode cX10_drawsEnd 103 = .ok (.istore 4, 2) := by decide +kernel
theorem dX10_drawsEnd_105 : decode cX10_drawsEnd 105 = .ok (.iload 4, 2) := by decide +kernel
theorem dX10_drawsEnd_107 : decode cX10_drawsEnd 107 = .ok (.iload_n 3, 1) := by decide +kernel
theorem dX10_drawsEnd_108 : decode cX10_drawsEnd 108 = .ok (.ifCond .ne 7, 3) := by decide +kernel
theorem dX10_drawsEnd_111 : decode cX10_drawsEnd 111 = .ok (.iconst 0, 1) := by decide +kernel
theorem dX10_drawsEnd_112 : decode cX10_drawsEnd 112 = .ok (.goto 13, 3) := by decide +kernel
theorem dX10_drawsEnd_115 : decode cX10_drawsEnd 115 = .ok (.iload_n 3, 1) := by decide +kernel
theorem dX10_drawsEnd_116 : decode cX10_drawsEnd 116 = .ok (.iconst 1, 1) := by decide +kernel
theorem dX10_drawsEnd_117 : decode cX10_drawsEnd 117 = .ok (.if_icmp .ne 7, 3) := by decide +kernel
theorem dX10_drawsEnd_120 : decode cX10_drawsEnd 120 = .ok (.iconst 1, 1) := by decide +kernel
theorem dX10_drawsEnd_121 : decode cX10_drawsEnd 121 = .ok (.goto 4, 3) := by decide +kernel
theorem dX10_drawsEnd_124 : decode cX10_drawsEnd 124 = .ok (.iconst 2, 1) := by decide +kernel
theorem dX10_drawsEnd_125 : decode cX10_drawsEnd 125 = .ok (.if_icmp .ge 27, 3) := by decide +kernel
theorem dX10_drawsEnd_128 : decode cX10_drawsEnd 128 = .ok (.aload_n 0, 1) := by decide +kernel
theorem dX10_drawsEnd_129 : decode cX10_drawsEnd 129 = .ok (.getfield 9, 3) := by decide +kernel
theorem dX10_drawsEnd_132 : decode cX10_drawsEnd 132 = .ok (.iload_n 1, 1) := by decide +kernel
theorem dX10_drawsEnd_133 : decode cX10_drawsEnd 133 = .ok (.bipush 14, 2) := by decide +kernel
theorem dX10_drawsEnd_135 : decode cX10_drawsEnd 135 = .ok (.iadd, 1) := by decide +kernel
theorem dX10_drawsEnd_136 : decode cX10_drawsEnd 136 = .ok (.iload 4, 2) := by decide +kernel
theorem dX10_drawsEnd_138 : decode cX10_drawsEnd 138 = .ok (.iadd, 1) := by decide +kernel
theorem dX10_drawsEnd_139 : decode cX10_drawsEnd 139 = .ok (.aload_n 0, 1) := by decide +kernel
theorem dX10_drawsEnd_140 : decode cX10_drawsEnd 140 = .ok (.invokevirtual 355, 3) := by decide +kernel
theorem dX10_drawsEnd_143 : decode cX10_drawsEnd 143 = .ok (.iload_n 2, 1) := by decide +kernel
theorem dX10_drawsEnd_144 : decode cX10_drawsEnd 144 = .ok (.irem, 1) := by decide +kernel
theorem dX10_drawsEnd_145 : decode cX10_drawsEnd 145 = .ok (.iastore, 1) := by decide +kernel
theorem dX10_drawsEnd_146 : decode cX10_drawsEnd 146 = .ok (.iinc 4 1, 3) := by decide +kernel
theorem dX10_drawsEnd_149 : decode cX10_drawsEnd 149 = .ok (.goto (-44), 3) := by decide +kernel
theorem dX10_drawsEnd_152 : decode cX10_drawsEnd 152 = .ok (.return_, 1) := by decide +kernel
theorem dX10_draw_0 : decode cX10_draw 0 = .ok (.iload_n 2, 1) := by decide +kernel
theorem dX10_draw_1 : decode cX10_draw 1 = .ok (.i2l, 1) := by decide +kernel
theorem dX10_draw_2 : decode cX10_draw 2 = .ok (.lconst 1, 1) := by decide +kernel
theorem dX10_draw_3 : decode cX10_draw 3 = .ok (.ldc2_w 194, 3) := by decide +kernel
theorem dX10_draw_6 : decode cX10_draw 6 = .ok (.invokestatic 80, 3) := by decide +kernel
theorem dX10_draw_9 : decode cX10_draw 9 = .ok (.ifCond .ne 5, 3) := by decide +kernel
theorem dX10_draw_12 : decode cX10_draw 12 = .ok (.iconst (-1), 1) := by decide +kernel
theorem dX10_draw_13 : decode cX10_draw 13 = .ok (.ireturn, 1) := by decide +kernel
theorem dX10_draw_14 : decode cX10_draw 14 = .ok (.aload_n 0, 1) := by decide +kernel
theorem dX10_draw_15 : decode cX10_draw 15 = .ok (.iload_n 1, 1) := by decide +kernel
theorem dX10_draw_16 : decode cX10_draw 16 = .ok (.putfield 349, 3) := by decide +kernel
theorem dX10_draw_19 : decode cX10_draw 19 = .ok (.aload_n 0, 1) := by decide +kernel
theorem dX10_draw_20 : decode cX10_draw 20 = .ok (.getfield 9, 3) := by decide +kernel
theorem dX10_draw_23 : decode cX10_draw 23 = .ok (.iconst 0, 1) := by decide +kernel
theorem dX10_draw_24 : decode cX10_draw 24 = .ok (.iload_n 2, 1) := by decide +kernel
theorem dX10_draw_25 : decode cX10_draw 25 = .ok (.iastore, 1) := by decide +kernel
theorem dX10_draw_26 : decode cX10_draw 26 = .ok (.iconst 0, 1) := by decide +kernel
theorem dX10_draw_27 : decode cX10_draw 27 = .ok (.istore_n 3, 1) := by decide +kernel
theorem dX10_draw_28 : decode cX10_draw 28 = .ok (.iload_n 3, 1) := by decide +kernel
theorem dX10_draw_29 : decode cX10_draw 29 = .ok (.iload_n 2, 1) := by decide +kernel
theorem dX10_draw_30 : decode cX10_draw 30 = .ok (.if_icmp .ge 73, 3) := by decide +kernel
theorem dX10_draw_33 : decode cX10_draw 33 = .ok (.iconst 0, 1) := by decide +kernel
theorem dX10_draw_34 : decode cX10_draw 34 = .ok (.iload_n 3, 1) := by decide +kernel
theorem dX10_draw_35 : decode cX10_draw 35 = .ok (.iconst 0, 1) := by decide +kernel
theorem dX10_draw_36 : decode cX10_draw 36 = .ok (.invokestatic 70, 3) := by decide +kernel
theorem dX10_draw_39 : decode cX10_draw 39 = .ok (.istore 4, 2) := by decide +kernel
theorem dX10_draw_41 : decode cX10_draw 41 = .ok (.aload_n 0, 1) := by decide +kernel
theorem dX10_draw_42 : decode cX10_draw 42 = .ok (.invokevirtual 355, 3) := by decide +kernel
theorem dX10_draw_45 : decode cX10_draw 45 = .ok (.iconst 4, 1) := by decide +kernel
theorem dX10_draw_46 : decode cX10_draw 46 = .ok (.irem, 1) := by decide +kernel
theorem dX10_draw_47 : decode cX10_draw 47 = .ok (.istore 5, 2) := by decide +kernel
theorem dX10_draw_49 : decode cX10_draw 49 = .ok (.aload_n 0, 1) := by decide +kernel
theorem dX10_draw_50 : decode cX10_draw 50 = .ok (.getfield 9, 3) := by decide +kernel
theorem dX10_draw_53 : decode cX10_draw 53 = .ok (.iload 4, 2) := by decide +kernel
theorem dX10_draw_55 : decode cX10_draw 55 = .ok (.iconst 0, 1) := by decide +kernel
theorem dX10_draw_56 : decode cX10_draw 56 = .ok (.iastore, 1) := by decide +kernel
theorem dX10_draw_57 : decode cX10_draw 57 = .ok (.iconst 0, 1) := by decide +kernel
theorem dX10_draw_58 : decode cX10_draw 58 = .ok (.istore 6, 2) := by decide +kernel
theorem dX10_draw_60 : decode cX10_draw 60 = .ok (.iload 6, 2) := by decide +kernel
theorem dX10_draw_62 : decode cX10_draw 62 = .ok (.iload 5, 2) := by decide +kernel
theorem dX10_draw_64 : decode cX10_draw 64 = .ok (.if_icmp .ge 15, 3) := by decide +kernel
theorem dX10_draw_67 : decode cX10_draw 67 = .ok (.aload_n 0, 1) := by decide +kernel
theorem dX10_draw_68 : decode cX10_draw 68 = .ok (.iload 4, 2) := by decide +kernel
theorem dX10_draw_70 : decode cX10_draw 70 = .ok (.invokevirtual 361, 3) := by decide +kernel
theorem dX10_draw_73 : decode cX10_draw 73 = .ok (.iinc 6 1, 3) := by decide +kernel
theorem dX10_draw_76 : decode cX10_draw 76 = .ok (.goto (-16), 3) := by decide +kernel
theorem dX10_draw_79 : decode cX10_draw 79 = .ok (.aload_n 0, 1) := by decide +kernel
theorem dX10_draw_80 : decode cX10_draw 80 = .ok (.iload 4, 2) := by decide +kernel
theorem dX10_draw_82 : decode cX10_draw 82 = .ok (.iload_n 2, 1) := by decide +kernel
theorem dX10_draw_83 : decode cX10_draw 83 = .ok (.invokevirtual 364, 3) := by decide +kernel
theorem dX10_draw_86 : decode cX10_draw 86 = .ok (.aload_n 0, 1) := by decide +kernel
theorem dX10_draw_87 : decode cX10_draw 87 = .ok (.getfield 9, 3) := by decide +kernel
theorem dX10_draw_90 : decode cX10_draw 90 = .ok (.iload 4, 2) := by decide +kernel
theorem dX10_draw_92 : decode cX10_draw 92 = .ok (.bipush 19, 2) := by decide +kernel
theorem dX10_draw_94 : decode cX10_draw 94 = .ok (.iadd, 1) := by decide +kernel
theorem dX10_draw_95 : decode cX10_draw 95 = .ok (.iload_n 3, 1) := by decide +kernel
theorem dX10_draw_96 : decode cX10_draw 96 = .ok (.iastore, 1) := by decide +kernel
theorem dX10_draw_97 : decode cX10_draw 97 = .ok (.iinc 3 1, 3) := by decide +kernel
theorem dX10_draw_100 : decode cX10_draw 100 = .ok (.goto (-72), 3) := by decide +kernel
theorem dX10_draw_103 : decode cX10_draw 103 = .ok (.aload_n 0, 1) := by decide +kernel
theorem dX10_draw_104 : decode cX10_draw 104 = .ok (.invokevirtual 169, 3) := by decide +kernel
theorem dX10_draw_107 : decode cX10_draw 107 = .ok (.aload_n 0, 1) := by decide +kernel
theorem dX10_draw_108 : decode cX10_draw 108 = .ok (.iconst 0, 1) := by decide +kernel
theorem dX10_draw_109 : decode cX10_draw 109 = .ok (.iconst 2, 1) := by decide +kernel
theorem dX10_draw_110 : decode cX10_draw 110 = .ok (.invokevirtual 196, 3) := by decide +kernel
theorem dX10_draw_113 : decode cX10_draw 113 = .ok (.ireturn, 1) := by decide +kernel
theorem dX10_keep_0 : decode cX10_keep 0 = .ok (.iload_n 1, 1) := by decide +kernel
theorem dX10_keep_1 : decode cX10_keep 1 = .ok (.i2l, 1) := by decide +kernel
theorem dX10_keep_2 : decode cX10_keep 2 = .ok (.lconst 0, 1) := by decide +kernel
theorem dX10_keep_3 : decode cX10_keep 3 = .ok (.lconst 1, 1) := by decide +kernel
theorem dX10_keep_4 : decode cX10_keep 4 = .ok (.invokestatic 80, 3) := by decide +kernel
theorem dX10_keep_7 : decode cX10_keep 7 = .ok (.ifCond .ne 5, 3) := by decide +kernel
theorem dX10_keep_10 : decode cX10_keep 10 = .ok (.iconst (-1), 1) := by decide +kernel
theorem dX10_keep_11 : decode cX10_keep 11 = .ok (.ireturn, 1) := by decide +kernel
theorem dX10_keep_12 : decode cX10_keep 12 = .ok (.aload_n 0, 1) := by decide +kernel
theorem dX10_keep_13 : decode cX10_keep 13 = .ok (.getfield 19, 3) := by decide +kernel
theorem dX10_keep_16 : decode cX10_keep 16 = .ok (.iload_n 1, 1) := by decide +kernel
theorem dX10_keep_17 : decode cX10_keep 17 = .ok (.baload, 1) := by decide +kernel
theorem dX10_keep_18 : decode cX10_keep 18 = .ok (.invokestatic 145, 3) := by decide +kernel
theorem dX10_keep_21 : decode cX10_keep 21 = .ok (.istore_n 2, 1) := by decide +kernel
theorem dX10_keep_22 : decode cX10_keep 22 = .ok (.aload_n 0, 1) := by decide +kernel
theorem dX10_keep_23 : decode cX10_keep 23 = .ok (.getfield 19, 3) := by decide +kernel
theorem dX10_keep_26 : decode cX10_keep 26 = .ok (.iload_n 1, 1) := by decide +kernel
theorem dX10_keep_27 : decode cX10_keep 27 = .ok (.iconst 1, 1) := by decide +kernel
theorem dX10_keep_28 : decode cX10_keep 28 = .ok (.bastore, 1) := by decide +kernel
theorem dX10_keep_29 : decode cX10_keep 29 = .ok (.aload_n 0, 1) := by decide +kernel
theorem dX10_keep_30 : decode cX10_keep 30 = .ok (.iconst 1, 1) := by decide +kernel
theorem dX10_keep_31 : decode cX10_keep 31 = .ok (.iconst 2, 1) := by decide +kernel
theorem dX10_keep_32 : decode cX10_keep 32 = .ok (.iload_n 1, 1) := by decide +kernel
theorem dX10_keep_33 : decode cX10_keep 33 = .ok (.iadd, 1) := by decide +kernel
theorem dX10_keep_34 : decode cX10_keep 34 = .ok (.invokevirtual 74, 3) := by decide +kernel
theorem dX10_keep_37 : decode cX10_keep 37 = .ok (.iload_n 2, 1) := by decide +kernel
theorem dX10_keep_38 : decode cX10_keep 38 = .ok (.ireturn, 1) := by decide +kernel
theorem dX10_back_0 : decode cX10_back 0 = .ok (.iload_n 1, 1) := by decide +kernel
theorem dX10_back_1 : decode cX10_back 1 = .ok (.i2l, 1) := by decide +kernel
theorem dX10_back_2 : decode cX10_back 2 = .ok (.lconst 0, 1) := by decide +kernel
theorem dX10_back_3 : decode cX10_back 3 = .ok (.lconst 1, 1) := by decide +kernel
theorem dX10_back_4 : decode cX10_back 4 = .ok (.invokestatic 80, 3) := by decide +kernel
theorem dX10_back_7 : decode cX10_back 7 = .ok (.ifCond .ne 5, 3) := by decide +kernel
theorem dX10_back_10 : decode cX10_back 10 = .ok (.iconst (-1), 1) := by decide +kernel
theorem dX10_back_11 : decode cX10_back 11 = .ok (.ireturn, 1) := by decide +kernel
theorem dX10_back_12 : decode cX10_back 12 = .ok (.aload_n 0, 1) := by decide +kernel
theorem dX10_back_13 : decode cX10_back 13 = .ok (.getfield 19, 3) := by decide +kernel
theorem dX10_back_16 : decode cX10_back 16 = .ok (.iload_n 1, 1) := by decide +kernel
theorem dX10_back_17 : decode cX10_back 17 = .ok (.baload, 1) := by decide +kernel
theorem dX10_back_18 : decode cX10_back 18 = .ok (.ifCond .ne 6, 3) := by decide +kernel
theorem dX10_back_21 : decode cX10_back 21 = .ok (.bipush (-2), 2) := by decide +kernel
theorem dX10_back_23 : decode cX10_back 23 = .ok (.ireturn, 1) := by decide +kernel
theorem dX10_back_24 : decode cX10_back 24 = .ok (.aload_n 0, 1) := by decide +kernel
theorem dX10_back_25 : decode cX10_back 25 = .ok (.iconst 2, 1) := by decide +kernel
theorem dX10_back_26 : decode cX10_back 26 = .ok (.iload_n 1, 1) := by decide +kernel
theorem dX10_back_27 : decode cX10_back 27 = .ok (.iadd, 1) := by decide +kernel
theorem dX10_back_28 : decode cX10_back 28 = .ok (.iconst 1, 1) := by decide +kernel
theorem dX10_back_29 : decode cX10_back 29 = .ok (.invokevirtual 74, 3) := by decide +kernel
theorem dX10_back_32 : decode cX10_back 32 = .ok (.aload_n 0, 1) := by decide +kernel
theorem dX10_back_33 : decode cX10_back 33 = .ok (.iconst 1, 1) := by decide +kernel
theorem dX10_back_34 : decode cX10_back 34 = .ok (.invokevirtual 172, 3) := by decide +kernel
theorem dX10_back_37 : decode cX10_back 37 = .ok (.ireturn, 1) := by decide +kernel
theorem dX10_isSheet_0 : decode cX10_isSheet 0 = .ok (.iload_n 0, 1) := by decide +kernel
theorem dX10_isSheet_1 : decode cX10_isSheet 1 = .ok (.i2l, 1) := by decide +kernel
theorem dX10_isSheet_2 : decode cX10_isSheet 2 = .ok (.lconst 0, 1) := by decide +kernel
theorem dX10_isSheet_3 : decode cX10_isSheet 3 = .ok (.ldc2_w 186, 3) := by decide +kernel
theorem dX10_isSheet_6 : decode cX10_isSheet 6 = .ok (.invokestatic 80, 3) := by decide +kernel
theorem dX10_isSheet_9 : decode cX10_isSheet 9 = .ok (.ifCond .eq 19, 3) := by decide +kernel
theorem dX10_isSheet_12 : decode cX10_isSheet 12 = .ok (.iload_n 1, 1) := by decide +kernel
theorem dX10_isSheet_13 : decode cX10_isSheet 13 = .ok (.i2l, 1) := by decide +kernel
theorem dX10_isSheet_14 : decode cX10_isSheet 14 = .ok (.lconst 0, 1) := by decide +kernel
theorem dX10_isSheet_15 : decode cX10_isSheet 15 = .ok (.ldc2_w 202, 3) := by decide +kernel
theorem dX10_isSheet_18 : decode cX10_isSheet 18 = .ok (.invokestatic 80, 3) := by decide +kernel
theorem dX10_isSheet_21 : decode cX10_isSheet 21 = .ok (.ifCond .eq 7, 3) := by decide +kernel
theorem dX10_isSheet_24 : decode cX10_isSheet 24 = .ok (.iconst 1, 1) := by decide +kernel
theorem dX10_isSheet_25 : decode cX10_isSheet 25 = .ok (.goto 4, 3) := by decide +kernel
theorem dX10_isSheet_28 : decode cX10_isSheet 28 = .ok (.iconst 0, 1) := by decide +kernel
theorem dX10_isSheet_29 : decode cX10_isSheet 29 = .ok (.ireturn, 1) := by decide +kernel
theorem dX10_sheet_0 : decode cX10_sheet 0 = .ok (.iload_n 1, 1) := by decide +kernel
theorem dX10_sheet_1 : decode cX10_sheet 1 = .ok (.iload_n 2, 1) := by decide +kernel
theorem dX10_sheet_2 : decode cX10_sheet 2 = .ok (.invokestatic 367, 3) := by decide +kernel
theorem dX10_sheet_5 : decode cX10_sheet 5 = .ok (.ifCond .eq 9, 3) := by decide +kernel
theorem dX10_sheet_8 : decode cX10_sheet 8 = .ok (.iload_n 3, 1) := by decide +kernel
theorem dX10_sheet_9 : decode cX10_sheet 9 = .ok (.bipush 40, 2) := by decide +kernel
theorem dX10_sheet_11 : decode cX10_sheet 11 = .ok (.if_icmp .le 5, 3) := by decide +kernel
theorem dX10_sheet_14 : decode cX10_sheet 14 = .ok (.iconst (-1), 1) := by decide +kernel
theorem dX10_sheet_15 : decode cX10_sheet 15 = .ok (.ireturn, 1) := by decide +kernel
theorem dX10_sheet_16 : decode cX10_sheet 16 = .ok (.iload_n 3, 1) := by decide +kernel
theorem dX10_sheet_17 : decode cX10_sheet 17 = .ok (.ifCond .ge 6, 3) := by decide +kernel
theorem dX10_sheet_20 : decode cX10_sheet 20 = .ok (.bipush (-14), 2) := by decide +kernel
theorem dX10_sheet_22 : decode cX10_sheet 22 = .ok (.ireturn, 1) := by decide +kernel
theorem dX10_sheet_23 : decode cX10_sheet 23 = .ok (.aload_n 0, 1) := by decide +kernel
theorem dX10_sheet_24 : decode cX10_sheet 24 = .ok (.getfield 61, 3) := by decide +kernel
theorem dX10_sheet_27 : decode cX10_sheet 27 = .ok (.iload_n 1, 1) := by decide +kernel
theorem dX10_sheet_28 : decode cX10_sheet 28 = .ok (.iload_n 2, 1) := by decide +kernel
theorem dX10_sheet_29 : decode cX10_sheet 29 = .ok (.iastore, 1) := by decide +kernel
theorem dX10_sheet_30 : decode cX10_sheet 30 = .ok (.aload_n 0, 1) := by decide +kernel
theorem dX10_sheet_31 : decode cX10_sheet 31 = .ok (.getfield 64, 3) := by decide +kernel
theorem dX10_sheet_34 : decode cX10_sheet 34 = .ok (.iload_n 1, 1) := by decide +kernel
theorem dX10_sheet_35 : decode cX10_sheet 35 = .ok (.iload_n 3, 1) := by decide +kernel
theorem dX10_sheet_36 : decode cX10_sheet 36 = .ok (.iastore, 1) := by decide +kernel
theorem dX10_sheet_37 : decode cX10_sheet 37 = .ok (.iconst 0, 1) := by decide +kernel
