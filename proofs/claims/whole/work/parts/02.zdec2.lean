theorem dX9_block_14 : decode cX9_block 14 = .ok (.ifCond .eq 15, 3) := by decide +kernel
theorem dX9_block_17 : decode cX9_block 17 = .ok (.aload_n 0, 1) := by decide +kernel
theorem dX9_block_18 : decode cX9_block 18 = .ok (.iload_n 1, 1) := by decide +kernel
theorem dX9_block_19 : decode cX9_block 19 = .ok (.invokevirtual 123, 3) := by decide +kernel
theorem dX9_block_22 : decode cX9_block 22 = .ok (.iload_n 2, 1) := by decide +kernel
theorem dX9_block_23 : decode cX9_block 23 = .ok (.invokevirtual 156, 3) := by decide +kernel
theorem dX9_block_26 : decode cX9_block 26 = .ok (.ifCond .ne 5, 3) := by decide +kernel
theorem dX9_block_29 : decode cX9_block 29 = .ok (.iconst (-1), 1) := by decide +kernel
theorem dX9_block_30 : decode cX9_block 30 = .ok (.ireturn, 1) := by decide +kernel
theorem dX9_block_31 : decode cX9_block 31 = .ok (.aload_n 0, 1) := by decide +kernel
theorem dX9_block_32 : decode cX9_block 32 = .ok (.iload_n 1, 1) := by decide +kernel
theorem dX9_block_33 : decode cX9_block 33 = .ok (.invokevirtual 123, 3) := by decide +kernel
theorem dX9_block_36 : decode cX9_block 36 = .ok (.iload_n 2, 1) := by decide +kernel
theorem dX9_block_37 : decode cX9_block 37 = .ok (.invokevirtual 159, 3) := by decide +kernel
theorem dX9_block_40 : decode cX9_block 40 = .ok (.astore 4, 2) := by decide +kernel
theorem dX9_block_42 : decode cX9_block 42 = .ok (.iload_n 3, 1) := by decide +kernel
theorem dX9_block_43 : decode cX9_block 43 = .ok (.tableswitch 105 0 7 #[45, 51, 57, 78, 105, 105, 105, 99], 45) := by decide +kernel
theorem dX9_block_88 : decode cX9_block 88 = .ok (.aload 4, 2) := by decide +kernel
theorem dX9_block_90 : decode cX9_block 90 = .ok (.getfield 163, 3) := by decide +kernel
theorem dX9_block_93 : decode cX9_block 93 = .ok (.ireturn, 1) := by decide +kernel
theorem dX9_block_94 : decode cX9_block 94 = .ok (.aload 4, 2) := by decide +kernel
theorem dX9_block_96 : decode cX9_block 96 = .ok (.getfield 168, 3) := by decide +kernel
theorem dX9_block_99 : decode cX9_block 99 = .ok (.ireturn, 1) := by decide +kernel
theorem dX9_block_100 : decode cX9_block 100 = .ok (.aload 4, 2) := by decide +kernel
theorem dX9_block_102 : decode cX9_block 102 = .ok (.iconst 0, 1) := by decide +kernel
theorem dX9_block_103 : decode cX9_block 103 = .ok (.invokevirtual 171, 3) := by decide +kernel
theorem dX9_block_106 : decode cX9_block 106 = .ok (.ifCond .eq 12, 3) := by decide +kernel
theorem dX9_block_109 : decode cX9_block 109 = .ok (.aload 4, 2) := by decide +kernel
theorem dX9_block_111 : decode cX9_block 111 = .ok (.iconst 0, 1) := by decide +kernel
theorem dX9_block_112 : decode cX9_block 112 = .ok (.invokevirtual 174, 3) := by decide +kernel
theorem dX9_block_115 : decode cX9_block 115 = .ok (.goto 5, 3) := by decide +kernel
theorem dX9_block_118 : decode cX9_block 118 = .ok (.bipush (-4), 2) := by decide +kernel
theorem dX9_block_120 : decode cX9_block 120 = .ok (.ireturn, 1) := by decide +kernel
theorem dX9_block_121 : decode cX9_block 121 = .ok (.aload 4, 2) := by decide +kernel
theorem dX9_block_123 : decode cX9_block 123 = .ok (.iconst 1, 1) := by decide +kernel
theorem dX9_block_124 : decode cX9_block 124 = .ok (.invokevirtual 171, 3) := by decide +kernel
theorem dX9_block_127 : decode cX9_block 127 = .ok (.ifCond .eq 12, 3) := by decide +kernel
theorem dX9_block_130 : decode cX9_block 130 = .ok (.aload 4, 2) := by decide +kernel
theorem dX9_block_132 : decode cX9_block 132 = .ok (.iconst 1, 1) := by decide +kernel
theorem dX9_block_133 : decode cX9_block 133 = .ok (.invokevirtual 174, 3) := by decide +kernel
theorem dX9_block_136 : decode cX9_block 136 = .ok (.goto 5, 3) := by decide +kernel
theorem dX9_block_139 : decode cX9_block 139 = .ok (.bipush (-4), 2) := by decide +kernel
theorem dX9_block_141 : decode cX9_block 141 = .ok (.ireturn, 1) := by decide +kernel
theorem dX9_block_142 : decode cX9_block 142 = .ok (.aload 4, 2) := by decide +kernel
theorem dX9_block_144 : decode cX9_block 144 = .ok (.getfield 177, 3) := by decide +kernel
theorem dX9_block_147 : decode cX9_block 147 = .ok (.ireturn, 1) := by decide +kernel
theorem dX9_block_148 : decode cX9_block 148 = .ok (.aload 4, 2) := by decide +kernel
theorem dX9_block_150 : decode cX9_block 150 = .ok (.invokevirtual 180, 3) := by decide +kernel
theorem dX9_block_153 : decode cX9_block 153 = .ok (.ifCond .eq 12, 3) := by decide +kernel
theorem dX9_block_156 : decode cX9_block 156 = .ok (.aload 4, 2) := by decide +kernel
theorem dX9_block_158 : decode cX9_block 158 = .ok (.iload_n 3, 1) := by decide +kernel
theorem dX9_block_159 : decode cX9_block 159 = .ok (.invokevirtual 184, 3) := by decide +kernel
theorem dX9_block_162 : decode cX9_block 162 = .ok (.goto 5, 3) := by decide +kernel
theorem dX9_block_165 : decode cX9_block 165 = .ok (.bipush (-4), 2) := by decide +kernel
theorem dX9_block_167 : decode cX9_block 167 = .ok (.ireturn, 1) := by decide +kernel
theorem dX9_act_0 : decode cX9_act 0 = .ok (.iload_n 1, 1) := by decide +kernel
theorem dX9_act_1 : decode cX9_act 1 = .ok (.iconst 1, 1) := by decide +kernel
theorem dX9_act_2 : decode cX9_act 2 = .ok (.invokestatic 92, 3) := by decide +kernel
theorem dX9_act_5 : decode cX9_act 5 = .ok (.ifCond .eq 28, 3) := by decide +kernel
theorem dX9_act_8 : decode cX9_act 8 = .ok (.iload 4, 2) := by decide +kernel
theorem dX9_act_10 : decode cX9_act 10 = .ok (.iconst 2, 1) := by decide +kernel
theorem dX9_act_11 : decode cX9_act 11 = .ok (.invokestatic 92, 3) := by decide +kernel
theorem dX9_act_14 : decode cX9_act 14 = .ok (.ifCond .eq 19, 3) := by decide +kernel
theorem dX9_act_17 : decode cX9_act 17 = .ok (.aload_n 0, 1) := by decide +kernel
theorem dX9_act_18 : decode cX9_act 18 = .ok (.iload_n 1, 1) := by decide +kernel
theorem dX9_act_19 : decode cX9_act 19 = .ok (.invokevirtual 123, 3) := by decide +kernel
theorem dX9_act_22 : decode cX9_act 22 = .ok (.iload_n 2, 1) := by decide +kernel
theorem dX9_act_23 : decode cX9_act 23 = .ok (.invokevirtual 156, 3) := by decide +kernel
theorem dX9_act_26 : decode cX9_act 26 = .ok (.ifCond .eq 7, 3) := by decide +kernel
theorem dX9_act_29 : decode cX9_act 29 = .ok (.iload_n 3, 1) := by decide +kernel
theorem dX9_act_30 : decode cX9_act 30 = .ok (.ifCond .ge 5, 3) := by decide +kernel
theorem dX9_act_33 : decode cX9_act 33 = .ok (.iconst (-1), 1) := by decide +kernel
theorem dX9_act_34 : decode cX9_act 34 = .ok (.ireturn, 1) := by decide +kernel
theorem dX9_act_35 : decode cX9_act 35 = .ok (.aload_n 0, 1) := by decide +kernel
theorem dX9_act_36 : decode cX9_act 36 = .ok (.iload_n 1, 1) := by decide +kernel
theorem dX9_act_37 : decode cX9_act 37 = .ok (.invokevirtual 123, 3) := by decide +kernel
theorem dX9_act_40 : decode cX9_act 40 = .ok (.iload_n 2, 1) := by decide +kernel
theorem dX9_act_41 : decode cX9_act 41 = .ok (.invokevirtual 159, 3) := by decide +kernel
theorem dX9_act_44 : decode cX9_act 44 = .ok (.iload_n 3, 1) := by decide +kernel
theorem dX9_act_45 : decode cX9_act 45 = .ok (.iload 4, 2) := by decide +kernel
theorem dX9_act_47 : decode cX9_act 47 = .ok (.invokevirtual 187, 3) := by decide +kernel
theorem dX9_act_50 : decode cX9_act 50 = .ok (.ireturn, 1) := by decide +kernel
theorem dX9_range_0 : decode cX9_range 0 = .ok (.aload_n 0, 1) := by decide +kernel
theorem dX9_range_1 : decode cX9_range 1 = .ok (.getfield 28, 3) := by decide +kernel
theorem dX9_range_4 : decode cX9_range 4 = .ok (.iload_n 1, 1) := by decide +kernel
theorem dX9_range_5 : decode cX9_range 5 = .ok (.invokevirtual 156, 3) := by decide +kernel
theorem dX9_range_8 : decode cX9_range 8 = .ok (.ifCond .eq 18, 3) := by decide +kernel
theorem dX9_range_11 : decode cX9_range 11 = .ok (.iload_n 2, 1) := by decide +kernel
theorem dX9_range_12 : decode cX9_range 12 = .ok (.invokestatic 191, 3) := by decide +kernel
theorem dX9_range_15 : decode cX9_range 15 = .ok (.ifCond .eq 11, 3) := by decide +kernel
theorem dX9_range_18 : decode cX9_range 18 = .ok (.iload_n 3, 1) := by decide +kernel
theorem dX9_range_19 : decode cX9_range 19 = .ok (.iconst 2, 1) := by decide +kernel
theorem dX9_range_20 : decode cX9_range 20 = .ok (.invokestatic 92, 3) := by decide +kernel
theorem dX9_range_23 : decode cX9_range 23 = .ok (.ifCond .ne 5, 3) := by decide +kernel
theorem dX9_range_26 : decode cX9_range 26 = .ok (.iconst (-1), 1) := by decide +kernel
theorem dX9_range_27 : decode cX9_range 27 = .ok (.ireturn, 1) := by decide +kernel
theorem dX9_range_28 : decode cX9_range 28 = .ok (.aload_n 0, 1) := by decide +kernel
theorem dX9_range_29 : decode cX9_range 29 = .ok (.invokevirtual 131, 3) := by decide +kernel
theorem dX9_range_32 : decode cX9_range 32 = .ok (.aload_n 0, 1) := by decide +kernel
theorem dX9_range_33 : decode cX9_range 33 = .ok (.getfield 42, 3) := by decide +kernel
theorem dX9_range_36 : decode cX9_range 36 = .ok (.iload_n 1, 1) := by decide +kernel
theorem dX9_range_37 : decode cX9_range 37 = .ok (.invokevirtual 194, 3) := by decide +kernel
theorem dX9_range_40 : decode cX9_range 40 = .ok (.ifCond .eq 20, 3) := by decide +kernel
theorem dX9_range_43 : decode cX9_range 43 = .ok (.aload_n 0, 1) := by decide +kernel
theorem dX9_range_44 : decode cX9_range 44 = .ok (.getfield 42, 3) := by decide +kernel
theorem dX9_range_47 : decode cX9_range 47 = .ok (.getfield 197, 3) := by decide +kernel
theorem dX9_range_50 : decode cX9_range 50 = .ok (.iload_n 1, 1) := by decide +kernel
theorem dX9_range_51 : decode cX9_range 51 = .ok (.aaload, 1) := by decide +kernel
theorem dX9_range_52 : decode cX9_range 52 = .ok (.iload_n 2, 1) := by decide +kernel
theorem dX9_range_53 : decode cX9_range 53 = .ok (.iload_n 3, 1) := by decide +kernel
theorem dX9_range_54 : decode cX9_range 54 = .ok (.invokevirtual 201, 3) := by decide +kernel
theorem dX9_range_57 : decode cX9_range 57 = .ok (.goto 5, 3) := by decide +kernel
theorem dX9_range_60 : decode cX9_range 60 = .ok (.bipush (-2), 2) := by decide +kernel
theorem dX9_range_62 : decode cX9_range 62 = .ok (.ireturn, 1) := by decide +kernel
theorem dX9_along_0 : decode cX9_along 0 = .ok (.aload_n 0, 1) := by decide +kernel
theorem dX9_along_1 : decode cX9_along 1 = .ok (.getfield 28, 3) := by decide +kernel
theorem dX9_along_4 : decode cX9_along 4 = .ok (.iload_n 1, 1) := by decide +kernel
theorem dX9_along_5 : decode cX9_along 5 = .ok (.iload_n 2, 1) := by decide +kernel
theorem dX9_along_6 : decode cX9_along 6 = .ok (.invokevirtual 206, 3) := by decide +kernel
theorem dX9_along_9 : decode cX9_along 9 = .ok (.ifCond .eq 19, 3) := by decide +kernel
theorem dX9_along_12 : decode cX9_along 12 = .ok (.iload_n 3, 1) := by decide +kernel
theorem dX9_along_13 : decode cX9_along 13 = .ok (.invokestatic 191, 3) := by decide +kernel
theorem dX9_along_16 : decode cX9_along 16 = .ok (.ifCond .eq 12, 3) := by decide +kernel
theorem dX9_along_19 : decode cX9_along 19 = .ok (.iload 4, 2) := by decide +kernel
theorem dX9_along_21 : decode cX9_along 21 = .ok (.iconst 2, 1) := by decide +kernel
theorem dX9_along_22 : decode cX9_along 22 = .ok (.invokestatic 92, 3) := by decide +kernel
theorem dX9_along_25 : decode cX9_along 25 = .ok (.ifCond .ne 5, 3) := by decide +kernel
theorem dX9_along_28 : decode cX9_along 28 = .ok (.iconst (-1), 1) := by decide +kernel
theorem dX9_along_29 : decode cX9_along 29 = .ok (.ireturn, 1) := by decide +kernel
theorem dX9_along_30 : decode cX9_along 30 = .ok (.aload_n 0, 1) := by decide +kernel
theorem dX9_along_31 : decode cX9_along 31 = .ok (.invokevirtual 131, 3) := by decide +kernel
theorem dX9_along_34 : decode cX9_along 34 = .ok (.aload_n 0, 1) := by decide +kernel
theorem dX9_along_35 : decode cX9_along 35 = .ok (.getfield 42, 3) := by decide +kernel
theorem dX9_along_38 : decode cX9_along 38 = .ok (.iload_n 1, 1) := by decide +kernel
theorem dX9_along_39 : decode cX9_along 39 = .ok (.iload_n 2, 1) := by decide +kernel
theorem dX9_along_40 : decode cX9_along 40 = .ok (.invokevirtual 208, 3) := by decide +kernel
theorem dX9_along_43 : decode cX9_along 43 = .ok (.ifCond .eq 25, 3) := by decide +kernel
theorem dX9_along_46 : decode cX9_along 46 = .ok (.aload_n 0, 1) := by decide +kernel
theorem dX9_along_47 : decode cX9_along 47 = .ok (.getfield 42, 3) := by decide +kernel
theorem dX9_along_50 : decode cX9_along 50 = .ok (.getfield 211, 3) := by decide +kernel
theorem dX9_along_53 : decode cX9_along 53 = .ok (.iconst 2, 1) := by decide +kernel
theorem dX9_along_54 : decode cX9_along 54 = .ok (.iload_n 1, 1) := by decide +kernel
theorem dX9_along_55 : decode cX9_along 55 = .ok (.imul, 1) := by decide +kernel
theorem dX9_along_56 : decode cX9_along 56 = .ok (.iload_n 2, 1) := by decide +kernel
theorem dX9_along_57 : decode cX9_along 57 = .ok (.iadd, 1) := by decide +kernel
theorem dX9_along_58 : decode cX9_along 58 = .ok (.aaload, 1) := by decide +kernel
theorem dX9_along_59 : decode cX9_along 59 = .ok (.iload_n 3, 1) := by decide +kernel
theorem dX9_along_60 : decode cX9_along 60 = .ok (.iload 4, 2) := by decide +kernel
theorem dX9_along_62 : decode cX9_along 62 = .ok (.invokevirtual 201, 3) := by decide +kernel
theorem dX9_along_65 : decode cX9_along 65 = .ok (.goto 5, 3) := by decide +kernel
theorem dX9_along_68 : decode cX9_along 68 = .ok (.bipush (-2), 2) := by decide +kernel
theorem dX9_along_70 : decode cX9_along 70 = .ok (.ireturn, 1) := by decide +kernel
theorem dX9_outcome_0 : decode cX9_outcome 0 = .ok (.aload_n 0, 1) := by decide +kernel
theorem dX9_outcome_1 : decode cX9_outcome 1 = .ok (.getfield 28, 3) := by decide +kernel
theorem dX9_outcome_4 : decode cX9_outcome 4 = .ok (.iload_n 1, 1) := by decide +kernel
theorem dX9_outcome_5 : decode cX9_outcome 5 = .ok (.invokevirtual 156, 3) := by decide +kernel
theorem dX9_outcome_8 : decode cX9_outcome 8 = .ok (.ifCond .ne 5, 3) := by decide +kernel
theorem dX9_outcome_11 : decode cX9_outcome 11 = .ok (.iconst (-1), 1) := by decide +kernel
theorem dX9_outcome_12 : decode cX9_outcome 12 = .ok (.ireturn, 1) := by decide +kernel
theorem dX9_outcome_13 : decode cX9_outcome 13 = .ok (.aload_n 0, 1) := by decide +kernel
theorem dX9_outcome_14 : decode cX9_outcome 14 = .ok (.invokevirtual 131, 3) := by decide +kernel
theorem dX9_outcome_17 : decode cX9_outcome 17 = .ok (.aload_n 0, 1) := by decide +kernel
theorem dX9_outcome_18 : decode cX9_outcome 18 = .ok (.getfield 42, 3) := by decide +kernel
theorem dX9_outcome_21 : decode cX9_outcome 21 = .ok (.iload_n 1, 1) := by decide +kernel
theorem dX9_outcome_22 : decode cX9_outcome 22 = .ok (.invokevirtual 194, 3) := by decide +kernel
theorem dX9_outcome_25 : decode cX9_outcome 25 = .ok (.ifCond .ne 6, 3) := by decide +kernel
theorem dX9_outcome_28 : decode cX9_outcome 28 = .ok (.bipush (-2), 2) := by decide +kernel
theorem dX9_outcome_30 : decode cX9_outcome 30 = .ok (.ireturn, 1) := by decide +kernel
theorem dX9_outcome_31 : decode cX9_outcome 31 = .ok (.aload_n 0, 1) := by decide +kernel
theorem dX9_outcome_32 : decode cX9_outcome 32 = .ok (.getfield 28, 3) := by decide +kernel
theorem dX9_outcome_35 : decode cX9_outcome 35 = .ok (.iload_n 1, 1) := by decide +kernel
theorem dX9_outcome_36 : decode cX9_outcome 36 = .ok (.invokevirtual 159, 3) := by decide +kernel
theorem dX9_outcome_39 : decode cX9_outcome 39 = .ok (.invokevirtual 180, 3) := by decide +kernel
theorem dX9_outcome_42 : decode cX9_outcome 42 = .ok (.ifCond .eq 14, 3) := by decide +kernel
theorem dX9_outcome_45 : decode cX9_outcome 45 = .ok (.aload_n 0, 1) := by decide +kernel
theorem dX9_outcome_46 : decode cX9_outcome 46 = .ok (.getfield 42, 3) := by decide +kernel
theorem dX9_outcome_49 : decode cX9_outcome 49 = .ok (.iload_n 1, 1) := by decide +kernel
theorem dX9_outcome_50 : decode cX9_outcome 50 = .ok (.invokevirtual 214, 3) := by decide +kernel
theorem dX9_outcome_53 : decode cX9_outcome 53 = .ok (.goto 5, 3) := by decide +kernel
theorem dX9_outcome_56 : decode cX9_outcome 56 = .ok (.bipush (-4), 2) := by decide +kernel
theorem dX9_outcome_58 : decode cX9_outcome 58 = .ok (.ireturn, 1) := by decide +kernel
theorem dX9_known_0 : decode cX9_known 0 = .ok (.aload_n 0, 1) := by decide +kernel
theorem dX9_known_1 : decode cX9_known 1 = .ok (.getfield 28, 3) := by decide +kernel
theorem dX9_known_4 : decode cX9_known 4 = .ok (.iload_n 1, 1) := by decide +kernel
theorem dX9_known_5 : decode cX9_known 5 = .ok (.iload_n 2, 1) := by decide +kernel
theorem dX9_known_6 : decode cX9_known 6 = .ok (.invokevirtual 206, 3) := by decide +kernel
theorem dX9_known_9 : decode cX9_known 9 = .ok (.ifCond .ne 5, 3) := by decide +kernel
theorem dX9_known_12 : decode cX9_known 12 = .ok (.iconst (-1), 1) := by decide +kernel
theorem dX9_known_13 : decode cX9_known 13 = .ok (.ireturn, 1) := by decide +kernel
theorem dX9_known_14 : decode cX9_known 14 = .ok (.aload_n 0, 1) := by decide +kernel
theorem dX9_known_15 : decode cX9_known 15 = .ok (.invokevirtual 131, 3) := by decide +kernel
theorem dX9_known_18 : decode cX9_known 18 = .ok (.aload_n 0, 1) := by decide +kernel
theorem dX9_known_19 : decode cX9_known 19 = .ok (.getfield 42, 3) := by decide +kernel
theorem dX9_known_22 : decode cX9_known 22 = .ok (.iload_n 1, 1) := by decide +kernel
theorem dX9_known_23 : decode cX9_known 23 = .ok (.iload_n 2, 1) := by decide +kernel
theorem dX9_known_24 : decode cX9_known 24 = .ok (.invokevirtual 208, 3) := by decide +kernel
theorem dX9_known_27 : decode cX9_known 27 = .ok (.ifCond .ne 6, 3) := by decide +kernel
theorem dX9_known_30 : decode cX9_known 30 = .ok (.bipush (-2), 2) := by decide +kernel
theorem dX9_known_32 : decode cX9_known 32 = .ok (.ireturn, 1) := by decide +kernel
theorem dX9_known_33 : decode cX9_known 33 = .ok (.aload_n 0, 1) := by decide +kernel
theorem dX9_known_34 : decode cX9_known 34 = .ok (.getfield 28, 3) := by decide +kernel
theorem dX9_known_37 : decode cX9_known 37 = .ok (.aload_n 0, 1) := by decide +kernel
theorem dX9_known_38 : decode cX9_known 38 = .ok (.getfield 28, 3) := by decide +kernel
theorem dX9_known_41 : decode cX9_known 41 = .ok (.iload_n 1, 1) := by decide +kernel
theorem dX9_known_42 : decode cX9_known 42 = .ok (.invokevirtual 159, 3) := by decide +kernel
theorem dX9_known_45 : decode cX9_known 45 = .ok (.iload_n 2, 1) := by decide +kernel
theorem dX9_known_46 : decode cX9_known 46 = .ok (.invokevirtual 174, 3) := by decide +kernel
theorem dX9_known_49 : decode cX9_known 49 = .ok (.invokevirtual 159, 3) := by decide +kernel
theorem dX9_known_52 : decode cX9_known 52 = .ok (.astore_n 3, 1) := by decide +kernel
theorem dX9_known_53 : decode cX9_known 53 = .ok (.aload_n 3, 1) := by decide +kernel
theorem dX9_known_54 : decode cX9_known 54 = .ok (.invokevirtual 180, 3) := by decide +kernel
theorem dX9_known_57 : decode cX9_known 57 = .ok (.ifCond .eq 15, 3) := by decide +kernel
theorem dX9_known_60 : decode cX9_known 60 = .ok (.aload_n 0, 1) := by decide +kernel
theorem dX9_known_61 : decode cX9_known 61 = .ok (.getfield 42, 3) := by decide +kernel
theorem dX9_known_64 : decode cX9_known 64 = .ok (.iload_n 1, 1) := by decide +kernel
theorem dX9_known_65 : decode cX9_known 65 = .ok (.iload_n 2, 1) := by decide +kernel
theorem dX9_known_66 : decode cX9_known 66 = .ok (.invokevirtual 217, 3) := by decide +kernel
theorem dX9_known_69 : decode cX9_known 69 = .ok (.goto 5, 3) := by decide +kernel
theorem dX9_known_72 : decode cX9_known 72 = .ok (.bipush (-4), 2) := by decide +kernel
theorem dX9_known_74 : decode cX9_known 74 = .ok (.ireturn, 1) := by decide +kernel
theorem dX9_why_0 : decode cX9_why 0 = .ok (.aload_n 0, 1) := by decide +kernel
theorem dX9_why_1 : decode cX9_why 1 = .ok (.getfield 28, 3) := by decide +kernel
theorem dX9_why_4 : decode cX9_why 4 = .ok (.iload_n 1, 1) := by decide +kernel
theorem dX9_why_5 : decode cX9_why 5 = .ok (.iload_n 2, 1) := by decide +kernel
theorem dX9_why_6 : decode cX9_why 6 = .ok (.invokevirtual 206, 3) := by decide +kernel
theorem dX9_why_9 : decode cX9_why 9 = .ok (.ifCond .ne 5, 3) := by decide +kernel
theorem dX9_why_12 : decode cX9_why 12 = .ok (.iconst (-1), 1) := by decide +kernel
theorem dX9_why_13 : decode cX9_why 13 = .ok (.ireturn, 1) := by decide +kernel
theorem dX9_why_14 : decode cX9_why 14 = .ok (.aload_n 0, 1) := by decide +kernel
theorem dX9_why_15 : decode cX9_why 15 = .ok (.invokevirtual 131, 3) := by decide +kernel
theorem dX9_why_18 : decode cX9_why 18 = .ok (.aload_n 0, 1) := by decide +kernel
theorem dX9_why_19 : decode cX9_why 19 = .ok (.iload_n 1, 1) := by decide +kernel
theorem dX9_why_20 : decode cX9_why 20 = .ok (.iload_n 2, 1) := by decide +kernel
theorem dX9_why_21 : decode cX9_why 21 = .ok (.invokevirtual 220, 3) := by decide +kernel
theorem dX9_why_24 : decode cX9_why 24 = .ok (.ireturn, 1) := by decide +kernel
theorem dX9_dominates_0 : decode cX9_dominates 0 = .ok (.aload_n 0, 1) := by decide +kernel
theorem dX9_dominates_1 : decode cX9_dominates 1 = .ok (.getfield 28, 3) := by decide +kernel
theorem dX9_dominates_4 : decode cX9_dominates 4 = .ok (.iload_n 1, 1) := by decide +kernel
theorem dX9_dominates_5 : decode cX9_dominates 5 = .ok (.invokevirtual 156, 3) := by decide +kernel
theorem dX9_dominates_8 : decode cX9_dominates 8 = .ok (.ifCond .eq 14, 3) := by decide +kernel
theorem dX9_dominates_11 : decode cX9_dominates 11 = .ok (.aload_n 0, 1) := by decide +kernel
theorem dX9_dominates_12 : decode cX9_dominates 12 = .ok (.getfield 28, 3) := by decide +kernel
theorem dX9_dominates_15 : decode cX9_dominates 15 = .ok (.iload_n 2, 1) := by decide +kernel
theorem dX9_dominates_16 : decode cX9_dominates 16 = .ok (.invokevirtual 156, 3) := by decide +kernel
theorem dX9_dominates_19 : decode cX9_dominates 19 = .ok (.ifCond .ne 5, 3) := by decide +kernel
theorem dX9_dominates_22 : decode cX9_dominates 22 = .ok (.iconst (-1), 1) := by decide +kernel
theorem dX9_dominates_23 : decode cX9_dominates 23 = .ok (.ireturn, 1) := by decide +kernel
theorem dX9_dominates_24 : decode cX9_dominates 24 = .ok (.aload_n 0, 1) := by decide +kernel
theorem dX9_dominates_25 : decode cX9_dominates 25 = .ok (.invokevirtual 131, 3) := by decide +kernel
theorem dX9_dominates_28 : decode cX9_dominates 28 = .ok (.aload_n 0, 1) := by decide +kernel
theorem dX9_dominates_29 : decode cX9_dominates 29 = .ok (.getfield 49, 3) := by decide +kernel
theorem dX9_dominates_32 : decode cX9_dominates 32 = .ok (.iload_n 2, 1) := by decide +kernel
theorem dX9_dominates_33 : decode cX9_dominates 33 = .ok (.iload_n 1, 1) := by decide +kernel
theorem dX9_dominates_34 : decode cX9_dominates 34 = .ok (.invokevirtual 223, 3) := by decide +kernel
theorem dX9_dominates_37 : decode cX9_dominates 37 = .ok (.ifCond .eq 7, 3) := by decide +kernel
theorem dX9_dominates_40 : decode cX9_dominates 40 = .ok (.iconst 1, 1) := by decide +kernel
theorem dX9_dominates_41 : decode cX9_dominates 41 = .ok (.goto 4, 3) := by decide +kernel
theorem dX9_dominates_44 : decode cX9_dominates 44 = .ok (.iconst 0, 1) := by decide +kernel
theorem dX9_dominates_45 : decode cX9_dominates 45 = .ok (.ireturn, 1) := by decide +kernel
theorem dX9_loop_0 : decode cX9_loop 0 = .ok (.aload_n 0, 1) := by decide +kernel
theorem dX9_loop_1 : decode cX9_loop 1 = .ok (.getfield 28, 3) := by decide +kernel
theorem dX9_loop_4 : decode cX9_loop 4 = .ok (.iload_n 1, 1) := by decide +kernel
theorem dX9_loop_5 : decode cX9_loop 5 = .ok (.invokevirtual 156, 3) := by decide +kernel
theorem dX9_loop_8 : decode cX9_loop 8 = .ok (.ifCond .eq 11, 3) := by decide +kernel
theorem dX9_loop_11 : decode cX9_loop 11 = .ok (.iload_n 2, 1) := by decide +kernel
theorem dX9_loop_12 : decode cX9_loop 12 = .ok (.iconst 1, 1) := by decide +kernel
theorem dX9_loop_13 : decode cX9_loop 13 = .ok (.invokestatic 92, 3) := by decide +kernel
theorem dX9_loop_16 : decode cX9_loop 16 = .ok (.ifCond .ne 5, 3) := by decide +kernel
theorem dX9_loop_19 : decode cX9_loop 19 = .ok (.iconst (-1), 1) := by decide +kernel
theorem dX9_loop_20 : decode cX9_loop 20 = .ok (.ireturn, 1) := by decide +kernel
theorem dX9_loop_21 : decode cX9_loop 21 = .ok (.aload_n 0, 1) := by decide +kernel
theorem dX9_loop_22 : decode cX9_loop 22 = .ok (.invokevirtual 131, 3) := by decide +kernel
theorem dX9_loop_25 : decode cX9_loop 25 = .ok (.iload_n 2, 1) := by decide +kernel
theorem dX9_loop_26 : decode cX9_loop 26 = .ok (.ifCond .ne 20, 3) := by decide +kernel
theorem dX9_loop_29 : decode cX9_loop 29 = .ok (.aload_n 0, 1) := by decide +kernel
theorem dX9_loop_30 : decode cX9_loop 30 = .ok (.getfield 49, 3) := by decide +kernel
theorem dX9_loop_33 : decode cX9_loop 33 = .ok (.iload_n 1, 1) := by decide +kernel
theorem dX9_loop_34 : decode cX9_loop 34 = .ok (.invokevirtual 226, 3) := by decide +kernel
theorem dX9_loop_37 : decode cX9_loop 37 = .ok (.ifCond .eq 7, 3) := by decide +kernel
theorem dX9_loop_40 : decode cX9_loop 40 = .ok (.iconst 1, 1) := by decide +kernel
theorem dX9_loop_41 : decode cX9_loop 41 = .ok (.goto 4, 3) := by decide +kernel
theorem dX9_loop_44 : decode cX9_loop 44 = .ok (.iconst 0, 1) := by decide +kernel
theorem dX9_loop_45 : decode cX9_loop 45 = .ok (.ireturn, 1) := by decide +kernel
theorem dX9_loop_46 : decode cX9_loop 46 = .ok (.aload_n 0, 1) := by decide +kernel
theorem dX9_loop_47 : decode cX9_loop 47 = .ok (.getfield 49, 3) := by decide +kernel
theorem dX9_loop_50 : decode cX9_loop 50 = .ok (.iload_n 1, 1) := by decide +kernel
theorem dX9_loop_51 : decode cX9_loop 51 = .ok (.invokevirtual 229, 3) := by decide +kernel
theorem dX9_loop_54 : decode cX9_loop 54 = .ok (.ireturn, 1) := by decide +kernel
theorem dX9_thread_0 : decode cX9_thread 0 = .ok (.aload_n 0, 1) := by decide +kernel
theorem dX9_thread_1 : decode cX9_thread 1 = .ok (.getfield 28, 3) := by decide +kernel
theorem dX9_thread_4 : decode cX9_thread 4 = .ok (.iload_n 1, 1) := by decide +kernel
theorem dX9_thread_5 : decode cX9_thread 5 = .ok (.iload_n 2, 1) := by decide +kernel
theorem dX9_thread_6 : decode cX9_thread 6 = .ok (.invokevirtual 206, 3) := by decide +kernel
theorem dX9_thread_9 : decode cX9_thread 9 = .ok (.ifCond .ne 5, 3) := by decide +kernel
theorem dX9_thread_12 : decode cX9_thread 12 = .ok (.iconst (-1), 1) := by decide +kernel
theorem dX9_thread_13 : decode cX9_thread 13 = .ok (.ireturn, 1) := by decide +kernel
theorem dX9_thread_14 : decode cX9_thread 14 = .ok (.aload_n 0, 1) := by decide +kernel
theorem dX9_thread_15 : decode cX9_thread 15 = .ok (.invokevirtual 131, 3) := by decide +kernel
theorem dX9_thread_18 : decode cX9_thread 18 = .ok (.aload_n 0, 1) := by decide +kernel
theorem dX9_thread_19 : decode cX9_thread 19 = .ok (.iload_n 1, 1) := by decide +kernel
theorem dX9_thread_20 : decode cX9_thread 20 = .ok (.iload_n 2, 1) := by decide +kernel
theorem dX9_thread_21 : decode cX9_thread 21 = .ok (.invokevirtual 220, 3) := by decide +kernel
theorem dX9_thread_24 : decode cX9_thread 24 = .ok (.ifCond .eq 6, 3) := by decide +kernel
theorem dX9_thread_27 : decode cX9_thread 27 = .ok (.bipush (-2), 2) := by decide +kernel
theorem dX9_thread_29 : decode cX9_thread 29 = .ok (.ireturn, 1) := by decide +kernel
theorem dX9_thread_30 : decode cX9_thread 30 = .ok (.aload_n 0, 1) := by decide +kernel
theorem dX9_thread_31 : decode cX9_thread 31 = .ok (.iload_n 1, 1) := by decide +kernel
theorem dX9_thread_32 : decode cX9_thread 32 = .ok (.iload_n 2, 1) := by decide +kernel
theorem dX9_thread_33 : decode cX9_thread 33 = .ok (.invokevirtual 232, 3) := by decide +kernel
theorem dX9_thread_36 : decode cX9_thread 36 = .ok (.ireturn, 1) := by decide +kernel
theorem dX9_threads_0 : decode cX9_threads 0 = .ok (.iload_n 1, 1) := by decide +kernel
theorem dX9_threads_1 : decode cX9_threads 1 = .ok (.iconst 1, 1) := by decide +kernel
theorem dX9_threads_2 : decode cX9_threads 2 = .ok (.if_icmp .lt 9, 3) := by decide +kernel
theorem dX9_threads_5 : decode cX9_threads 5 = .ok (.iload_n 1, 1) := by decide +kernel
theorem dX9_threads_6 : decode cX9_threads 6 = .ok (.bipush 16, 2) := by decide +kernel
theorem dX9_threads_8 : decode cX9_threads 8 = .ok (.if_icmp .le 5, 3) := by decide +kernel
theorem dX9_threads_11 : decode cX9_threads 11 = .ok (.iconst (-1), 1) := by decide +kernel
theorem dX9_threads_12 : decode cX9_threads 12 = .ok (.ireturn, 1) := by decide +kernel
theorem dX9_threads_13 : decode cX9_threads 13 = .ok (.iconst 0, 1) := by decide +kernel
theorem dX9_threads_14 : decode cX9_threads 14 = .ok (.istore_n 2, 1) := by decide +kernel
theorem dX9_threads_15 : decode cX9_threads 15 = .ok (.iload_n 2, 1) := by decide +kernel
theorem dX9_threads_16 : decode cX9_threads 16 = .ok (.iload_n 1, 1) := by decide +kernel
theorem dX9_threads_17 : decode cX9_threads 17 = .ok (.if_icmp .ge 22, 3) := by decide +kernel
theorem dX9_threads_20 : decode cX9_threads 20 = .ok (.aload_n 0, 1) := by decide +kernel
theorem dX9_threads_21 : decode cX9_threads 21 = .ok (.invokevirtual 131, 3) := by decide +kernel
theorem dX9_threads_24 : decode cX9_threads 24 = .ok (.aload_n 0, 1) := by decide +kernel
theorem dX9_threads_25 : decode cX9_threads 25 = .ok (.invokevirtual 235, 3) := by decide +kernel
theorem dX9_threads_28 : decode cX9_threads 28 = .ok (.ifCond .ne 5, 3) := by decide +kernel
theorem dX9_threads_31 : decode cX9_threads 31 = .ok (.iload_n 2, 1) := by decide +kernel
theorem dX9_threads_32 : decode cX9_threads 32 = .ok (.ireturn, 1) := by decide +kernel
theorem dX9_threads_33 : decode cX9_threads 33 = .ok (.iinc 2 1, 3) := by decide +kernel
theorem dX9_threads_36 : decode cX9_threads 36 = .ok (.goto (-21), 3) := by decide +kernel
theorem dX9_threads_39 : decode cX9_threads 39 = .ok (.iload_n 1, 1) := by decide +kernel
theorem dX9_threads_40 : decode cX9_threads 40 = .ok (.ireturn, 1) := by decide +kernel
theorem dX9_fold_0 : decode cX9_fold 0 = .ok (.aload_n 0, 1) := by decide +kernel
theorem dX9_fold_1 : decode cX9_fold 1 = .ok (.invokevirtual 131, 3) := by decide +kernel
theorem dX9_fold_4 : decode cX9_fold 4 = .ok (.iconst 0, 1) := by decide +kernel
theorem dX9_fold_5 : decode cX9_fold 5 = .ok (.istore_n 1, 1) := by decide +kernel
theorem dX9_fold_6 : decode cX9_fold 6 = .ok (.iconst 0, 1) := by decide +kernel
theorem dX9_fold_7 : decode cX9_fold 7 = .ok (.istore_n 2, 1) := by decide +kernel
theorem dX9_fold_8 : decode cX9_fold 8 = .ok (.iload_n 2, 1) := by decide +kernel
theorem dX9_fold_9 : decode cX9_fold 9 = .ok (.aload_n 0, 1) := by decide +kernel
theorem dX9_fold_10 : decode cX9_fold 10 = .ok (.getfield 28, 3) := by decide +kernel
theorem dX9_fold_13 : decode cX9_fold 13 = .ok (.getfield 117, 3) := by decide +kernel
theorem dX9_fold_16 : decode cX9_fold 16 = .ok (.if_icmp .ge 67, 3) := by decide +kernel
theorem dX9_fold_19 : decode cX9_fold 19 = .ok (.aload_n 0, 1) := by decide +kernel
theorem dX9_fold_20 : decode cX9_fold 20 = .ok (.getfield 42, 3) := by decide +kernel
theorem dX9_fold_23 : decode cX9_fold 23 = .ok (.aload_n 0, 1) := by decide +kernel
theorem dX9_fold_24 : decode cX9_fold 24 = .ok (.getfield 28, 3) := by decide +kernel
theorem dX9_fold_27 : decode cX9_fold 27 = .ok (.iload_n 2, 1) := by decide +kernel
theorem dX9_fold_28 : decode cX9_fold 28 = .ok (.invokevirtual 238, 3) := by decide +kernel
theorem dX9_fold_31 : decode cX9_fold 31 = .ok (.ifCond .eq 14, 3) := by decide +kernel
theorem dX9_fold_34 : decode cX9_fold 34 = .ok (.aload_n 0, 1) := by decide +kernel
theorem dX9_fold_35 : decode cX9_fold 35 = .ok (.getfield 42, 3) := by decide +kernel
theorem dX9_fold_38 : decode cX9_fold 38 = .ok (.iload_n 2, 1) := by decide +kernel
theorem dX9_fold_39 : decode cX9_fold 39 = .ok (.invokevirtual 214, 3) := by decide +kernel
theorem dX9_fold_42 : decode cX9_fold 42 = .ok (.goto 4, 3) := by decide +kernel
theorem dX9_fold_45 : decode cX9_fold 45 = .ok (.iconst 0, 1) := by decide +kernel
theorem dX9_fold_46 : decode cX9_fold 46 = .ok (.istore_n 3, 1) := by decide +kernel
theorem dX9_fold_47 : decode cX9_fold 47 = .ok (.iload_n 3, 1) := by decide +kernel
theorem dX9_fold_48 : decode cX9_fold 48 = .ok (.ifCond .eq 29, 3) := by decide +kernel
theorem dX9_fold_51 : decode cX9_fold 51 = .ok (.aload_n 0, 1) := by decide +kernel
theorem dX9_fold_52 : decode cX9_fold 52 = .ok (.getfield 28, 3) := by decide +kernel
theorem dX9_fold_55 : decode cX9_fold 55 = .ok (.iload_n 2, 1) := by decide +kernel
theorem dX9_fold_56 : decode cX9_fold 56 = .ok (.invokevirtual 159, 3) := by decide +kernel
theorem dX9_fold_59 : decode cX9_fold 59 = .ok (.astore 4, 2) := by decide +kernel
theorem dX9_fold_61 : decode cX9_fold 61 = .ok (.aload 4, 2) := by decide +kernel
theorem dX9_fold_63 : decode cX9_fold 63 = .ok (.aload 4, 2) := by decide +kernel
theorem dX9_fold_65 : decode cX9_fold 65 = .ok (.iload_n 3, 1) := by decide +kernel
theorem dX9_fold_66 : decode cX9_fold 66 = .ok (.iconst 1, 1) := by decide +kernel
theorem dX9_fold_67 : decode cX9_fold 67 = .ok (.isub, 1) := by decide +kernel
theorem dX9_fold_68 : decode cX9_fold 68 = .ok (.invokevirtual 174, 3) := by decide +kernel
theorem dX9_fold_71 : decode cX9_fold 71 = .ok (.invokevirtual 242, 3) := by decide +kernel
theorem dX9_fold_74 : decode cX9_fold 74 = .ok (.iinc 1 1, 3) := by decide +kernel
theorem dX9_fold_77 : decode cX9_fold 77 = .ok (.iinc 2 1, 3) := by decide +kernel
theorem dX9_fold_80 : decode cX9_fold 80 = .ok (.goto (-72), 3) := by decide +kernel
theorem dX9_fold_83 : decode cX9_fold 83 = .ok (.aload_n 0, 1) := by decide +kernel
theorem dX9_fold_84 : decode cX9_fold 84 = .ok (.aload_n 0, 1) := by decide +kernel
theorem dX9_fold_85 : decode cX9_fold 85 = .ok (.getfield 87, 3) := by decide +kernel
theorem dX9_fold_88 : decode cX9_fold 88 = .ok (.ifCond .eq 11, 3) := by decide +kernel
theorem dX9_fold_91 : decode cX9_fold 91 = .ok (.iload_n 1, 1) := by decide +kernel
theorem dX9_fold_92 : decode cX9_fold 92 = .ok (.ifCond .ne 7, 3) := by decide +kernel
theorem dX9_fold_95 : decode cX9_fold 95 = .ok (.iconst 1, 1) := by decide +kernel
theorem dX9_fold_96 : decode cX9_fold 96 = .ok (.goto 4, 3) := by decide +kernel
theorem dX9_fold_99 : decode cX9_fold 99 = .ok (.iconst 0, 1) := by decide +kernel
theorem dX9_fold_100 : decode cX9_fold 100 = .ok (.putfield 87, 3) := by decide +kernel
theorem dX9_fold_103 : decode cX9_fold 103 = .ok (.iload_n 1, 1) := by decide +kernel
theorem dX9_fold_104 : decode cX9_fold 104 = .ok (.ireturn, 1) := by decide +kernel
theorem dX9_sweep_0 : decode cX9_sweep 0 = .ok (.aload_n 0, 1) := by decide +kernel
theorem dX9_sweep_1 : decode cX9_sweep 1 = .ok (.invokevirtual 131, 3) := by decide +kernel
theorem dX9_sweep_4 : decode cX9_sweep 4 = .ok (.aload_n 0, 1) := by decide +kernel
theorem dX9_sweep_5 : decode cX9_sweep 5 = .ok (.getfield 28, 3) := by decide +kernel
theorem dX9_sweep_8 : decode cX9_sweep 8 = .ok (.aload_n 0, 1) := by decide +kernel
theorem dX9_sweep_9 : decode cX9_sweep 9 = .ok (.getfield 49, 3) := by decide +kernel
theorem dX9_sweep_12 : decode cX9_sweep 12 = .ok (.getfield 245, 3) := by decide +kernel
theorem dX9_sweep_15 : decode cX9_sweep 15 = .ok (.invokevirtual 248, 3) := by decide +kernel
theorem dX9_sweep_18 : decode cX9_sweep 18 = .ok (.istore_n 1, 1) := by decide +kernel
theorem dX9_sweep_19 : decode cX9_sweep 19 = .ok (.aload_n 0, 1) := by decide +kernel
theorem dX9_sweep_20 : decode cX9_sweep 20 = .ok (.aload_n 0, 1) := by decide +kernel
theorem dX9_sweep_21 : decode cX9_sweep 21 = .ok (.getfield 87, 3) := by decide +kernel
theorem dX9_sweep_24 : decode cX9_sweep 24 = .ok (.ifCond .eq 11, 3) := by decide +kernel
theorem dX9_sweep_27 : decode cX9_sweep 27 = .ok (.iload_n 1, 1) := by decide +kernel
theorem dX9_sweep_28 : decode cX9_sweep 28 = .ok (.ifCond .ne 7, 3) := by decide +kernel
theorem dX9_sweep_31 : decode cX9_sweep 31 = .ok (.iconst 1, 1) := by decide +kernel
theorem dX9_sweep_32 : decode cX9_sweep 32 = .ok (.goto 4, 3) := by decide +kernel
theorem dX9_sweep_35 : decode cX9_sweep 35 = .ok (.iconst 0, 1) := by decide +kernel
theorem dX9_sweep_36 : decode cX9_sweep 36 = .ok (.putfield 87, 3) := by decide +kernel
theorem dX9_sweep_39 : decode cX9_sweep 39 = .ok (.iload_n 1, 1) := by decide +kernel
theorem dX9_sweep_40 : decode cX9_sweep 40 = .ok (.ireturn, 1) := by decide +kernel
theorem dX9_limit_0 : decode cX9_limit 0 = .ok (.iload_n 1, 1) := by decide +kernel
theorem dX9_limit_1 : decode cX9_limit 1 = .ok (.iconst 4, 1) := by decide +kernel
theorem dX9_limit_2 : decode cX9_limit 2 = .ok (.invokestatic 92, 3) := by decide +kernel
theorem dX9_limit_5 : decode cX9_limit 5 = .ok (.ifCond .ne 5, 3) := by decide +kernel
theorem dX9_limit_8 : decode cX9_limit 8 = .ok (.iconst (-1), 1) := by decide +kernel
theorem dX9_limit_9 : decode cX9_limit 9 = .ok (.ireturn, 1) := by decide +kernel
theorem dX9_limit_10 : decode cX9_limit 10 = .ok (.aload_n 0, 1) := by decide +kernel
theorem dX9_limit_11 : decode cX9_limit 11 = .ok (.getfield 80, 3) := by decide +kernel
theorem dX9_limit_14 : decode cX9_limit 14 = .ok (.istore_n 2, 1) := by decide +kernel
theorem dX9_limit_15 : decode cX9_limit 15 = .ok (.aload_n 0, 1) := by decide +kernel
theorem dX9_limit_16 : decode cX9_limit 16 = .ok (.iload_n 1, 1) := by decide +kernel
theorem dX9_limit_17 : decode cX9_limit 17 = .ok (.putfield 80, 3) := by decide +kernel
theorem dX9_limit_20 : decode cX9_limit 20 = .ok (.iload_n 2, 1) := by decide +kernel
theorem dX9_limit_21 : decode cX9_limit 21 = .ok (.ireturn, 1) := by decide +kernel
theorem dX9_input_0 : decode cX9_input 0 = .ok (.iload_n 1, 1) := by decide +kernel
theorem dX9_input_1 : decode cX9_input 1 = .ok (.bipush 7, 2) := by decide +kernel
theorem dX9_input_3 : decode cX9_input 3 = .ok (.invokestatic 92, 3) := by decide +kernel
theorem dX9_input_6 : decode cX9_input 6 = .ok (.ifCond .eq 12, 3) := by decide +kernel
theorem dX9_input_9 : decode cX9_input 9 = .ok (.iload_n 2, 1) := by decide +kernel
theorem dX9_input_10 : decode cX9_input 10 = .ok (.bipush 51, 2) := by decide +kernel
theorem dX9_input_12 : decode cX9_input 12 = .ok (.invokestatic 92, 3) := by decide +kernel
theorem dX9_input_15 : decode cX9_input 15 = .ok (.ifCond .ne 5, 3) := by decide +kernel
theorem dX9_input_18 : decode cX9_input 18 = .ok (.iconst (-1), 1) := by decide +kernel
theorem dX9_input_19 : decode cX9_input 19 = .ok (.ireturn, 1) := by decide +kernel
theorem dX9_input_20 : decode cX9_input 20 = .ok (.aload_n 0, 1) := by decide +kernel
theorem dX9_input_21 : decode cX9_input 21 = .ok (.getfield 67, 3) := by decide +kernel
theorem dX9_input_24 : decode cX9_input 24 = .ok (.iload_n 1, 1) := by decide +kernel
theorem dX9_input_25 : decode cX9_input 25 = .ok (.iaload, 1) := by decide +kernel
theorem dX9_input_26 : decode cX9_input 26 = .ok (.istore_n 3, 1) := by decide +kernel
theorem dX9_input_27 : decode cX9_input 27 = .ok (.aload_n 0, 1) := by decide +kernel
theorem dX9_input_28 : decode cX9_input 28 = .ok (.getfield 67, 3) := by decide +kernel
theorem dX9_input_31 : decode cX9_input 31 = .ok (.iload_n 1, 1) := by decide +kernel
theorem dX9_input_32 : decode cX9_input 32 = .ok (.iload_n 2, 1) := by decide +kernel
theorem dX9_input_33 : decode cX9_input 33 = .ok (.iastore, 1) := by decide +kernel
theorem dX9_input_34 : decode cX9_input 34 = .ok (.iload_n 3, 1) := by decide +kernel
theorem dX9_input_35 : decode cX9_input 35 = .ok (.ireturn, 1) := by decide +kernel
theorem dX9_ran_0 : decode cX9_ran 0 = .ok (.iload_n 1, 1) := by decide +kernel
theorem dX9_ran_1 : decode cX9_ran 1 = .ok (.iconst 1, 1) := by decide +kernel
theorem dX9_ran_2 : decode cX9_ran 2 = .ok (.invokestatic 92, 3) := by decide +kernel
theorem dX9_ran_5 : decode cX9_ran 5 = .ok (.ifCond .eq 12, 3) := by decide +kernel
theorem dX9_ran_8 : decode cX9_ran 8 = .ok (.iload_n 2, 1) := by decide +kernel
theorem dX9_ran_9 : decode cX9_ran 9 = .ok (.bipush 9, 2) := by decide +kernel
theorem dX9_ran_11 : decode cX9_ran 11 = .ok (.invokestatic 92, 3) := by decide +kernel
theorem dX9_ran_14 : decode cX9_ran 14 = .ok (.ifCond .ne 5, 3) := by decide +kernel
theorem dX9_ran_17 : decode cX9_ran 17 = .ok (.iconst (-1), 1) := by decide +kernel
theorem dX9_ran_18 : decode cX9_ran 18 = .ok (.ireturn, 1) := by decide +kernel
theorem dX9_ran_19 : decode cX9_ran 19 = .ok (.aload_n 0, 1) := by decide +kernel
theorem dX9_ran_20 : decode cX9_ran 20 = .ok (.getfield 56, 3) := by decide +kernel
theorem dX9_ran_23 : decode cX9_ran 23 = .ok (.aload_n 0, 1) := by decide +kernel
theorem dX9_ran_24 : decode cX9_ran 24 = .ok (.iload_n 1, 1) := by decide +kernel
theorem dX9_ran_25 : decode cX9_ran 25 = .ok (.invokevirtual 123, 3) := by decide +kernel
theorem dX9_ran_28 : decode cX9_ran 28 = .ok (.aload_n 0, 1) := by decide +kernel
theorem dX9_ran_29 : decode cX9_ran 29 = .ok (.getfield 67, 3) := by decide +kernel
theorem dX9_ran_32 : decode cX9_ran 32 = .ok (.invokevirtual 251, 3) := by decide +kernel
theorem dX9_ran_35 : decode cX9_ran 35 = .ok (.aload_n 0, 1) := by decide +kernel
theorem dX9_ran_36 : decode cX9_ran 36 = .ok (.getfield 56, 3) := by decide +kernel
theorem dX9_ran_39 : decode cX9_ran 39 = .ok (.iload_n 2, 1) := by decide +kernel
theorem dX9_ran_40 : decode cX9_ran 40 = .ok (.invokevirtual 255, 3) := by decide +kernel
theorem dX9_ran_43 : decode cX9_ran 43 = .ok (.ireturn, 1) := by decide +kernel
theorem dX9_wrote_0 : decode cX9_wrote 0 = .ok (.iload_n 1, 1) := by decide +kernel
theorem dX9_wrote_1 : decode cX9_wrote 1 = .ok (.iconst 1, 1) := by decide +kernel
theorem dX9_wrote_2 : decode cX9_wrote 2 = .ok (.invokestatic 92, 3) := by decide +kernel
theorem dX9_wrote_5 : decode cX9_wrote 5 = .ok (.ifCond .eq 7, 3) := by decide +kernel
theorem dX9_wrote_8 : decode cX9_wrote 8 = .ok (.iload_n 2, 1) := by decide +kernel
theorem dX9_wrote_9 : decode cX9_wrote 9 = .ok (.ifCond .ge 5, 3) := by decide +kernel
theorem dX9_wrote_12 : decode cX9_wrote 12 = .ok (.iconst (-1), 1) := by decide +kernel
theorem dX9_wrote_13 : decode cX9_wrote 13 = .ok (.ireturn, 1) := by decide +kernel
theorem dX9_wrote_14 : decode cX9_wrote 14 = .ok (.aload_n 0, 1) := by decide +kernel
theorem dX9_wrote_15 : decode cX9_wrote 15 = .ok (.getfield 56, 3) := by decide +kernel
theorem dX9_wrote_18 : decode cX9_wrote 18 = .ok (.aload_n 0, 1) := by decide +kernel
theorem dX9_wrote_19 : decode cX9_wrote 19 = .ok (.iload_n 1, 1) := by decide +kernel
theorem dX9_wrote_20 : decode cX9_wrote 20 = .ok (.invokevirtual 123, 3) := by decide +kernel
theorem dX9_wrote_23 : decode cX9_wrote 23 = .ok (.aload_n 0, 1) := by decide +kernel
theorem dX9_wrote_24 : decode cX9_wrote 24 = .ok (.getfield 67, 3) := by decide +kernel
theorem dX9_wrote_27 : decode cX9_wrote 27 = .ok (.invokevirtual 251, 3) := by decide +kernel
theorem dX9_wrote_30 : decode cX9_wrote 30 = .ok (.iload_n 2, 1) := by decide +kernel
theorem dX9_wrote_31 : decode cX9_wrote 31 = .ok (.aload_n 0, 1) := by decide +kernel
theorem dX9_wrote_32 : decode cX9_wrote 32 = .ok (.getfield 56, 3) := by decide +kernel
theorem dX9_wrote_35 : decode cX9_wrote 35 = .ok (.getfield 257, 3) := by decide +kernel
theorem dX9_wrote_38 : decode cX9_wrote 38 = .ok (.if_icmp .ge 27, 3) := by decide +kernel
theorem dX9_wrote_41 : decode cX9_wrote 41 = .ok (.iload_n 2, 1) := by decide +kernel
theorem dX9_wrote_42 : decode cX9_wrote 42 = .ok (.aload_n 0, 1) := by decide +kernel
theorem dX9_wrote_43 : decode cX9_wrote 43 = .ok (.getfield 56, 3) := by decide +kernel
theorem dX9_wrote_46 : decode cX9_wrote 46 = .ok (.getfield 260, 3) := by decide +kernel
theorem dX9_wrote_49 : decode cX9_wrote 49 = .ok (.arraylength, 1) := by decide +kernel
theorem dX9_wrote_50 : decode cX9_wrote 50 = .ok (.if_icmp .ge 15, 3) := by decide +kernel
theorem dX9_wrote_53 : decode cX9_wrote 53 = .ok (.aload_n 0, 1) := by decide +kernel
theorem dX9_wrote_54 : decode cX9_wrote 54 = .ok (.getfield 56, 3) := by decide +kernel
theorem dX9_wrote_57 : decode cX9_wrote 57 = .ok (.getfield 260, 3) := by decide +kernel
theorem dX9_wrote_60 : decode cX9_wrote 60 = .ok (.iload_n 2, 1) := by decide +kernel
theorem dX9_wrote_61 : decode cX9_wrote 61 = .ok (.iaload, 1) := by decide +kernel
theorem dX9_wrote_62 : decode cX9_wrote 62 = .ok (.goto 5, 3) := by decide +kernel
theorem dX9_wrote_65 : decode cX9_wrote 65 = .ok (.bipush (-4), 2) := by decide +kernel
theorem dX9_wrote_67 : decode cX9_wrote 67 = .ok (.ireturn, 1) := by decide +kernel
theorem dX9_path_0 : decode cX9_path 0 = .ok (.iload_n 1, 1) := by decide +kernel
theorem dX9_path_1 : decode cX9_path 1 = .ok (.iconst 1, 1) := by decide +kernel
theorem dX9_path_2 : decode cX9_path 2 = .ok (.invokestatic 92, 3) := by decide +kernel
theorem dX9_path_5 : decode cX9_path 5 = .ok (.ifCond .eq 7, 3) := by decide +kernel
theorem dX9_path_8 : decode cX9_path 8 = .ok (.iload_n 2, 1) := by decide +kernel
theorem dX9_path_9 : decode cX9_path 9 = .ok (.ifCond .ge 5, 3) := by decide +kernel
theorem dX9_path_12 : decode cX9_path 12 = .ok (.iconst (-1), 1) := by decide +kernel
theorem dX9_path_13 : decode cX9_path 13 = .ok (.ireturn, 1) := by decide +kernel
theorem dX9_path_14 : decode cX9_path 14 = .ok (.aload_n 0, 1) := by decide +kernel
theorem dX9_path_15 : decode cX9_path 15 = .ok (.getfield 56, 3) := by decide +kernel
theorem dX9_path_18 : decode cX9_path 18 = .ok (.aload_n 0, 1) := by decide +kernel
theorem dX9_path_19 : decode cX9_path 19 = .ok (.iload_n 1, 1) := by decide +kernel
theorem dX9_path_20 : decode cX9_path 20 = .ok (.invokevirtual 123, 3) := by decide +kernel
theorem dX9_path_23 : decode cX9_path 23 = .ok (.aload_n 0, 1) := by decide +kernel
theorem dX9_path_24 : decode cX9_path 24 = .ok (.getfield 67, 3) := by decide +kernel
theorem dX9_path_27 : decode cX9_path 27 = .ok (.invokevirtual 251, 3) := by decide +kernel
theorem dX9_path_30 : decode cX9_path 30 = .ok (.iload_n 2, 1) := by decide +kernel
theorem dX9_path_31 : decode cX9_path 31 = .ok (.aload_n 0, 1) := by decide +kernel
theorem dX9_path_32 : decode cX9_path 32 = .ok (.getfield 56, 3) := by decide +kernel
theorem dX9_path_35 : decode cX9_path 35 = .ok (.getfield 263, 3) := by decide +kernel
theorem dX9_path_38 : decode cX9_path 38 = .ok (.if_icmp .ge 27, 3) := by decide +kernel
theorem dX9_path_41 : decode cX9_path 41 = .ok (.iload_n 2, 1) := by decide +kernel
theorem dX9_path_42 : decode cX9_path 42 = .ok (.aload_n 0, 1) := by decide +kernel
theorem dX9_path_43 : decode cX9_path 43 = .ok (.getfield 56, 3) := by decide +kernel
theorem dX9_path_46 : decode cX9_path 46 = .ok (.getfield 266, 3) := by decide +kernel
theorem dX9_path_49 : decode cX9_path 49 = .ok (.arraylength, 1) := by decide +kernel
theorem dX9_path_50 : decode cX9_path 50 = .ok (.if_icmp .ge 15, 3) := by decide +kernel
theorem dX9_path_53 : decode cX9_path 53 = .ok (.aload_n 0, 1) := by decide +kernel
theorem dX9_path_54 : decode cX9_path 54 = .ok (.getfield 56, 3) := by decide +kernel
theorem dX9_path_57 : decode cX9_path 57 = .ok (.getfield 266, 3) := by decide +kernel
theorem dX9_path_60 : decode cX9_path 60 = .ok (.iload_n 2, 1) := by decide +kernel
theorem dX9_path_61 : decode cX9_path 61 = .ok (.iaload, 1) := by decide +kernel
theorem dX9_path_62 : decode cX9_path 62 = .ok (.goto 5, 3) := by decide +kernel
theorem dX9_path_65 : decode cX9_path 65 = .ok (.bipush (-4), 2) := by decide +kernel
theorem dX9_path_67 : decode cX9_path 67 = .ok (.ireturn, 1) := by decide +kernel
theorem dX9_saved_0 : decode cX9_saved 0 = .ok (.iload_n 2, 1) := by decide +kernel
theorem dX9_saved_1 : decode cX9_saved 1 = .ok (.iconst 1, 1) := by decide +kernel
theorem dX9_saved_2 : decode cX9_saved 2 = .ok (.if_icmp .lt 9, 3) := by decide +kernel
theorem dX9_saved_5 : decode cX9_saved 5 = .ok (.iload_n 2, 1) := by decide +kernel
theorem dX9_saved_6 : decode cX9_saved 6 = .ok (.bipush 10, 2) := by decide +kernel
theorem dX9_saved_8 : decode cX9_saved 8 = .ok (.if_icmp .le 5, 3) := by decide +kernel
theorem dX9_saved_11 : decode cX9_saved 11 = .ok (.iconst (-1), 1) := by decide +kernel
theorem dX9_saved_12 : decode cX9_saved 12 = .ok (.ireturn, 1) := by decide +kernel
theorem dX9_saved_13 : decode cX9_saved 13 = .ok (.aload_n 0, 1) := by decide +kernel
theorem dX9_saved_14 : decode cX9_saved 14 = .ok (.getfield 63, 3) := by decide +kernel
theorem dX9_saved_17 : decode cX9_saved 17 = .ok (.iload_n 1, 1) := by decide +kernel
theorem dX9_saved_18 : decode cX9_saved 18 = .ok (.putfield 269, 3) := by decide +kernel
theorem dX9_saved_21 : decode cX9_saved 21 = .ok (.iconst 0, 1) := by decide +kernel
theorem dX9_saved_22 : decode cX9_saved 22 = .ok (.istore_n 3, 1) := by decide +kernel
theorem dX9_saved_23 : decode cX9_saved 23 = .ok (.iconst 0, 1) := by decide +kernel
theorem dX9_saved_24 : decode cX9_saved 24 = .ok (.istore 4, 2) := by decide +kernel
theorem dX9_saved_26 : decode cX9_saved 26 = .ok (.iload 4, 2) := by decide +kernel
theorem dX9_saved_28 : decode cX9_saved 28 = .ok (.iload_n 2, 1) := by decide +kernel
theorem dX9_saved_29 : decode cX9_saved 29 = .ok (.if_icmp .ge 91, 3) := by decide +kernel
theorem dX9_saved_32 : decode cX9_saved 32 = .ok (.iconst 0, 1) := by decide +kernel
theorem dX9_saved_33 : decode cX9_saved 33 = .ok (.istore 5, 2) := by decide +kernel
theorem dX9_saved_35 : decode cX9_saved 35 = .ok (.iload 5, 2) := by decide +kernel
theorem dX9_saved_37 : decode cX9_saved 37 = .ok (.bipush 8, 2) := by decide +kernel
theorem dX9_saved_39 : decode cX9_saved 39 = .ok (.if_icmp .ge 25, 3) := by decide +kernel
theorem dX9_saved_42 : decode cX9_saved 42 = .ok (.aload_n 0, 1) := by decide +kernel
theorem dX9_saved_43 : decode cX9_saved 43 = .ok (.getfield 71, 3) := by decide +kernel
theorem dX9_saved_46 : decode cX9_saved 46 = .ok (.iload 5, 2) := by decide +kernel
theorem dX9_saved_48 : decode cX9_saved 48 = .ok (.aload_n 0, 1) := by decide +kernel
theorem dX9_saved_49 : decode cX9_saved 49 = .ok (.getfield 63, 3) := by decide +kernel
theorem dX9_saved_52 : decode cX9_saved 52 = .ok (.bipush 52, 2) := by decide +kernel
theorem dX9_saved_54 : decode cX9_saved 54 = .ok (.invokevirtual 272, 3) := by decide +kernel
theorem dX9_saved_57 : decode cX9_saved 57 = .ok (.iastore, 1) := by decide +kernel
theorem dX9_saved_58 : decode cX9_saved 58 = .ok (.iinc 5 1, 3) := by decide +kernel
theorem dX9_saved_61 : decode cX9_saved 61 = .ok (.goto (-26), 3) := by decide +kernel
theorem dX9_saved_64 : decode cX9_saved 64 = .ok (.aload_n 0, 1) := by decide +kernel
theorem dX9_saved_65 : decode cX9_saved 65 = .ok (.getfield 56, 3) := by decide +kernel
theorem dX9_saved_68 : decode cX9_saved 68 = .ok (.aload_n 0, 1) := by decide +kernel
theorem dX9_saved_69 : decode cX9_saved 69 = .ok (.getfield 25, 3) := by decide +kernel
theorem dX9_saved_72 : decode cX9_saved 72 = .ok (.aload_n 0, 1) := by decide +kernel
theorem dX9_saved_73 : decode cX9_saved 73 = .ok (.getfield 71, 3) := by decide +kernel
theorem dX9_saved_76 : decode cX9_saved 76 = .ok (.invokevirtual 251, 3) := by decide +kernel
theorem dX9_saved_79 : decode cX9_saved 79 = .ok (.iload_n 3, 1) := by decide +kernel
theorem dX9_saved_80 : decode cX9_saved 80 = .ok (.aload_n 0, 1) := by decide +kernel
theorem dX9_saved_81 : decode cX9_saved 81 = .ok (.getfield 56, 3) := by decide +kernel
theorem dX9_saved_84 : decode cX9_saved 84 = .ok (.getfield 275, 3) := by decide +kernel
theorem dX9_saved_87 : decode cX9_saved 87 = .ok (.iadd, 1) := by decide +kernel
theorem dX9_saved_88 : decode cX9_saved 88 = .ok (.istore_n 3, 1) := by decide +kernel
theorem dX9_saved_89 : decode cX9_saved 89 = .ok (.aload_n 0, 1) := by decide +kernel
theorem dX9_saved_90 : decode cX9_saved 90 = .ok (.getfield 56, 3) := by decide +kernel
theorem dX9_saved_93 : decode cX9_saved 93 = .ok (.aload_n 0, 1) := by decide +kernel
theorem dX9_saved_94 : decode cX9_saved 94 = .ok (.getfield 28, 3) := by decide +kernel
theorem dX9_saved_97 : decode cX9_saved 97 = .ok (.aload_n 0, 1) := by decide +kernel
theorem dX9_saved_98 : decode cX9_saved 98 = .ok (.getfield 71, 3) := by decide +kernel
theorem dX9_saved_101 : decode cX9_saved 101 = .ok (.invokevirtual 251, 3) := by decide +kernel
theorem dX9_saved_104 : decode cX9_saved 104 = .ok (.iload_n 3, 1) := by decide +kernel
theorem dX9_saved_105 : decode cX9_saved 105 = .ok (.aload_n 0, 1) := by decide +kernel
theorem dX9_saved_106 : decode cX9_saved 106 = .ok (.getfield 56, 3) := by decide +kernel
theorem dX9_saved_109 : decode cX9_saved 109 = .ok (.getfield 275, 3) := by decide +kernel
theorem dX9_saved_112 : decode cX9_saved 112 = .ok (.isub, 1) := by decide +kernel
theorem dX9_saved_113 : decode cX9_saved 113 = .ok (.istore_n 3, 1) := by decide +kernel
theorem dX9_saved_114 : decode cX9_saved 114 = .ok (.iinc 4 1, 3) := by decide +kernel
theorem dX9_saved_117 : decode cX9_saved 117 = .ok (.goto (-91), 3) := by decide +kernel
theorem dX9_saved_120 : decode cX9_saved 120 = .ok (.iload_n 3, 1) := by decide +kernel
theorem dX9_saved_121 : decode cX9_saved 121 = .ok (.ireturn, 1) := by decide +kernel
theorem dX9_lead_0 : decode cX9_lead 0 = .ok (.aload_n 0, 1) := by decide +kernel
theorem dX9_lead_1 : decode cX9_lead 1 = .ok (.getfield 25, 3) := by decide +kernel
theorem dX9_lead_4 : decode cX9_lead 4 = .ok (.iload_n 1, 1) := by decide +kernel
theorem dX9_lead_5 : decode cX9_lead 5 = .ok (.iload_n 2, 1) := by decide +kernel
theorem dX9_lead_6 : decode cX9_lead 6 = .ok (.invokevirtual 206, 3) := by decide +kernel
theorem dX9_lead_9 : decode cX9_lead 9 = .ok (.ifCond .eq 14, 3) := by decide +kernel
theorem dX9_lead_12 : decode cX9_lead 12 = .ok (.aload_n 0, 1) := by decide +kernel
theorem dX9_lead_13 : decode cX9_lead 13 = .ok (.getfield 25, 3) := by decide +kernel
theorem dX9_lead_16 : decode cX9_lead 16 = .ok (.iload_n 3, 1) := by decide +kernel
theorem dX9_lead_17 : decode cX9_lead 17 = .ok (.invokevirtual 156, 3) := by decide +kernel
theorem dX9_lead_20 : decode cX9_lead 20 = .ok (.ifCond .ne 5, 3) := by decide +kernel
theorem dX9_lead_23 : decode cX9_lead 23 = .ok (.iconst (-1), 1) := by decide +kernel
theorem dX9_lead_24 : decode cX9_lead 24 = .ok (.ireturn, 1) := by decide +kernel
theorem dX9_lead_25 : decode cX9_lead 25 = .ok (.aload_n 0, 1) := by decide +kernel
theorem dX9_lead_26 : decode cX9_lead 26 = .ok (.getfield 25, 3) := by decide +kernel
theorem dX9_lead_29 : decode cX9_lead 29 = .ok (.iload_n 1, 1) := by decide +kernel
theorem dX9_lead_30 : decode cX9_lead 30 = .ok (.invokevirtual 159, 3) := by decide +kernel
theorem dX9_lead_33 : decode cX9_lead 33 = .ok (.astore 4, 2) := by decide +kernel
theorem dX9_lead_35 : decode cX9_lead 35 = .ok (.aload 4, 2) := by decide +kernel
theorem dX9_lead_37 : decode cX9_lead 37 = .ok (.iload_n 2, 1) := by decide +kernel
theorem dX9_lead_38 : decode cX9_lead 38 = .ok (.invokevirtual 174, 3) := by decide +kernel
theorem dX9_lead_41 : decode cX9_lead 41 = .ok (.istore 5, 2) := by decide +kernel
theorem dX9_lead_43 : decode cX9_lead 43 = .ok (.aload 4, 2) := by decide +kernel
theorem dX9_lead_45 : decode cX9_lead 45 = .ok (.iload_n 2, 1) := by decide +kernel
theorem dX9_lead_46 : decode cX9_lead 46 = .ok (.iload_n 3, 1) := by decide +kernel
theorem dX9_lead_47 : decode cX9_lead 47 = .ok (.invokevirtual 278, 3) := by decide +kernel
theorem dX9_lead_50 : decode cX9_lead 50 = .ok (.aload_n 0, 1) := by decide +kernel
theorem dX9_lead_51 : decode cX9_lead 51 = .ok (.invokevirtual 114, 3) := by decide +kernel
theorem dX9_lead_54 : decode cX9_lead 54 = .ok (.iload 5, 2) := by decide +kernel
theorem dX9_lead_56 : decode cX9_lead 56 = .ok (.ireturn, 1) := by decide +kernel
theorem dX9_draw_0 : decode cX9_draw 0 = .ok (.iload_n 2, 1) := by decide +kernel
theorem dX9_draw_1 : decode cX9_draw 1 = .ok (.iconst 1, 1) := by decide +kernel
theorem dX9_draw_2 : decode cX9_draw 2 = .ok (.if_icmp .lt 9, 3) := by decide +kernel
theorem dX9_draw_5 : decode cX9_draw 5 = .ok (.iload_n 2, 1) := by decide +kernel
theorem dX9_draw_6 : decode cX9_draw 6 = .ok (.bipush 8, 2) := by decide +kernel
theorem dX9_draw_8 : decode cX9_draw 8 = .ok (.if_icmp .le 5, 3) := by decide +kernel
theorem dX9_draw_11 : decode cX9_draw 11 = .ok (.iconst (-1), 1) := by decide +kernel
theorem dX9_draw_12 : decode cX9_draw 12 = .ok (.ireturn, 1) := by decide +kernel
theorem dX9_draw_13 : decode cX9_draw 13 = .ok (.aload_n 0, 1) := by decide +kernel
theorem dX9_draw_14 : decode cX9_draw 14 = .ok (.getfield 63, 3) := by decide +kernel
theorem dX9_draw_17 : decode cX9_draw 17 = .ok (.iload_n 1, 1) := by decide +kernel
theorem dX9_draw_18 : decode cX9_draw 18 = .ok (.putfield 269, 3) := by decide +kernel
theorem dX9_draw_21 : decode cX9_draw 21 = .ok (.aload_n 0, 1) := by decide +kernel
theorem dX9_draw_22 : decode cX9_draw 22 = .ok (.getfield 25, 3) := by decide +kernel
theorem dX9_draw_25 : decode cX9_draw 25 = .ok (.iconst 0, 1) := by decide +kernel
theorem dX9_draw_26 : decode cX9_draw 26 = .ok (.putfield 117, 3) := by decide +kernel
theorem dX9_draw_29 : decode cX9_draw 29 = .ok (.iconst 0, 1) := by decide +kernel
theorem dX9_draw_30 : decode cX9_draw 30 = .ok (.istore_n 3, 1) := by decide +kernel
theorem dX9_draw_31 : decode cX9_draw 31 = .ok (.iload_n 3, 1) := by decide +kernel
theorem dX9_draw_32 : decode cX9_draw 32 = .ok (.iload_n 2, 1) := by decide +kernel
theorem dX9_draw_33 : decode cX9_draw 33 = .ok (.if_icmp .ge 24, 3) := by decide +kernel
theorem dX9_draw_36 : decode cX9_draw 36 = .ok (.aload_n 0, 1) := by decide +kernel
theorem dX9_draw_37 : decode cX9_draw 37 = .ok (.getfield 63, 3) := by decide +kernel
theorem dX9_draw_40 : decode cX9_draw 40 = .ok (.aload_n 0, 1) := by decide +kernel
theorem dX9_draw_41 : decode cX9_draw 41 = .ok (.getfield 25, 3) := by decide +kernel
theorem dX9_draw_44 : decode cX9_draw 44 = .ok (.invokevirtual 282, 3) := by decide +kernel
theorem dX9_draw_47 : decode cX9_draw 47 = .ok (.iload_n 2, 1) := by decide +kernel
theorem dX9_draw_48 : decode cX9_draw 48 = .ok (.invokevirtual 286, 3) := by decide +kernel
theorem dX9_draw_51 : decode cX9_draw 51 = .ok (.iinc 3 1, 3) := by decide +kernel
theorem dX9_draw_54 : decode cX9_draw 54 = .ok (.goto (-23), 3) := by decide +kernel
theorem dX9_draw_57 : decode cX9_draw 57 = .ok (.aload_n 0, 1) := by decide +kernel
theorem dX9_draw_58 : decode cX9_draw 58 = .ok (.invokevirtual 114, 3) := by decide +kernel
theorem dX9_draw_61 : decode cX9_draw 61 = .ok (.aload_n 0, 1) := by decide +kernel
theorem dX9_draw_62 : decode cX9_draw 62 = .ok (.getfield 25, 3) := by decide +kernel
theorem dX9_draw_65 : decode cX9_draw 65 = .ok (.iconst 2, 1) := by decide +kernel
theorem dX9_draw_66 : decode cX9_draw 66 = .ok (.invokevirtual 127, 3) := by decide +kernel
theorem dX9_draw_69 : decode cX9_draw 69 = .ok (.ireturn, 1) := by decide +kernel
theorem dX9_keep_0 : decode cX9_keep 0 = .ok (.iload_n 1, 1) := by decide +kernel
theorem dX9_keep_1 : decode cX9_keep 1 = .ok (.iconst 1, 1) := by decide +kernel
theorem dX9_keep_2 : decode cX9_keep 2 = .ok (.invokestatic 92, 3) := by decide +kernel
theorem dX9_keep_5 : decode cX9_keep 5 = .ok (.ifCond .ne 5, 3) := by decide +kernel
theorem dX9_keep_8 : decode cX9_keep 8 = .ok (.iconst (-1), 1) := by decide +kernel
theorem dX9_keep_9 : decode cX9_keep 9 = .ok (.ireturn, 1) := by decide +kernel
theorem dX9_keep_10 : decode cX9_keep 10 = .ok (.aload_n 0, 1) := by decide +kernel
theorem dX9_keep_11 : decode cX9_keep 11 = .ok (.getfield 35, 3) := by decide +kernel
theorem dX9_keep_14 : decode cX9_keep 14 = .ok (.iload_n 1, 1) := by decide +kernel
theorem dX9_keep_15 : decode cX9_keep 15 = .ok (.baload, 1) := by decide +kernel
theorem dX9_keep_16 : decode cX9_keep 16 = .ok (.ifCond .eq 7, 3) := by decide +kernel
theorem dX9_keep_19 : decode cX9_keep 19 = .ok (.iconst 1, 1) := by decide +kernel
theorem dX9_keep_20 : decode cX9_keep 20 = .ok (.goto 4, 3) := by decide +kernel
theorem dX9_keep_23 : decode cX9_keep 23 = .ok (.iconst 0, 1) := by decide +kernel
theorem dX9_keep_24 : decode cX9_keep 24 = .ok (.istore_n 2, 1) := by decide +kernel
theorem dX9_keep_25 : decode cX9_keep 25 = .ok (.aload_n 0, 1) := by decide +kernel
theorem dX9_keep_26 : decode cX9_keep 26 = .ok (.getfield 31, 3) := by decide +kernel
theorem dX9_keep_29 : decode cX9_keep 29 = .ok (.iload_n 1, 1) := by decide +kernel
theorem dX9_keep_30 : decode cX9_keep 30 = .ok (.aaload, 1) := by decide +kernel
theorem dX9_keep_31 : decode cX9_keep 31 = .ok (.aload_n 0, 1) := by decide +kernel
theorem dX9_keep_32 : decode cX9_keep 32 = .ok (.getfield 28, 3) := by decide +kernel
theorem dX9_keep_35 : decode cX9_keep 35 = .ok (.invokevirtual 110, 3) := by decide +kernel
theorem dX9_keep_38 : decode cX9_keep 38 = .ok (.aload_n 0, 1) := by decide +kernel
theorem dX9_keep_39 : decode cX9_keep 39 = .ok (.getfield 35, 3) := by decide +kernel
theorem dX9_keep_42 : decode cX9_keep 42 = .ok (.iload_n 1, 1) := by decide +kernel
theorem dX9_keep_43 : decode cX9_keep 43 = .ok (.iconst 1, 1) := by decide +kernel
theorem dX9_keep_44 : decode cX9_keep 44 = .ok (.bastore, 1) := by decide +kernel
theorem dX9_keep_45 : decode cX9_keep 45 = .ok (.iload_n 2, 1) := by decide +kernel
theorem dX9_keep_46 : decode cX9_keep 46 = .ok (.ireturn, 1) := by decide +kernel
theorem dX9_back_0 : decode cX9_back 0 = .ok (.iload_n 1, 1) := by decide +kernel
theorem dX9_back_1 : decode cX9_back 1 = .ok (.iconst 1, 1) := by decide +kernel
theorem dX9_back_2 : decode cX9_back 2 = .ok (.invokestatic 92, 3) := by decide +kernel
theorem dX9_back_5 : decode cX9_back 5 = .ok (.ifCond .ne 5, 3) := by decide +kernel
theorem dX9_back_8 : decode cX9_back 8 = .ok (.iconst (-1), 1) := by decide +kernel
theorem dX9_back_9 : decode cX9_back 9 = .ok (.ireturn, 1) := by decide +kernel
theorem dX9_back_10 : decode cX9_back 10 = .ok (.aload_n 0, 1) := by decide +kernel
theorem dX9_back_11 : decode cX9_back 11 = .ok (.getfield 35, 3) := by decide +kernel
theorem dX9_back_14 : decode cX9_back 14 = .ok (.iload_n 1, 1) := by decide +kernel
theorem dX9_back_15 : decode cX9_back 15 = .ok (.baload, 1) := by decide +kernel
theorem dX9_back_16 : decode cX9_back 16 = .ok (.ifCond .ne 6, 3) := by decide +kernel
theorem dX9_back_19 : decode cX9_back 19 = .ok (.bipush (-2), 2) := by decide +kernel
theorem dX9_back_21 : decode cX9_back 21 = .ok (.ireturn, 1) := by decide +kernel
theorem dX9_back_22 : decode cX9_back 22 = .ok (.aload_n 0, 1) := by decide +kernel
theorem dX9_back_23 : decode cX9_back 23 = .ok (.getfield 28, 3) := by decide +kernel
theorem dX9_back_26 : decode cX9_back 26 = .ok (.aload_n 0, 1) := by decide +kernel
theorem dX9_back_27 : decode cX9_back 27 = .ok (.getfield 31, 3) := by decide +kernel
theorem dX9_back_30 : decode cX9_back 30 = .ok (.iload_n 1, 1) := by decide +kernel
theorem dX9_back_31 : decode cX9_back 31 = .ok (.aaload, 1) := by decide +kernel
theorem dX9_back_32 : decode cX9_back 32 = .ok (.invokevirtual 110, 3) := by decide +kernel
theorem dX9_back_35 : decode cX9_back 35 = .ok (.aload_n 0, 1) := by decide +kernel
theorem dX9_back_36 : decode cX9_back 36 = .ok (.iconst 0, 1) := by decide +kernel
theorem dX9_back_37 : decode cX9_back 37 = .ok (.putfield 87, 3) := by decide +kernel
theorem dX9_back_40 : decode cX9_back 40 = .ok (.aload_n 0, 1) := by decide +kernel
theorem dX9_back_41 : decode cX9_back 41 = .ok (.getfield 28, 3) := by decide +kernel
theorem dX9_back_44 : decode cX9_back 44 = .ok (.getfield 117, 3) := by decide +kernel
theorem dX9_back_47 : decode cX9_back 47 = .ok (.ireturn, 1) := by decide +kernel
theorem dX9_sheet_0 : decode cX9_sheet 0 = .ok (.iload_n 1, 1) := by decide +kernel
theorem dX9_sheet_1 : decode cX9_sheet 1 = .ok (.iconst 3, 1) := by decide +kernel
theorem dX9_sheet_2 : decode cX9_sheet 2 = .ok (.invokestatic 92, 3) := by decide +kernel
theorem dX9_sheet_5 : decode cX9_sheet 5 = .ok (.ifCond .eq 17, 3) := by decide +kernel
theorem dX9_sheet_8 : decode cX9_sheet 8 = .ok (.iload_n 2, 1) := by decide +kernel
theorem dX9_sheet_9 : decode cX9_sheet 9 = .ok (.iconst 2, 1) := by decide +kernel
theorem dX9_sheet_10 : decode cX9_sheet 10 = .ok (.invokestatic 92, 3) := by decide +kernel
theorem dX9_sheet_13 : decode cX9_sheet 13 = .ok (.ifCond .eq 9, 3) := by decide +kernel
theorem dX9_sheet_16 : decode cX9_sheet 16 = .ok (.iload_n 3, 1) := by decide +kernel
theorem dX9_sheet_17 : decode cX9_sheet 17 = .ok (.bipush 40, 2) := by decide +kernel
theorem dX9_sheet_19 : decode cX9_sheet 19 = .ok (.if_icmp .le 5, 3) := by decide +kernel
theorem dX9_sheet_22 : decode cX9_sheet 22 = .ok (.iconst (-1), 1) := by decide +kernel
theorem dX9_sheet_23 : decode cX9_sheet 23 = .ok (.ireturn, 1) := by decide +kernel
theorem dX9_sheet_24 : decode cX9_sheet 24 = .ok (.iload_n 3, 1) := by decide +kernel
theorem dX9_sheet_25 : decode cX9_sheet 25 = .ok (.ifCond .ge 6, 3) := by decide +kernel
theorem dX9_sheet_28 : decode cX9_sheet 28 = .ok (.bipush (-14), 2) := by decide +kernel
theorem dX9_sheet_30 : decode cX9_sheet 30 = .ok (.ireturn, 1) := by decide +kernel
theorem dX9_sheet_31 : decode cX9_sheet 31 = .ok (.aload_n 0, 1) := by decide +kernel
theorem dX9_sheet_32 : decode cX9_sheet 32 = .ok (.getfield 76, 3) := by decide +kernel
theorem dX9_sheet_35 : decode cX9_sheet 35 = .ok (.iload_n 1, 1) := by decide +kernel
theorem dX9_sheet_36 : decode cX9_sheet 36 = .ok (.aaload, 1) := by decide +kernel
theorem dX9_sheet_37 : decode cX9_sheet 37 = .ok (.iload_n 2, 1) := by decide +kernel
theorem dX9_sheet_38 : decode cX9_sheet 38 = .ok (.iload_n 3, 1) := by decide +kernel
theorem dX9_sheet_39 : decode cX9_sheet 39 = .ok (.invokevirtual 290, 3) := by decide +kernel
theorem dX9_sheet_42 : decode cX9_sheet 42 = .ok (.iconst 1, 1) := by decide +kernel
theorem dX9_sheet_43 : decode cX9_sheet 43 = .ok (.ireturn, 1) := by decide +kernel
theorem dX9_lay_0 : decode cX9_lay 0 = .ok (.iload_n 1, 1) := by decide +kernel
theorem dX9_lay_1 : decode cX9_lay 1 = .ok (.iconst 3, 1) := by decide +kernel
theorem dX9_lay_2 : decode cX9_lay 2 = .ok (.invokestatic 92, 3) := by decide +kernel
theorem dX9_lay_5 : decode cX9_lay 5 = .ok (.ifCond .ne 5, 3) := by decide +kernel
theorem dX9_lay_8 : decode cX9_lay 8 = .ok (.iconst (-1), 1) := by decide +kernel
theorem dX9_lay_9 : decode cX9_lay 9 = .ok (.ireturn, 1) := by decide +kernel
theorem dX9_lay_10 : decode cX9_lay 10 = .ok (.aload_n 0, 1) := by decide +kernel
theorem dX9_lay_11 : decode cX9_lay 11 = .ok (.getfield 76, 3) := by decide +kernel
theorem dX9_lay_14 : decode cX9_lay 14 = .ok (.iload_n 1, 1) := by decide +kernel
theorem dX9_lay_15 : decode cX9_lay 15 = .ok (.aaload, 1) := by decide +kernel
theorem dX9_lay_16 : decode cX9_lay 16 = .ok (.invokevirtual 293, 3) := by decide +kernel
theorem dX9_lay_19 : decode cX9_lay 19 = .ok (.ifCond .eq 6, 3) := by decide +kernel
theorem dX9_lay_22 : decode cX9_lay 22 = .ok (.bipush (-11), 2) := by decide +kernel
theorem dX9_lay_24 : decode cX9_lay 24 = .ok (.ireturn, 1) := by decide +kernel
theorem dX9_lay_25 : decode cX9_lay 25 = .ok (.aload_n 0, 1) := by decide +kernel
theorem dX9_lay_26 : decode cX9_lay 26 = .ok (.getfield 76, 3) := by decide +kernel
theorem dX9_lay_29 : decode cX9_lay 29 = .ok (.iload_n 1, 1) := by decide +kernel
theorem dX9_lay_30 : decode cX9_lay 30 = .ok (.aaload, 1) := by decide +kernel
theorem dX9_lay_31 : decode cX9_lay 31 = .ok (.iload_n 2, 1) := by decide +kernel
theorem dX9_lay_32 : decode cX9_lay 32 = .ok (.iload_n 3, 1) := by decide +kernel
theorem dX9_lay_33 : decode cX9_lay 33 = .ok (.invokevirtual 296, 3) := by decide +kernel
theorem dX9_lay_36 : decode cX9_lay 36 = .ok (.ifCond .eq 7, 3) := by decide +kernel
theorem dX9_lay_39 : decode cX9_lay 39 = .ok (.iconst 1, 1) := by decide +kernel
theorem dX9_lay_40 : decode cX9_lay 40 = .ok (.goto 5, 3) := by decide +kernel
theorem dX9_lay_43 : decode cX9_lay 43 = .ok (.bipush (-12), 2) := by decide +kernel
theorem dX9_lay_45 : decode cX9_lay 45 = .ok (.ireturn, 1) := by decide +kernel
theorem dX9_read_0 : decode cX9_read 0 = .ok (.iload_n 1, 1) := by decide +kernel
theorem dX9_read_1 : decode cX9_read 1 = .ok (.iconst 3, 1) := by decide +kernel
theorem dX9_read_2 : decode cX9_read 2 = .ok (.invokestatic 92, 3) := by decide +kernel
theorem dX9_read_5 : decode cX9_read 5 = .ok (.ifCond .eq 21, 3) := by decide +kernel
theorem dX9_read_8 : decode cX9_read 8 = .ok (.iload_n 2, 1) := by decide +kernel
theorem dX9_read_9 : decode cX9_read 9 = .ok (.iconst 2, 1) := by decide +kernel
theorem dX9_read_10 : decode cX9_read 10 = .ok (.invokestatic 92, 3) := by decide +kernel
theorem dX9_read_13 : decode cX9_read 13 = .ok (.ifCond .eq 13, 3) := by decide +kernel
theorem dX9_read_16 : decode cX9_read 16 = .ok (.iload 4, 2) := by decide +kernel
theorem dX9_read_18 : decode cX9_read 18 = .ok (.bipush 8, 2) := by decide +kernel
theorem dX9_read_20 : decode cX9_read 20 = .ok (.invokestatic 92, 3) := by decide +kernel
theorem dX9_read_23 : decode cX9_read 23 = .ok (.ifCond .ne 5, 3) := by decide +kernel
theorem dX9_read_26 : decode cX9_read 26 = .ok (.iconst (-1), 1) := by decide +kernel
theorem dX9_read_27 : decode cX9_read 27 = .ok (.ireturn, 1) := by decide +kernel
theorem dX9_read_28 : decode cX9_read 28 = .ok (.aload_n 0, 1) := by decide +kernel
theorem dX9_read_29 : decode cX9_read 29 = .ok (.getfield 76, 3) := by decide +kernel
theorem dX9_read_32 : decode cX9_read 32 = .ok (.iload_n 1, 1) := by decide +kernel
theorem dX9_read_33 : decode cX9_read 33 = .ok (.aaload, 1) := by decide +kernel
theorem dX9_read_34 : decode cX9_read 34 = .ok (.astore 5, 2) := by decide +kernel
theorem dX9_read_36 : decode cX9_read 36 = .ok (.iconst 0, 1) := by decide +kernel
theorem dX9_read_37 : decode cX9_read 37 = .ok (.istore 6, 2) := by decide +kernel
theorem dX9_read_39 : decode cX9_read 39 = .ok (.iconst 0, 1) := by decide +kernel
theorem dX9_read_40 : decode cX9_read 40 = .ok (.istore 7, 2) := by decide +kernel
theorem dX9_read_42 : decode cX9_read 42 = .ok (.iload 7, 2) := by decide +kernel
theorem dX9_read_44 : decode cX9_read 44 = .ok (.iload 4, 2) := by decide +kernel
theorem dX9_read_46 : decode cX9_read 46 = .ok (.if_icmp .ge 74, 3) := by decide +kernel
theorem dX9_read_49 : decode cX9_read 49 = .ok (.iload 7, 2) := by decide +kernel
theorem dX9_read_51 : decode cX9_read 51 = .ok (.bipush 8, 2) := by decide +kernel
theorem dX9_read_53 : decode cX9_read 53 = .ok (.if_icmp .ge 67, 3) := by decide +kernel
theorem dX9_read_56 : decode cX9_read 56 = .ok (.iload 6, 2) := by decide +kernel
theorem dX9_read_58 : decode cX9_read 58 = .ok (.ifCond .ne 62, 3) := by decide +kernel
theorem dX9_read_61 : decode cX9_read 61 = .ok (.aload 5, 2) := by decide +kernel
theorem dX9_read_63 : decode cX9_read 63 = .ok (.iload_n 2, 1) := by decide +kernel
theorem dX9_read_64 : decode cX9_read 64 = .ok (.iload_n 3, 1) := by decide +kernel
theorem dX9_read_65 : decode cX9_read 65 = .ok (.iload 7, 2) := by decide +kernel
theorem dX9_read_67 : decode cX9_read 67 = .ok (.iadd, 1) := by decide +kernel
theorem dX9_read_68 : decode cX9_read 68 = .ok (.invokevirtual 299, 3) := by decide +kernel
theorem dX9_read_71 : decode cX9_read 71 = .ok (.istore 6, 2) := by decide +kernel
theorem dX9_read_73 : decode cX9_read 73 = .ok (.iload 6, 2) := by decide +kernel
theorem dX9_read_75 : decode cX9_read 75 = .ok (.ifCond .ne (-33), 3) := by decide +kernel
theorem dX9_read_78 : decode cX9_read 78 = .ok (.aload 5, 2) := by decide +kernel
theorem dX9_read_80 : decode cX9_read 80 = .ok (.iload_n 3, 1) := by decide +kernel
theorem dX9_read_81 : decode cX9_read 81 = .ok (.iload 7, 2) := by decide +kernel
theorem dX9_read_83 : decode cX9_read 83 = .ok (.iadd, 1) := by decide +kernel
theorem dX9_read_84 : decode cX9_read 84 = .ok (.invokevirtual 302, 3) := by decide +kernel
theorem dX9_read_87 : decode cX9_read 87 = .ok (.istore 8, 2) := by decide +kernel
theorem dX9_read_89 : decode cX9_read 89 = .ok (.iload 8, 2) := by decide +kernel
theorem dX9_read_91 : decode cX9_read 91 = .ok (.bipush 51, 2) := by decide +kernel
theorem dX9_read_93 : decode cX9_read 93 = .ok (.invokestatic 92, 3) := by decide +kernel
theorem dX9_read_96 : decode cX9_read 96 = .ok (.ifCond .ne 9, 3) := by decide +kernel
theorem dX9_read_99 : decode cX9_read 99 = .ok (.bipush (-20), 2) := by decide +kernel
theorem dX9_read_101 : decode cX9_read 101 = .ok (.iload 7, 2) := by decide +kernel
theorem dX9_read_103 : decode cX9_read 103 = .ok (.isub, 1) := by decide +kernel
theorem dX9_read_104 : decode cX9_read 104 = .ok (.ireturn, 1) := by decide +kernel
theorem dX9_read_105 : decode cX9_read 105 = .ok (.aload_n 0, 1) := by decide +kernel
theorem dX9_read_106 : decode cX9_read 106 = .ok (.getfield 71, 3) := by decide +kernel
theorem dX9_read_109 : decode cX9_read 109 = .ok (.iload 7, 2) := by decide +kernel
theorem dX9_read_111 : decode cX9_read 111 = .ok (.iload 8, 2) := by decide +kernel
theorem dX9_read_113 : decode cX9_read 113 = .ok (.iastore, 1) := by decide +kernel
theorem dX9_read_114 : decode cX9_read 114 = .ok (.iinc 7 1, 3) := by decide +kernel
theorem dX9_read_117 : decode cX9_read 117 = .ok (.goto (-75), 3) := by decide +kernel
theorem dX9_read_120 : decode cX9_read 120 = .ok (.aload_n 0, 1) := by decide +kernel
theorem dX9_read_121 : decode cX9_read 121 = .ok (.getfield 71, 3) := by decide +kernel
theorem dX9_read_124 : decode cX9_read 124 = .ok (.iconst 0, 1) := by decide +kernel
theorem dX9_read_125 : decode cX9_read 125 = .ok (.aload_n 0, 1) := by decide +kernel
theorem dX9_read_126 : decode cX9_read 126 = .ok (.getfield 67, 3) := by decide +kernel
theorem dX9_read_129 : decode cX9_read 129 = .ok (.iconst 0, 1) := by decide +kernel
theorem dX9_read_130 : decode cX9_read 130 = .ok (.iload 7, 2) := by decide +kernel
theorem dX9_read_132 : decode cX9_read 132 = .ok (.invokestatic 305, 3) := by decide +kernel
theorem dX9_read_135 : decode cX9_read 135 = .ok (.aload_n 0, 1) := by decide +kernel
theorem dX9_read_136 : decode cX9_read 136 = .ok (.iload 6, 2) := by decide +kernel
theorem dX9_read_138 : decode cX9_read 138 = .ok (.putfield 84, 3) := by decide +kernel
theorem dX9_read_141 : decode cX9_read 141 = .ok (.iload 7, 2) := by decide +kernel
theorem dX9_read_143 : decode cX9_read 143 = .ok (.ireturn, 1) := by decide +kernel
theorem dX9_torn_0 : decode cX9_torn 0 = .ok (.aload_n 0, 1) := by decide +kernel
theorem dX9_torn_1 : decode cX9_torn 1 = .ok (.getfield 84, 3) := by decide +kernel
theorem dX9_torn_4 : decode cX9_torn 4 = .ok (.ireturn, 1) := by decide +kernel
theorem dX9_count_0 : decode cX9_count 0 = .ok (.iload_n 1, 1) := by decide +kernel
theorem dX9_count_1 : decode cX9_count 1 = .ok (.tableswitch 110 0 4 #[35, 65, 73, 78, 105], 35) := by decide +kernel
theorem dX9_count_36 : decode cX9_count 36 = .ok (.aload_n 0, 1) := by decide +kernel
theorem dX9_count_37 : decode cX9_count 37 = .ok (.getfield 35, 3) := by decide +kernel
theorem dX9_count_40 : decode cX9_count 40 = .ok (.iconst 0, 1) := by decide +kernel
theorem dX9_count_41 : decode cX9_count 41 = .ok (.baload, 1) := by decide +kernel
theorem dX9_count_42 : decode cX9_count 42 = .ok (.ifCond .eq 7, 3) := by decide +kernel
theorem dX9_count_45 : decode cX9_count 45 = .ok (.iconst 1, 1) := by decide +kernel
theorem dX9_count_46 : decode cX9_count 46 = .ok (.goto 4, 3) := by decide +kernel
theorem dX9_count_49 : decode cX9_count 49 = .ok (.iconst 0, 1) := by decide +kernel
theorem dX9_count_50 : decode cX9_count 50 = .ok (.aload_n 0, 1) := by decide +kernel
theorem dX9_count_51 : decode cX9_count 51 = .ok (.getfield 35, 3) := by decide +kernel
theorem dX9_count_54 : decode cX9_count 54 = .ok (.iconst 1, 1) := by decide +kernel
theorem dX9_count_55 : decode cX9_count 55 = .ok (.baload, 1) := by decide +kernel
theorem dX9_count_56 : decode cX9_count 56 = .ok (.ifCond .eq 7, 3) := by decide +kernel
theorem dX9_count_59 : decode cX9_count 59 = .ok (.iconst 1, 1) := by decide +kernel
theorem dX9_count_60 : decode cX9_count 60 = .ok (.goto 4, 3) := by decide +kernel
theorem dX9_count_63 : decode cX9_count 63 = .ok (.iconst 0, 1) := by decide +kernel
theorem dX9_count_64 : decode cX9_count 64 = .ok (.iadd, 1) := by decide +kernel
theorem dX9_count_65 : decode cX9_count 65 = .ok (.ireturn, 1) := by decide +kernel
theorem dX9_count_66 : decode cX9_count 66 = .ok (.aload_n 0, 1) := by decide +kernel
theorem dX9_count_67 : decode cX9_count 67 = .ok (.getfield 10, 3) := by decide +kernel
theorem dX9_count_70 : decode cX9_count 70 = .ok (.getfield 100, 3) := by decide +kernel
theorem dX9_count_73 : decode cX9_count 73 = .ok (.ireturn, 1) := by decide +kernel
theorem dX9_count_74 : decode cX9_count 74 = .ok (.aload_n 0, 1) := by decide +kernel
theorem dX9_count_75 : decode cX9_count 75 = .ok (.invokevirtual 311, 3) := by decide +kernel
theorem dX9_count_78 : decode cX9_count 78 = .ok (.ireturn, 1) := by decide +kernel
theorem dX9_count_79 : decode cX9_count 79 = .ok (.aload_n 0, 1) := by decide +kernel
theorem dX9_count_80 : decode cX9_count 80 = .ok (.getfield 76, 3) := by decide +kernel
theorem dX9_count_83 : decode cX9_count 83 = .ok (.iconst 0, 1) := by decide +kernel
theorem dX9_count_84 : decode cX9_count 84 = .ok (.aaload, 1) := by decide +kernel
theorem dX9_count_85 : decode cX9_count 85 = .ok (.invokevirtual 293, 3) := by decide +kernel
theorem dX9_count_88 : decode cX9_count 88 = .ok (.ifCond .eq 8, 3) := by decide +kernel
theorem dX9_count_91 : decode cX9_count 91 = .ok (.bipush (-4), 2) := by decide +kernel
theorem dX9_count_93 : decode cX9_count 93 = .ok (.goto 12, 3) := by decide +kernel
theorem dX9_count_96 : decode cX9_count 96 = .ok (.aload_n 0, 1) := by decide +kernel
theorem dX9_count_97 : decode cX9_count 97 = .ok (.getfield 76, 3) := by decide +kernel
theorem dX9_count_100 : decode cX9_count 100 = .ok (.iconst 0, 1) := by decide +kernel
theorem dX9_count_101 : decode cX9_count 101 = .ok (.aaload, 1) := by decide +kernel
theorem dX9_count_102 : decode cX9_count 102 = .ok (.getfield 314, 3) := by decide +kernel
theorem dX9_count_105 : decode cX9_count 105 = .ok (.ireturn, 1) := by decide +kernel
theorem dX9_count_106 : decode cX9_count 106 = .ok (.aload_n 0, 1) := by decide +kernel
theorem dX9_count_107 : decode cX9_count 107 = .ok (.getfield 80, 3) := by decide +kernel
theorem dX9_count_110 : decode cX9_count 110 = .ok (.ireturn, 1) := by decide +kernel
theorem dX9_count_111 : decode cX9_count 111 = .ok (.iconst (-1), 1) := by decide +kernel
theorem dX9_count_112 : decode cX9_count 112 = .ok (.ireturn, 1) := by decide +kernel
theorem dX9_within_0 : decode cX9_within 0 = .ok (.iload_n 0, 1) := by decide +kernel
theorem dX9_within_1 : decode cX9_within 1 = .ok (.ifCond .lt 12, 3) := by decide +kernel
theorem dX9_within_4 : decode cX9_within 4 = .ok (.iload_n 0, 1) := by decide +kernel
theorem dX9_within_5 : decode cX9_within 5 = .ok (.iload_n 1, 1) := by decide +kernel
theorem dX9_within_6 : decode cX9_within 6 = .ok (.if_icmp .gt 7, 3) := by decide +kernel
theorem dX9_within_9 : decode cX9_within 9 = .ok (.iconst 1, 1) := by decide +kernel
theorem dX9_within_10 : decode cX9_within 10 = .ok (.goto 4, 3) := by decide +kernel
theorem dX9_within_13 : decode cX9_within 13 = .ok (.iconst 0, 1) := by decide +kernel
theorem dX9_within_14 : decode cX9_within 14 = .ok (.ireturn, 1) := by decide +kernel
theorem dX9_isVariable_0 : decode cX9_isVariable 0 = .ok (.iload_n 0, 1) := by decide +kernel
theorem dX9_isVariable_1 : decode cX9_isVariable 1 = .ok (.ifCond .lt 12, 3) := by decide +kernel
theorem dX9_isVariable_4 : decode cX9_isVariable 4 = .ok (.iload_n 0, 1) := by decide +kernel
theorem dX9_isVariable_5 : decode cX9_isVariable 5 = .ok (.iconst 4, 1) := by decide +kernel
theorem dX9_isVariable_6 : decode cX9_isVariable 6 = .ok (.if_icmp .ge 7, 3) := by decide +kernel
theorem dX9_isVariable_9 : decode cX9_isVariable 9 = .ok (.iconst 1, 1) := by decide +kernel
theorem dX9_isVariable_10 : decode cX9_isVariable 10 = .ok (.goto 4, 3) := by decide +kernel
theorem dX9_isVariable_13 : decode cX9_isVariable 13 = .ok (.iconst 0, 1) := by decide +kernel
theorem dX9_isVariable_14 : decode cX9_isVariable 14 = .ok (.ireturn, 1) := by decide +kernel
theorem dX9_chosen_0 : decode cX9_chosen 0 = .ok (.iload_n 1, 1) := by decide +kernel
theorem dX9_chosen_1 : decode cX9_chosen 1 = .ok (.ifCond .ne 10, 3) := by decide +kernel
theorem dX9_chosen_4 : decode cX9_chosen 4 = .ok (.aload_n 0, 1) := by decide +kernel
theorem dX9_chosen_5 : decode cX9_chosen 5 = .ok (.getfield 25, 3) := by decide +kernel
theorem dX9_chosen_8 : decode cX9_chosen 8 = .ok (.goto 7, 3) := by decide +kernel
theorem dX9_chosen_11 : decode cX9_chosen 11 = .ok (.aload_n 0, 1) := by decide +kernel
theorem dX9_chosen_12 : decode cX9_chosen 12 = .ok (.getfield 28, 3) := by decide +kernel
theorem dX9_chosen_15 : decode cX9_chosen 15 = .ok (.areturn, 1) := by decide +kernel
theorem dX9_nilInputs_0 : decode cX9_nilInputs 0 = .ok (.iconst 0, 1) := by decide +kernel
theorem dX9_nilInputs_1 : decode cX9_nilInputs 1 = .ok (.istore_n 1, 1) := by decide +kernel
theorem dX9_nilInputs_2 : decode cX9_nilInputs 2 = .ok (.iconst 0, 1) := by decide +kernel
theorem dX9_nilInputs_3 : decode cX9_nilInputs 3 = .ok (.istore_n 2, 1) := by decide +kernel
theorem dX9_nilInputs_4 : decode cX9_nilInputs 4 = .ok (.iload_n 2, 1) := by decide +kernel
theorem dX9_nilInputs_5 : decode cX9_nilInputs 5 = .ok (.bipush 8, 2) := by decide +kernel
theorem dX9_nilInputs_7 : decode cX9_nilInputs 7 = .ok (.if_icmp .ge 23, 3) := by decide +kernel
theorem dX9_nilInputs_10 : decode cX9_nilInputs 10 = .ok (.aload_n 0, 1) := by decide +kernel
theorem dX9_nilInputs_11 : decode cX9_nilInputs 11 = .ok (.getfield 67, 3) := by decide +kernel
theorem dX9_nilInputs_14 : decode cX9_nilInputs 14 = .ok (.iload_n 2, 1) := by decide +kernel
theorem dX9_nilInputs_15 : decode cX9_nilInputs 15 = .ok (.iaload, 1) := by decide +kernel
theorem dX9_nilInputs_16 : decode cX9_nilInputs 16 = .ok (.bipush 51, 2) := by decide +kernel
theorem dX9_nilInputs_18 : decode cX9_nilInputs 18 = .ok (.if_icmp .ne 6, 3) := by decide +kernel
theorem dX9_nilInputs_21 : decode cX9_nilInputs 21 = .ok (.iinc 1 1, 3) := by decide +kernel
theorem dX9_nilInputs_24 : decode cX9_nilInputs 24 = .ok (.iinc 2 1, 3) := by decide +kernel
theorem dX9_nilInputs_27 : decode cX9_nilInputs 27 = .ok (.goto (-23), 3) := by decide +kernel
theorem dX9_nilInputs_30 : decode cX9_nilInputs 30 = .ok (.iload_n 1, 1) := by decide +kernel
theorem dX9_nilInputs_31 : decode cX9_nilInputs 31 = .ok (.ireturn, 1) := by decide +kernel
theorem dX9_startAnew_0 : decode cX9_startAnew 0 = .ok (.aload_n 0, 1) := by decide +kernel
theorem dX9_startAnew_1 : decode cX9_startAnew 1 = .ok (.getfield 25, 3) := by decide +kernel
theorem dX9_startAnew_4 : decode cX9_startAnew 4 = .ok (.invokevirtual 315, 3) := by decide +kernel
theorem dX9_startAnew_7 : decode cX9_startAnew 7 = .ok (.aload_n 0, 1) := by decide +kernel
theorem dX9_startAnew_8 : decode cX9_startAnew 8 = .ok (.getfield 28, 3) := by decide +kernel
theorem dX9_startAnew_11 : decode cX9_startAnew 11 = .ok (.aload_n 0, 1) := by decide +kernel
theorem dX9_startAnew_12 : decode cX9_startAnew 12 = .ok (.getfield 25, 3) := by decide +kernel
theorem dX9_startAnew_15 : decode cX9_startAnew 15 = .ok (.invokevirtual 110, 3) := by decide +kernel
theorem dX9_startAnew_18 : decode cX9_startAnew 18 = .ok (.iconst 0, 1) := by decide +kernel
theorem dX9_startAnew_19 : decode cX9_startAnew 19 = .ok (.istore_n 1, 1) := by decide +kernel
theorem dX9_startAnew_20 : decode cX9_startAnew 20 = .ok (.iload_n 1, 1) := by decide +kernel
theorem dX9_startAnew_21 : decode cX9_startAnew 21 = .ok (.iconst 2, 1) := by decide +kernel
theorem dX9_startAnew_22 : decode cX9_startAnew 22 = .ok (.if_icmp .ge 16, 3) := by decide +kernel
theorem dX9_startAnew_25 : decode cX9_startAnew 25 = .ok (.aload_n 0, 1) := by decide +kernel
theorem dX9_startAnew_26 : decode cX9_startAnew 26 = .ok (.getfield 35, 3) := by decide +kernel
theorem dX9_startAnew_29 : decode cX9_startAnew 29 = .ok (.iload_n 1, 1) := by decide +kernel
theorem dX9_startAnew_30 : decode cX9_startAnew 30 = .ok (.iconst 0, 1) := by decide +kernel
theorem dX9_startAnew_31 : decode cX9_startAnew 31 = .ok (.bastore, 1) := by decide +kernel
theorem dX9_startAnew_32 : decode cX9_startAnew 32 = .ok (.iinc 1 1, 3) := by decide +kernel
theorem dX9_startAnew_35 : decode cX9_startAnew 35 = .ok (.goto (-15), 3) := by decide +kernel
theorem dX9_startAnew_38 : decode cX9_startAnew 38 = .ok (.aload_n 0, 1) := by decide +kernel
theorem dX9_startAnew_39 : decode cX9_startAnew 39 = .ok (.iconst 0, 1) := by decide +kernel
theorem dX9_startAnew_40 : decode cX9_startAnew 40 = .ok (.putfield 87, 3) := by decide +kernel
theorem dX9_startAnew_43 : decode cX9_startAnew 43 = .ok (.return_, 1) := by decide +kernel
theorem dX9_refresh_0 : decode cX9_refresh 0 = .ok (.aload_n 0, 1) := by decide +kernel
theorem dX9_refresh_1 : decode cX9_refresh 1 = .ok (.getfield 87, 3) := by decide +kernel
theorem dX9_refresh_4 : decode cX9_refresh 4 = .ok (.ifCond .ne 41, 3) := by decide +kernel
theorem dX9_refresh_7 : decode cX9_refresh 7 = .ok (.aload_n 0, 1) := by decide +kernel
theorem dX9_refresh_8 : decode cX9_refresh 8 = .ok (.getfield 42, 3) := by decide +kernel
theorem dX9_refresh_11 : decode cX9_refresh 11 = .ok (.aload_n 0, 1) := by decide +kernel
theorem dX9_refresh_12 : decode cX9_refresh 12 = .ok (.getfield 28, 3) := by decide +kernel
theorem dX9_refresh_15 : decode cX9_refresh 15 = .ok (.invokevirtual 318, 3) := by decide +kernel
theorem dX9_refresh_18 : decode cX9_refresh 18 = .ok (.aload_n 0, 1) := by decide +kernel
theorem dX9_refresh_19 : decode cX9_refresh 19 = .ok (.getfield 42, 3) := by decide +kernel
theorem dX9_refresh_22 : decode cX9_refresh 22 = .ok (.aload_n 0, 1) := by decide +kernel
theorem dX9_refresh_23 : decode cX9_refresh 23 = .ok (.getfield 28, 3) := by decide +kernel
theorem dX9_refresh_26 : decode cX9_refresh 26 = .ok (.invokevirtual 321, 3) := by decide +kernel
theorem dX9_refresh_29 : decode cX9_refresh 29 = .ok (.aload_n 0, 1) := by decide +kernel
theorem dX9_refresh_30 : decode cX9_refresh 30 = .ok (.getfield 49, 3) := by decide +kernel
theorem dX9_refresh_33 : decode cX9_refresh 33 = .ok (.aload_n 0, 1) := by decide +kernel
theorem dX9_refresh_34 : decode cX9_refresh 34 = .ok (.getfield 28, 3) := by decide +kernel
theorem dX9_refresh_37 : decode cX9_refresh 37 = .ok (.invokevirtual 324, 3) := by decide +kernel
theorem dX9_refresh_40 : decode cX9_refresh 40 = .ok (.aload_n 0, 1) := by decide +kernel
theorem dX9_refresh_41 : decode cX9_refresh 41 = .ok (.iconst 1, 1) := by decide +kernel
theorem dX9_refresh_42 : decode cX9_refresh 42 = .ok (.putfield 87, 3) := by decide +kernel
theorem dX9_refresh_45 : decode cX9_refresh 45 = .ok (.return_, 1) := by decide +kernel
theorem dX9_reasonAgainst_0 : decode cX9_reasonAgainst 0 = .ok (.aload_n 0, 1) := by decide +kernel
theorem dX9_reasonAgainst_1 : decode cX9_reasonAgainst 1 = .ok (.getfield 42, 3) := by decide +kernel
theorem dX9_reasonAgainst_4 : decode cX9_reasonAgainst 4 = .ok (.iload_n 1, 1) := by decide +kernel
theorem dX9_reasonAgainst_5 : decode cX9_reasonAgainst 5 = .ok (.iload_n 2, 1) := by decide +kernel
theorem dX9_reasonAgainst_6 : decode cX9_reasonAgainst 6 = .ok (.invokevirtual 208, 3) := by decide +kernel
theorem dX9_reasonAgainst_9 : decode cX9_reasonAgainst 9 = .ok (.ifCond .ne 5, 3) := by decide +kernel
theorem dX9_reasonAgainst_12 : decode cX9_reasonAgainst 12 = .ok (.iconst 1, 1) := by decide +kernel
theorem dX9_reasonAgainst_13 : decode cX9_reasonAgainst 13 = .ok (.ireturn, 1) := by decide +kernel
theorem dX9_reasonAgainst_14 : decode cX9_reasonAgainst 14 = .ok (.aload_n 0, 1) := by decide +kernel
theorem dX9_reasonAgainst_15 : decode cX9_reasonAgainst 15 = .ok (.getfield 28, 3) := by decide +kernel
theorem dX9_reasonAgainst_18 : decode cX9_reasonAgainst 18 = .ok (.iload_n 1, 1) := by decide +kernel
theorem dX9_reasonAgainst_19 : decode cX9_reasonAgainst 19 = .ok (.invokevirtual 159, 3) := by decide +kernel
theorem dX9_reasonAgainst_22 : decode cX9_reasonAgainst 22 = .ok (.iload_n 2, 1) := by decide +kernel
theorem dX9_reasonAgainst_23 : decode cX9_reasonAgainst 23 = .ok (.invokevirtual 174, 3) := by decide +kernel
theorem dX9_reasonAgainst_26 : decode cX9_reasonAgainst 26 = .ok (.istore_n 3, 1) := by decide +kernel
theorem dX9_reasonAgainst_27 : decode cX9_reasonAgainst 27 = .ok (.aload_n 0, 1) := by decide +kernel
theorem dX9_reasonAgainst_28 : decode cX9_reasonAgainst 28 = .ok (.getfield 28, 3) := by decide +kernel
theorem dX9_reasonAgainst_31 : decode cX9_reasonAgainst 31 = .ok (.iload_n 3, 1) := by decide +kernel
theorem dX9_reasonAgainst_32 : decode cX9_reasonAgainst 32 = .ok (.invokevirtual 159, 3) := by decide +kernel
theorem dX9_reasonAgainst_35 : decode cX9_reasonAgainst 35 = .ok (.astore 4, 2) := by decide +kernel
theorem dX9_reasonAgainst_37 : decode cX9_reasonAgainst 37 = .ok (.aload 4, 2) := by decide +kernel
theorem dX9_reasonAgainst_39 : decode cX9_reasonAgainst 39 = .ok (.invokevirtual 180, 3) := by decide +kernel
theorem dX9_reasonAgainst_42 : decode cX9_reasonAgainst 42 = .ok (.ifCond .ne 5, 3) := by decide +kernel
theorem dX9_reasonAgainst_45 : decode cX9_reasonAgainst 45 = .ok (.iconst 2, 1) := by decide +kernel
theorem dX9_reasonAgainst_46 : decode cX9_reasonAgainst 46 = .ok (.ireturn, 1) := by decide +kernel
theorem dX9_reasonAgainst_47 : decode cX9_reasonAgainst 47 = .ok (.aload_n 0, 1) := by decide +kernel
theorem dX9_reasonAgainst_48 : decode cX9_reasonAgainst 48 = .ok (.getfield 42, 3) := by decide +kernel
theorem dX9_reasonAgainst_51 : decode cX9_reasonAgainst 51 = .ok (.iload_n 1, 1) := by decide +kernel
theorem dX9_reasonAgainst_52 : decode cX9_reasonAgainst 52 = .ok (.iload_n 2, 1) := by decide +kernel
theorem dX9_reasonAgainst_53 : decode cX9_reasonAgainst 53 = .ok (.invokevirtual 217, 3) := by decide +kernel
theorem dX9_reasonAgainst_56 : decode cX9_reasonAgainst 56 = .ok (.ifCond .ne 5, 3) := by decide +kernel
theorem dX9_reasonAgainst_59 : decode cX9_reasonAgainst 59 = .ok (.iconst 3, 1) := by decide +kernel
theorem dX9_reasonAgainst_60 : decode cX9_reasonAgainst 60 = .ok (.ireturn, 1) := by decide +kernel
theorem dX9_reasonAgainst_61 : decode cX9_reasonAgainst 61 = .ok (.aload_n 0, 1) := by decide +kernel
theorem dX9_reasonAgainst_62 : decode cX9_reasonAgainst 62 = .ok (.getfield 49, 3) := by decide +kernel
theorem dX9_reasonAgainst_65 : decode cX9_reasonAgainst 65 = .ok (.iload_n 3, 1) := by decide +kernel
theorem dX9_reasonAgainst_66 : decode cX9_reasonAgainst 66 = .ok (.invokevirtual 226, 3) := by decide +kernel
theorem dX9_reasonAgainst_69 : decode cX9_reasonAgainst 69 = .ok (.ifCond .eq 5, 3) := by decide +kernel
theorem dX9_reasonAgainst_72 : decode cX9_reasonAgainst 72 = .ok (.iconst 4, 1) := by decide +kernel
theorem dX9_reasonAgainst_73 : decode cX9_reasonAgainst 73 = .ok (.ireturn, 1) := by decide +kernel
theorem dX9_reasonAgainst_74 : decode cX9_reasonAgainst 74 = .ok (.aload 4, 2) := by decide +kernel
theorem dX9_reasonAgainst_76 : decode cX9_reasonAgainst 76 = .ok (.getfield 163, 3) := by decide +kernel
theorem dX9_reasonAgainst_79 : decode cX9_reasonAgainst 79 = .ok (.aload_n 0, 1) := by decide +kernel
theorem dX9_reasonAgainst_80 : decode cX9_reasonAgainst 80 = .ok (.getfield 80, 3) := by decide +kernel
theorem dX9_reasonAgainst_83 : decode cX9_reasonAgainst 83 = .ok (.if_icmp .le 5, 3) := by decide +kernel
theorem dX9_reasonAgainst_86 : decode cX9_reasonAgainst 86 = .ok (.iconst 5, 1) := by decide +kernel
theorem dX9_reasonAgainst_87 : decode cX9_reasonAgainst 87 = .ok (.ireturn, 1) := by decide +kernel
theorem dX9_reasonAgainst_88 : decode cX9_reasonAgainst 88 = .ok (.aload_n 0, 1) := by decide +kernel
theorem dX9_reasonAgainst_89 : decode cX9_reasonAgainst 89 = .ok (.getfield 28, 3) := by decide +kernel
theorem dX9_reasonAgainst_92 : decode cX9_reasonAgainst 92 = .ok (.invokevirtual 325, 3) := by decide +kernel
theorem dX9_reasonAgainst_95 : decode cX9_reasonAgainst 95 = .ok (.ifCond .eq 8, 3) := by decide +kernel
theorem dX9_reasonAgainst_98 : decode cX9_reasonAgainst 98 = .ok (.bipush 6, 2) := by decide +kernel
theorem dX9_reasonAgainst_100 : decode cX9_reasonAgainst 100 = .ok (.goto 4, 3) := by decide +kernel
theorem dX9_reasonAgainst_103 : decode cX9_reasonAgainst 103 = .ok (.iconst 0, 1) := by decide +kernel
theorem dX9_reasonAgainst_104 : decode cX9_reasonAgainst 104 = .ok (.ireturn, 1) := by decide +kernel
theorem dX9_canThread_0 : decode cX9_canThread 0 = .ok (.aload_n 0, 1) := by decide +kernel
theorem dX9_canThread_1 : decode cX9_canThread 1 = .ok (.getfield 28, 3) := by decide +kernel
theorem dX9_canThread_4 : decode cX9_canThread 4 = .ok (.iload_n 1, 1) := by decide +kernel
theorem dX9_canThread_5 : decode cX9_canThread 5 = .ok (.iconst 2, 1) := by decide +kernel
theorem dX9_canThread_6 : decode cX9_canThread 6 = .ok (.idiv, 1) := by decide +kernel
theorem dX9_canThread_7 : decode cX9_canThread 7 = .ok (.iload_n 1, 1) := by decide +kernel
theorem dX9_canThread_8 : decode cX9_canThread 8 = .ok (.iconst 2, 1) := by decide +kernel
theorem dX9_canThread_9 : decode cX9_canThread 9 = .ok (.irem, 1) := by decide +kernel
theorem dX9_canThread_10 : decode cX9_canThread 10 = .ok (.invokevirtual 206, 3) := by decide +kernel
theorem dX9_canThread_13 : decode cX9_canThread 13 = .ok (.ifCond .eq 20, 3) := by decide +kernel
theorem dX9_canThread_16 : decode cX9_canThread 16 = .ok (.aload_n 0, 1) := by decide +kernel
theorem dX9_canThread_17 : decode cX9_canThread 17 = .ok (.iload_n 1, 1) := by decide +kernel
theorem dX9_canThread_18 : decode cX9_canThread 18 = .ok (.iconst 2, 1) := by decide +kernel
theorem dX9_canThread_19 : decode cX9_canThread 19 = .ok (.idiv, 1) := by decide +kernel
theorem dX9_canThread_20 : decode cX9_canThread 20 = .ok (.iload_n 1, 1) := by decide +kernel
theorem dX9_canThread_21 : decode cX9_canThread 21 = .ok (.iconst 2, 1) := by decide +kernel
theorem dX9_canThread_22 : decode cX9_canThread 22 = .ok (.irem, 1) := by decide +kernel
theorem dX9_canThread_23 : decode cX9_canThread 23 = .ok (.invokevirtual 220, 3) := by decide +kernel
theorem dX9_canThread_26 : decode cX9_canThread 26 = .ok (.ifCond .ne 7, 3) := by decide +kernel
theorem dX9_canThread_29 : decode cX9_canThread 29 = .ok (.iconst 1, 1) := by decide +kernel
theorem dX9_canThread_30 : decode cX9_canThread 30 = .ok (.goto 4, 3) := by decide +kernel
theorem dX9_canThread_33 : decode cX9_canThread 33 = .ok (.iconst 0, 1) := by decide +kernel
theorem dX9_canThread_34 : decode cX9_canThread 34 = .ok (.ireturn, 1) := by decide +kernel
theorem dX9_edgesToThread_0 : decode cX9_edgesToThread 0 = .ok (.iconst 0, 1) := by decide +kernel
theorem dX9_edgesToThread_1 : decode cX9_edgesToThread 1 = .ok (.istore_n 1, 1) := by decide +kernel
theorem dX9_edgesToThread_2 : decode cX9_edgesToThread 2 = .ok (.iconst 0, 1) := by decide +kernel
theorem dX9_edgesToThread_3 : decode cX9_edgesToThread 3 = .ok (.istore_n 2, 1) := by decide +kernel
theorem dX9_edgesToThread_4 : decode cX9_edgesToThread 4 = .ok (.iload_n 2, 1) := by decide +kernel
theorem dX9_edgesToThread_5 : decode cX9_edgesToThread 5 = .ok (.iconst 2, 1) := by decide +kernel
theorem dX9_edgesToThread_6 : decode cX9_edgesToThread 6 = .ok (.aload_n 0, 1) := by decide +kernel
theorem dX9_edgesToThread_7 : decode cX9_edgesToThread 7 = .ok (.getfield 28, 3) := by decide +kernel
theorem dX9_edgesToThread_10 : decode cX9_edgesToThread 10 = .ok (.getfield 117, 3) := by decide +kernel
theorem dX9_edgesToThread_13 : decode cX9_edgesToThread 13 = .ok (.imul, 1) := by decide +kernel
theorem dX9_edgesToThread_14 : decode cX9_edgesToThread 14 = .ok (.if_icmp .ge 25, 3) := by decide +kernel
theorem dX9_edgesToThread_17 : decode cX9_edgesToThread 17 = .ok (.iload_n 1, 1) := by decide +kernel
theorem dX9_edgesToThread_18 : decode cX9_edgesToThread 18 = .ok (.aload_n 0, 1) := by decide +kernel
theorem dX9_edgesToThread_19 : decode cX9_edgesToThread 19 = .ok (.iload_n 2, 1) := by decide +kernel
theorem dX9_edgesToThread_20 : decode cX9_edgesToThread 20 = .ok (.invokevirtual 328, 3) := by decide +kernel
theorem dX9_edgesToThread_23 : decode cX9_edgesToThread 23 = .ok (.ifCond .eq 7, 3) := by decide +kernel
theorem dX9_edgesToThread_26 : decode cX9_edgesToThread 26 = .ok (.iconst 1, 1) := by decide +kernel
theorem dX9_edgesToThread_27 : decode cX9_edgesToThread 27 = .ok (.goto 4, 3) := by decide +kernel
theorem dX9_edgesToThread_30 : decode cX9_edgesToThread 30 = .ok (.iconst 0, 1) := by decide +kernel
theorem dX9_edgesToThread_31 : decode cX9_edgesToThread 31 = .ok (.iadd, 1) := by decide +kernel
theorem dX9_edgesToThread_32 : decode cX9_edgesToThread 32 = .ok (.istore_n 1, 1) := by decide +kernel
theorem dX9_edgesToThread_33 : decode cX9_edgesToThread 33 = .ok (.iinc 2 1, 3) := by decide +kernel
theorem dX9_edgesToThread_36 : decode cX9_edgesToThread 36 = .ok (.goto (-32), 3) := by decide +kernel
theorem dX9_edgesToThread_39 : decode cX9_edgesToThread 39 = .ok (.iload_n 1, 1) := by decide +kernel
theorem dX9_edgesToThread_40 : decode cX9_edgesToThread 40 = .ok (.ireturn, 1) := by decide +kernel
theorem dX9_threadFirst_0 : decode cX9_threadFirst 0 = .ok (.iconst 0, 1) := by decide +kernel
theorem dX9_threadFirst_1 : decode cX9_threadFirst 1 = .ok (.istore_n 1, 1) := by decide +kernel
theorem dX9_threadFirst_2 : decode cX9_threadFirst 2 = .ok (.iload_n 1, 1) := by decide +kernel
theorem dX9_threadFirst_3 : decode cX9_threadFirst 3 = .ok (.iconst 2, 1) := by decide +kernel
theorem dX9_threadFirst_4 : decode cX9_threadFirst 4 = .ok (.aload_n 0, 1) := by decide +kernel
theorem dX9_threadFirst_5 : decode cX9_threadFirst 5 = .ok (.getfield 28, 3) := by decide +kernel
theorem dX9_threadFirst_8 : decode cX9_threadFirst 8 = .ok (.getfield 117, 3) := by decide +kernel
theorem dX9_threadFirst_11 : decode cX9_threadFirst 11 = .ok (.imul, 1) := by decide +kernel
theorem dX9_threadFirst_12 : decode cX9_threadFirst 12 = .ok (.if_icmp .ge 30, 3) := by decide +kernel
theorem dX9_threadFirst_15 : decode cX9_threadFirst 15 = .ok (.aload_n 0, 1) := by decide +kernel
theorem dX9_threadFirst_16 : decode cX9_threadFirst 16 = .ok (.iload_n 1, 1) := by decide +kernel
theorem dX9_threadFirst_17 : decode cX9_threadFirst 17 = .ok (.invokevirtual 328, 3) := by decide +kernel
theorem dX9_threadFirst_20 : decode cX9_threadFirst 20 = .ok (.ifCond .eq 16, 3) := by decide +kernel
theorem dX9_threadFirst_23 : decode cX9_threadFirst 23 = .ok (.aload_n 0, 1) := by decide +kernel
theorem dX9_threadFirst_24 : decode cX9_threadFirst 24 = .ok (.iload_n 1, 1) := by decide +kernel
theorem dX9_threadFirst_25 : decode cX9_threadFirst 25 = .ok (.iconst 2, 1) := by decide +kernel
theorem dX9_threadFirst_26 : decode cX9_threadFirst 26 = .ok (.idiv, 1) := by decide +kernel
theorem dX9_threadFirst_27 : decode cX9_threadFirst 27 = .ok (.iload_n 1, 1) := by decide +kernel
theorem dX9_threadFirst_28 : decode cX9_threadFirst 28 = .ok (.iconst 2, 1) := by decide +kernel
theorem dX9_threadFirst_29 : decode cX9_threadFirst 29 = .ok (.irem, 1) := by decide +kernel
theorem dX9_threadFirst_30 : decode cX9_threadFirst 30 = .ok (.invokevirtual 232, 3) := by decide +kernel
theorem dX9_threadFirst_33 : decode cX9_threadFirst 33 = .ok (.pop, 1) := by decide +kernel
theorem dX9_threadFirst_34 : decode cX9_threadFirst 34 = .ok (.iconst 1, 1) := by decide +kernel
theorem dX9_threadFirst_35 : decode cX9_threadFirst 35 = .ok (.ireturn, 1) := by decide +kernel
theorem dX9_threadFirst_36 : decode cX9_threadFirst 36 = .ok (.iinc 1 1, 3) := by decide +kernel
theorem dX9_threadFirst_39 : decode cX9_threadFirst 39 = .ok (.goto (-37), 3) := by decide +kernel
theorem dX9_threadFirst_42 : decode cX9_threadFirst 42 = .ok (.iconst 0, 1) := by decide +kernel
theorem dX9_threadFirst_43 : decode cX9_threadFirst 43 = .ok (.ireturn, 1) := by decide +kernel
theorem dX9_threadEdge_0 : decode cX9_threadEdge 0 = .ok (.aload_n 0, 1) := by decide +kernel
theorem dX9_threadEdge_1 : decode cX9_threadEdge 1 = .ok (.getfield 28, 3) := by decide +kernel
theorem dX9_threadEdge_4 : decode cX9_threadEdge 4 = .ok (.iload_n 1, 1) := by decide +kernel
theorem dX9_threadEdge_5 : decode cX9_threadEdge 5 = .ok (.invokevirtual 159, 3) := by decide +kernel
theorem dX9_threadEdge_8 : decode cX9_threadEdge 8 = .ok (.astore_n 3, 1) := by decide +kernel
theorem dX9_threadEdge_9 : decode cX9_threadEdge 9 = .ok (.aload_n 0, 1) := by decide +kernel
theorem dX9_threadEdge_10 : decode cX9_threadEdge 10 = .ok (.getfield 28, 3) := by decide +kernel
theorem dX9_threadEdge_13 : decode cX9_threadEdge 13 = .ok (.aload_n 3, 1) := by decide +kernel
theorem dX9_threadEdge_14 : decode cX9_threadEdge 14 = .ok (.iload_n 2, 1) := by decide +kernel
theorem dX9_threadEdge_15 : decode cX9_threadEdge 15 = .ok (.invokevirtual 174, 3) := by decide +kernel
theorem dX9_threadEdge_18 : decode cX9_threadEdge 18 = .ok (.invokevirtual 159, 3) := by decide +kernel
theorem dX9_threadEdge_21 : decode cX9_threadEdge 21 = .ok (.astore 4, 2) := by decide +kernel
theorem dX9_threadEdge_23 : decode cX9_threadEdge 23 = .ok (.aload_n 0, 1) := by decide +kernel
theorem dX9_threadEdge_24 : decode cX9_threadEdge 24 = .ok (.getfield 42, 3) := by decide +kernel
theorem dX9_threadEdge_27 : decode cX9_threadEdge 27 = .ok (.iload_n 1, 1) := by decide +kernel
theorem dX9_threadEdge_28 : decode cX9_threadEdge 28 = .ok (.iload_n 2, 1) := by decide +kernel
theorem dX9_threadEdge_29 : decode cX9_threadEdge 29 = .ok (.invokevirtual 217, 3) := by decide +kernel
theorem dX9_threadEdge_32 : decode cX9_threadEdge 32 = .ok (.istore 5, 2) := by decide +kernel
theorem dX9_threadEdge_34 : decode cX9_threadEdge 34 = .ok (.aload_n 0, 1) := by decide +kernel
theorem dX9_threadEdge_35 : decode cX9_threadEdge 35 = .ok (.getfield 28, 3) := by decide +kernel
theorem dX9_threadEdge_38 : decode cX9_threadEdge 38 = .ok (.getfield 117, 3) := by decide +kernel
theorem dX9_threadEdge_41 : decode cX9_threadEdge 41 = .ok (.istore 6, 2) := by decide +kernel
theorem dX9_threadEdge_43 : decode cX9_threadEdge 43 = .ok (.aload_n 0, 1) := by decide +kernel
theorem dX9_threadEdge_44 : decode cX9_threadEdge 44 = .ok (.getfield 28, 3) := by decide +kernel
theorem dX9_threadEdge_47 : decode cX9_threadEdge 47 = .ok (.invokevirtual 282, 3) := by decide +kernel
theorem dX9_threadEdge_50 : decode cX9_threadEdge 50 = .ok (.astore 7, 2) := by decide +kernel
theorem dX9_threadEdge_52 : decode cX9_threadEdge 52 = .ok (.aload 7, 2) := by decide +kernel
theorem dX9_threadEdge_54 : decode cX9_threadEdge 54 = .ok (.aload 4, 2) := by decide +kernel
theorem dX9_threadEdge_56 : decode cX9_threadEdge 56 = .ok (.invokevirtual 331, 3) := by decide +kernel
theorem dX9_threadEdge_59 : decode cX9_threadEdge 59 = .ok (.aload 7, 2) := by decide +kernel
theorem dX9_threadEdge_61 : decode cX9_threadEdge 61 = .ok (.aload 4, 2) := by decide +kernel
theorem dX9_threadEdge_63 : decode cX9_threadEdge 63 = .ok (.iload 5, 2) := by decide +kernel
theorem dX9_threadEdge_65 : decode cX9_threadEdge 65 = .ok (.iconst 1, 1) := by decide +kernel
theorem dX9_threadEdge_66 : decode cX9_threadEdge 66 = .ok (.isub, 1) := by decide +kernel
theorem dX9_threadEdge_67 : decode cX9_threadEdge 67 = .ok (.invokevirtual 174, 3) := by decide +kernel
theorem dX9_threadEdge_70 : decode cX9_threadEdge 70 = .ok (.invokevirtual 242, 3) := by decide +kernel
theorem dX9_threadEdge_73 : decode cX9_threadEdge 73 = .ok (.aload_n 3, 1) := by decide +kernel
theorem dX9_threadEdge_74 : decode cX9_threadEdge 74 = .ok (.iload_n 2, 1) := by decide +kernel
theorem dX9_threadEdge_75 : decode cX9_threadEdge 75 = .ok (.iload 6, 2) := by decide +kernel
theorem dX9_threadEdge_77 : decode cX9_threadEdge 77 = .ok (.invokevirtual 278, 3) := by decide +kernel
theorem dX9_threadEdge_80 : decode cX9_threadEdge 80 = .ok (.aload_n 0, 1) := by decide +kernel
theorem dX9_threadEdge_81 : decode cX9_threadEdge 81 = .ok (.iconst 0, 1) := by decide +kernel
theorem dX9_threadEdge_82 : decode cX9_threadEdge 82 = .ok (.putfield 87, 3) := by decide +kernel
theorem dX9_threadEdge_85 : decode cX9_threadEdge 85 = .ok (.iload 6, 2) := by decide +kernel
theorem dX9_threadEdge_87 : decode cX9_threadEdge 87 = .ok (.ireturn, 1) := by decide +kernel
theorem dX10_init_0 : decode cX10_init 0 = .ok (.aload_n 0, 1) := by decide +kernel
theorem dX10_init_1 : decode cX10_init 1 = .ok (.invokespecial 3, 3) := by decide +kernel
theorem dX10_init_4 : decode cX10_init 4 = .ok (.aload_n 0, 1) := by decide +kernel
theorem dX10_init_5 : decode cX10_init 5 = .ok (.sipush 1284, 3) := by decide +kernel
theorem dX10_init_8 : decode cX10_init 8 = .ok (.newarray .int, 2) := by decide +kernel
theorem dX10_init_10 : decode cX10_init 10 = .ok (.putfield 9, 3) := by decide +kernel
theorem dX10_init_13 : decode cX10_init 13 = .ok (.aload_n 0, 1) := by decide +kernel
theorem dX10_init_14 : decode cX10_init 14 = .ok (.sipush 321, 3) := by decide +kernel
theorem dX10_init_17 : decode cX10_init 17 = .ok (.newarray .int, 2) := by decide +kernel
theorem dX10_init_19 : decode cX10_init 19 = .ok (.putfield 13, 3) := by decide +kernel
theorem dX10_init_22 : decode cX10_init 22 = .ok (.aload_n 0, 1) := by decide +kernel
theorem dX10_init_23 : decode cX10_init 23 = .ok (.bipush 8, 2) := by decide +kernel
theorem dX10_init_25 : decode cX10_init 25 = .ok (.newarray .int, 2) := by decide +kernel
theorem dX10_init_27 : decode cX10_init 27 = .ok (.putfield 16, 3) := by decide +kernel
theorem dX10_init_30 : decode cX10_init 30 = .ok (.aload_n 0, 1) := by decide +kernel
theorem dX10_init_31 : decode cX10_init 31 = .ok (.iconst 2, 1) := by decide +kernel
theorem dX10_init_32 : decode cX10_init 32 = .ok (.newarray .boolean, 2) := by decide +kernel
theorem dX10_init_34 : decode cX10_init 34 = .ok (.putfield 19, 3) := by decide +kernel
theorem dX10_init_37 : decode cX10_init 37 = .ok (.aload_n 0, 1) := by decide +kernel
theorem dX10_init_38 : decode cX10_init 38 = .ok (.iconst 4, 1) := by decide +kernel
theorem dX10_init_39 : decode cX10_init 39 = .ok (.putfield 23, 3) := by decide +kernel
theorem dX10_init_42 : decode cX10_init 42 = .ok (.aload_n 0, 1) := by decide +kernel
theorem dX10_init_43 : decode cX10_init 43 = .ok (.sipush 200, 3) := by decide +kernel
theorem dX10_init_46 : decode cX10_init 46 = .ok (.newarray .int, 2) := by decide +kernel
theorem dX10_init_48 : decode cX10_init 48 = .ok (.putfield 27, 3) := by decide +kernel
theorem dX10_init_51 : decode cX10_init 51 = .ok (.aload_n 0, 1) := by decide +kernel
theorem dX10_init_52 : decode cX10_init 52 = .ok (.bipush 64, 2) := by decide +kernel
theorem dX10_init_54 : decode cX10_init 54 = .ok (.newarray .long, 2) := by decide +kernel
theorem dX10_init_56 : decode cX10_init 56 = .ok (.putfield 30, 3) := by decide +kernel
theorem dX10_init_59 : decode cX10_init 59 = .ok (.aload_n 0, 1) := by decide +kernel
theorem dX10_init_60 : decode cX10_init 60 = .ok (.iconst 4, 1) := by decide +kernel
theorem dX10_init_61 : decode cX10_init 61 = .ok (.newarray .long, 2) := by decide +kernel
theorem dX10_init_63 : decode cX10_init 63 = .ok (.putfield 34, 3) := by decide +kernel
theorem dX10_init_66 : decode cX10_init 66 = .ok (.aload_n 0, 1) := by decide +kernel
theorem dX10_init_67 : decode cX10_init 67 = .ok (.iconst 4, 1) := by decide +kernel
theorem dX10_init_68 : decode cX10_init 68 = .ok (.newarray .long, 2) := by decide +kernel
theorem dX10_init_70 : decode cX10_init 70 = .ok (.putfield 37, 3) := by decide +kernel
theorem dX10_init_73 : decode cX10_init 73 = .ok (.aload_n 0, 1) := by decide +kernel
theorem dX10_init_74 : decode cX10_init 74 = .ok (.bipush 16, 2) := by decide +kernel
theorem dX10_init_76 : decode cX10_init 76 = .ok (.newarray .boolean, 2) := by decide +kernel
theorem dX10_init_78 : decode cX10_init 78 = .ok (.putfield 40, 3) := by decide +kernel
theorem dX10_init_81 : decode cX10_init 81 = .ok (.aload_n 0, 1) := by decide +kernel
theorem dX10_init_82 : decode cX10_init 82 = .ok (.bipush 16, 2) := by decide +kernel
theorem dX10_init_84 : decode cX10_init 84 = .ok (.newarray .int, 2) := by decide +kernel
theorem dX10_init_86 : decode cX10_init 86 = .ok (.putfield 43, 3) := by decide +kernel
theorem dX10_init_89 : decode cX10_init 89 = .ok (.aload_n 0, 1) := by decide +kernel
theorem dX10_init_90 : decode cX10_init 90 = .ok (.bipush 16, 2) := by decide +kernel
theorem dX10_init_92 : decode cX10_init 92 = .ok (.newarray .int, 2) := by decide +kernel
theorem dX10_init_94 : decode cX10_init 94 = .ok (.putfield 46, 3) := by decide +kernel
theorem dX10_init_97 : decode cX10_init 97 = .ok (.aload_n 0, 1) := by decide +kernel
theorem dX10_init_98 : decode cX10_init 98 = .ok (.iconst 4, 1) := by decide +kernel
theorem dX10_init_99 : decode cX10_init 99 = .ok (.newarray .int, 2) := by decide +kernel
theorem dX10_init_101 : decode cX10_init 101 = .ok (.putfield 49, 3) := by decide +kernel
theorem dX10_init_104 : decode cX10_init 104 = .ok (.aload_n 0, 1) := by decide +kernel
theorem dX10_init_105 : decode cX10_init 105 = .ok (.sipush 240, 3) := by decide +kernel
theorem dX10_init_108 : decode cX10_init 108 = .ok (.newarray .int, 2) := by decide +kernel
theorem dX10_init_110 : decode cX10_init 110 = .ok (.putfield 52, 3) := by decide +kernel
theorem dX10_init_113 : decode cX10_init 113 = .ok (.aload_n 0, 1) := by decide +kernel
theorem dX10_init_114 : decode cX10_init 114 = .ok (.bipush 60, 2) := by decide +kernel
theorem dX10_init_116 : decode cX10_init 116 = .ok (.newarray .int, 2) := by decide +kernel
theorem dX10_init_118 : decode cX10_init 118 = .ok (.putfield 55, 3) := by decide +kernel
theorem dX10_init_121 : decode cX10_init 121 = .ok (.aload_n 0, 1) := by decide +kernel
theorem dX10_init_122 : decode cX10_init 122 = .ok (.bipush 8, 2) := by decide +kernel
theorem dX10_init_124 : decode cX10_init 124 = .ok (.newarray .int, 2) := by decide +kernel
theorem dX10_init_126 : decode cX10_init 126 = .ok (.putfield 58, 3) := by decide +kernel
theorem dX10_init_129 : decode cX10_init 129 = .ok (.aload_n 0, 1) := by decide +kernel
theorem dX10_init_130 : decode cX10_init 130 = .ok (.iconst 4, 1) := by decide +kernel
theorem dX10_init_131 : decode cX10_init 131 = .ok (.newarray .int, 2) := by decide +kernel
theorem dX10_init_133 : decode cX10_init 133 = .ok (.putfield 61, 3) := by decide +kernel
theorem dX10_init_136 : decode cX10_init 136 = .ok (.aload_n 0, 1) := by decide +kernel
theorem dX10_init_137 : decode cX10_init 137 = .ok (.iconst 4, 1) := by decide +kernel
theorem dX10_init_138 : decode cX10_init 138 = .ok (.newarray .int, 2) := by decide +kernel
theorem dX10_init_140 : decode cX10_init 140 = .ok (.putfield 64, 3) := by decide +kernel
theorem dX10_init_143 : decode cX10_init 143 = .ok (.aload_n 0, 1) := by decide +kernel
theorem dX10_init_144 : decode cX10_init 144 = .ok (.sipush 160, 3) := by decide +kernel
theorem dX10_init_147 : decode cX10_init 147 = .ok (.newarray .int, 2) := by decide +kernel
theorem dX10_init_149 : decode cX10_init 149 = .ok (.putfield 67, 3) := by decide +kernel
theorem dX10_init_152 : decode cX10_init 152 = .ok (.iconst 0, 1) := by decide +kernel
theorem dX10_init_153 : decode cX10_init 153 = .ok (.istore_n 1, 1) := by decide +kernel
theorem dX10_init_154 : decode cX10_init 154 = .ok (.iload_n 1, 1) := by decide +kernel
theorem dX10_init_155 : decode cX10_init 155 = .ok (.bipush 8, 2) := by decide +kernel
theorem dX10_init_157 : decode cX10_init 157 = .ok (.if_icmp .ge 17, 3) := by decide +kernel
theorem dX10_init_160 : decode cX10_init 160 = .ok (.aload_n 0, 1) := by decide +kernel
theorem dX10_init_161 : decode cX10_init 161 = .ok (.getfield 16, 3) := by decide +kernel
theorem dX10_init_164 : decode cX10_init 164 = .ok (.iload_n 1, 1) := by decide +kernel
theorem dX10_init_165 : decode cX10_init 165 = .ok (.bipush 51, 2) := by decide +kernel
theorem dX10_init_167 : decode cX10_init 167 = .ok (.iastore, 1) := by decide +kernel
theorem dX10_init_168 : decode cX10_init 168 = .ok (.iinc 1 1, 3) := by decide +kernel
theorem dX10_init_171 : decode cX10_init 171 = .ok (.goto (-17), 3) := by decide +kernel
theorem dX10_init_174 : decode cX10_init 174 = .ok (.iconst 0, 1) := by decide +kernel
theorem dX10_init_175 : decode cX10_init 175 = .ok (.istore_n 1, 1) := by decide +kernel
theorem dX10_init_176 : decode cX10_init 176 = .ok (.iload_n 1, 1) := by decide +kernel
theorem dX10_init_177 : decode cX10_init 177 = .ok (.iconst 4, 1) := by decide +kernel
theorem dX10_init_178 : decode cX10_init 178 = .ok (.if_icmp .ge 17, 3) := by decide +kernel
theorem dX10_init_181 : decode cX10_init 181 = .ok (.aload_n 0, 1) := by decide +kernel
theorem dX10_init_182 : decode cX10_init 182 = .ok (.getfield 61, 3) := by decide +kernel
theorem dX10_init_185 : decode cX10_init 185 = .ok (.iload_n 1, 1) := by decide +kernel
theorem dX10_init_186 : decode cX10_init 186 = .ok (.bipush (-4), 2) := by decide +kernel
theorem dX10_init_188 : decode cX10_init 188 = .ok (.iastore, 1) := by decide +kernel
theorem dX10_init_189 : decode cX10_init 189 = .ok (.iinc 1 1, 3) := by decide +kernel
theorem dX10_init_192 : decode cX10_init 192 = .ok (.goto (-16), 3) := by decide +kernel
theorem dX10_init_195 : decode cX10_init 195 = .ok (.return_, 1) := by decide +kernel
theorem dX10_in_0 : decode cX10_in 0 = .ok (.lload_n 0, 1) := by decide +kernel
theorem dX10_in_1 : decode cX10_in 1 = .ok (.lload_n 2, 1) := by decide +kernel
theorem dX10_in_2 : decode cX10_in 2 = .ok (.lcmp, 1) := by decide +kernel
theorem dX10_in_3 : decode cX10_in 3 = .ok (.ifCond .lt 14, 3) := by decide +kernel
theorem dX10_in_6 : decode cX10_in 6 = .ok (.lload_n 0, 1) := by decide +kernel
theorem dX10_in_7 : decode cX10_in 7 = .ok (.lload 4, 2) := by decide +kernel
theorem dX10_in_9 : decode cX10_in 9 = .ok (.lcmp, 1) := by decide +kernel
theorem dX10_in_10 : decode cX10_in 10 = .ok (.ifCond .gt 7, 3) := by decide +kernel
theorem dX10_in_13 : decode cX10_in 13 = .ok (.iconst 1, 1) := by decide +kernel
theorem dX10_in_14 : decode cX10_in 14 = .ok (.goto 4, 3) := by decide +kernel
theorem dX10_in_17 : decode cX10_in 17 = .ok (.iconst 0, 1) := by decide +kernel
theorem dX10_in_18 : decode cX10_in 18 = .ok (.ireturn, 1) := by decide +kernel
theorem dX10_flag_0 : decode cX10_flag 0 = .ok (.iload_n 0, 1) := by decide +kernel
theorem dX10_flag_1 : decode cX10_flag 1 = .ok (.ifCond .eq 7, 3) := by decide +kernel
theorem dX10_flag_4 : decode cX10_flag 4 = .ok (.iconst 1, 1) := by decide +kernel
theorem dX10_flag_5 : decode cX10_flag 5 = .ok (.goto 4, 3) := by decide +kernel
theorem dX10_flag_8 : decode cX10_flag 8 = .ok (.iconst 0, 1) := by decide +kernel
theorem dX10_flag_9 : decode cX10_flag 9 = .ok (.ireturn, 1) := by decide +kernel
theorem dX10_at_0 : decode cX10_at 0 = .ok (.sipush 321, 3) := by decide +kernel
theorem dX10_at_3 : decode cX10_at 3 = .ok (.iload_n 0, 1) := by decide +kernel
theorem dX10_at_4 : decode cX10_at 4 = .ok (.imul, 1) := by decide +kernel
theorem dX10_at_5 : decode cX10_at 5 = .ok (.iconst 1, 1) := by decide +kernel
theorem dX10_at_6 : decode cX10_at 6 = .ok (.iadd, 1) := by decide +kernel
theorem dX10_at_7 : decode cX10_at 7 = .ok (.bipush 20, 2) := by decide +kernel
theorem dX10_at_9 : decode cX10_at 9 = .ok (.iload_n 1, 1) := by decide +kernel
theorem dX10_at_10 : decode cX10_at 10 = .ok (.imul, 1) := by decide +kernel
theorem dX10_at_11 : decode cX10_at 11 = .ok (.iadd, 1) := by decide +kernel
theorem dX10_at_12 : decode cX10_at 12 = .ok (.iload_n 2, 1) := by decide +kernel
theorem dX10_at_13 : decode cX10_at 13 = .ok (.iadd, 1) := by decide +kernel
theorem dX10_at_14 : decode cX10_at 14 = .ok (.ireturn, 1) := by decide +kernel
theorem dX10_of_0 : decode cX10_of 0 = .ok (.aload_n 0, 1) := by decide +kernel
theorem dX10_of_1 : decode cX10_of 1 = .ok (.getfield 9, 3) := by decide +kernel
theorem dX10_of_4 : decode cX10_of 4 = .ok (.iload_n 1, 1) := by decide +kernel
theorem dX10_of_5 : decode cX10_of 5 = .ok (.iload_n 2, 1) := by decide +kernel
theorem dX10_of_6 : decode cX10_of 6 = .ok (.iload_n 3, 1) := by decide +kernel
theorem dX10_of_7 : decode cX10_of 7 = .ok (.invokestatic 70, 3) := by decide +kernel
theorem dX10_of_10 : decode cX10_of 10 = .ok (.iaload, 1) := by decide +kernel
theorem dX10_of_11 : decode cX10_of 11 = .ok (.ireturn, 1) := by decide +kernel
theorem dX10_many_0 : decode cX10_many 0 = .ok (.aload_n 0, 1) := by decide +kernel
theorem dX10_many_1 : decode cX10_many 1 = .ok (.getfield 9, 3) := by decide +kernel
theorem dX10_many_4 : decode cX10_many 4 = .ok (.sipush 321, 3) := by decide +kernel
theorem dX10_many_7 : decode cX10_many 7 = .ok (.iload_n 1, 1) := by decide +kernel
theorem dX10_many_8 : decode cX10_many 8 = .ok (.imul, 1) := by decide +kernel
theorem dX10_many_9 : decode cX10_many 9 = .ok (.iaload, 1) := by decide +kernel
theorem dX10_many_10 : decode cX10_many 10 = .ok (.ireturn, 1) := by decide +kernel
theorem dX10_copies_0 : decode cX10_copies 0 = .ok (.iconst 0, 1) := by decide +kernel
theorem dX10_copies_1 : decode cX10_copies 1 = .ok (.istore_n 3, 1) := by decide +kernel
theorem dX10_copies_2 : decode cX10_copies 2 = .ok (.iload_n 3, 1) := by decide +kernel
theorem dX10_copies_3 : decode cX10_copies 3 = .ok (.sipush 321, 3) := by decide +kernel
theorem dX10_copies_6 : decode cX10_copies 6 = .ok (.if_icmp .ge 33, 3) := by decide +kernel
theorem dX10_copies_9 : decode cX10_copies 9 = .ok (.aload_n 0, 1) := by decide +kernel
theorem dX10_copies_10 : decode cX10_copies 10 = .ok (.getfield 9, 3) := by decide +kernel
theorem dX10_copies_13 : decode cX10_copies 13 = .ok (.sipush 321, 3) := by decide +kernel
theorem dX10_copies_16 : decode cX10_copies 16 = .ok (.iload_n 2, 1) := by decide +kernel
theorem dX10_copies_17 : decode cX10_copies 17 = .ok (.imul, 1) := by decide +kernel
theorem dX10_copies_18 : decode cX10_copies 18 = .ok (.iload_n 3, 1) := by decide +kernel
theorem dX10_copies_19 : decode cX10_copies 19 = .ok (.iadd, 1) := by decide +kernel
theorem dX10_copies_20 : decode cX10_copies 20 = .ok (.aload_n 0, 1) := by decide +kernel
theorem dX10_copies_21 : decode cX10_copies 21 = .ok (.getfield 9, 3) := by decide +kernel
theorem dX10_copies_24 : decode cX10_copies 24 = .ok (.sipush 321, 3) := by decide +kernel
theorem dX10_copies_27 : decode cX10_copies 27 = .ok (.iload_n 1, 1) := by decide +kernel
theorem dX10_copies_28 : decode cX10_copies 28 = .ok (.imul, 1) := by decide +kernel
theorem dX10_copies_29 : decode cX10_copies 29 = .ok (.iload_n 3, 1) := by decide +kernel
theorem dX10_copies_30 : decode cX10_copies 30 = .ok (.iadd, 1) := by decide +kernel
theorem dX10_copies_31 : decode cX10_copies 31 = .ok (.iaload, 1) := by decide +kernel
theorem dX10_copies_32 : decode cX10_copies 32 = .ok (.iastore, 1) := by decide +kernel
theorem dX10_copies_33 : decode cX10_copies 33 = .ok (.iinc 3 1, 3) := by decide +kernel
theorem dX10_copies_36 : decode cX10_copies 36 = .ok (.goto (-34), 3) := by decide +kernel
theorem dX10_copies_39 : decode cX10_copies 39 = .ok (.return_, 1) := by decide +kernel
theorem dX10_anew_0 : decode cX10_anew 0 = .ok (.aload_n 0, 1) := by decide +kernel
theorem dX10_anew_1 : decode cX10_anew 1 = .ok (.iconst 0, 1) := by decide +kernel
theorem dX10_anew_2 : decode cX10_anew 2 = .ok (.iconst 1, 1) := by decide +kernel
theorem dX10_anew_3 : decode cX10_anew 3 = .ok (.invokevirtual 74, 3) := by decide +kernel
theorem dX10_anew_6 : decode cX10_anew 6 = .ok (.aload_n 0, 1) := by decide +kernel
theorem dX10_anew_7 : decode cX10_anew 7 = .ok (.getfield 19, 3) := by decide +kernel
theorem dX10_anew_10 : decode cX10_anew 10 = .ok (.iconst 0, 1) := by decide +kernel
theorem dX10_anew_11 : decode cX10_anew 11 = .ok (.iconst 0, 1) := by decide +kernel
theorem dX10_anew_12 : decode cX10_anew 12 = .ok (.bastore, 1) := by decide +kernel
theorem dX10_anew_13 : decode cX10_anew 13 = .ok (.aload_n 0, 1) := by decide +kernel
theorem dX10_anew_14 : decode cX10_anew 14 = .ok (.getfield 19, 3) := by decide +kernel
theorem dX10_anew_17 : decode cX10_anew 17 = .ok (.iconst 1, 1) := by decide +kernel
theorem dX10_anew_18 : decode cX10_anew 18 = .ok (.iconst 0, 1) := by decide +kernel
theorem dX10_anew_19 : decode cX10_anew 19 = .ok (.bastore, 1) := by decide +kernel
theorem dX10_anew_20 : decode cX10_anew 20 = .ok (.return_, 1) := by decide +kernel
theorem dX10_isTest_0 : decode cX10_isTest 0 = .ok (.iload_n 0, 1) := by decide +kernel
theorem dX10_isTest_1 : decode cX10_isTest 1 = .ok (.iconst 2, 1) := by decide +kernel
theorem dX10_isTest_2 : decode cX10_isTest 2 = .ok (.if_icmp .eq 8, 3) := by decide +kernel
theorem dX10_isTest_5 : decode cX10_isTest 5 = .ok (.iload_n 0, 1) := by decide +kernel
theorem dX10_isTest_6 : decode cX10_isTest 6 = .ok (.iconst 3, 1) := by decide +kernel
theorem dX10_isTest_7 : decode cX10_isTest 7 = .ok (.if_icmp .ne 7, 3) := by decide +kernel
theorem dX10_isTest_10 : decode cX10_isTest 10 = .ok (.iconst 1, 1) := by decide +kernel
theorem dX10_isTest_11 : decode cX10_isTest 11 = .ok (.goto 4, 3) := by decide +kernel
theorem dX10_isTest_14 : decode cX10_isTest 14 = .ok (.iconst 0, 1) := by decide +kernel
theorem dX10_isTest_15 : decode cX10_isTest 15 = .ok (.ireturn, 1) := by decide +kernel
theorem dX10_feed_0 : decode cX10_feed 0 = .ok (.iload_n 1, 1) := by decide +kernel
theorem dX10_feed_1 : decode cX10_feed 1 = .ok (.i2l, 1) := by decide +kernel
theorem dX10_feed_2 : decode cX10_feed 2 = .ok (.lconst 0, 1) := by decide +kernel
theorem dX10_feed_3 : decode cX10_feed 3 = .ok (.ldc2_w 78, 3) := by decide +kernel
theorem dX10_feed_6 : decode cX10_feed 6 = .ok (.invokestatic 80, 3) := by decide +kernel
theorem dX10_feed_9 : decode cX10_feed 9 = .ok (.ifCond .ne 5, 3) := by decide +kernel
theorem dX10_feed_12 : decode cX10_feed 12 = .ok (.iconst (-1), 1) := by decide +kernel
theorem dX10_feed_13 : decode cX10_feed 13 = .ok (.ireturn, 1) := by decide +kernel
theorem dX10_feed_14 : decode cX10_feed 14 = .ok (.aload_n 0, 1) := by decide +kernel
theorem dX10_feed_15 : decode cX10_feed 15 = .ok (.getfield 84, 3) := by decide +kernel
theorem dX10_feed_18 : decode cX10_feed 18 = .ok (.sipush 200, 3) := by decide +kernel
theorem dX10_feed_21 : decode cX10_feed 21 = .ok (.if_icmp .ne 6, 3) := by decide +kernel
theorem dX10_feed_24 : decode cX10_feed 24 = .ok (.bipush (-3), 2) := by decide +kernel
theorem dX10_feed_26 : decode cX10_feed 26 = .ok (.ireturn, 1) := by decide +kernel
theorem dX10_feed_27 : decode cX10_feed 27 = .ok (.aload_n 0, 1) := by decide +kernel
theorem dX10_feed_28 : decode cX10_feed 28 = .ok (.getfield 27, 3) := by decide +kernel
theorem dX10_feed_31 : decode cX10_feed 31 = .ok (.aload_n 0, 1) := by decide +kernel
theorem dX10_feed_32 : decode cX10_feed 32 = .ok (.getfield 84, 3) := by decide +kernel
theorem dX10_feed_35 : decode cX10_feed 35 = .ok (.iload_n 1, 1) := by decide +kernel
theorem dX10_feed_36 : decode cX10_feed 36 = .ok (.iastore, 1) := by decide +kernel
theorem dX10_feed_37 : decode cX10_feed 37 = .ok (.aload_n 0, 1) := by decide +kernel
theorem dX10_feed_38 : decode cX10_feed 38 = .ok (.dup, 1) := by decide +kernel
theorem dX10_feed_39 : decode cX10_feed 39 = .ok (.getfield 84, 3) := by decide +kernel
theorem dX10_feed_42 : decode cX10_feed 42 = .ok (.iconst 1, 1) := by decide +kernel
theorem dX10_feed_43 : decode cX10_feed 43 = .ok (.iadd, 1) := by decide +kernel
theorem dX10_feed_44 : decode cX10_feed 44 = .ok (.putfield 84, 3) := by decide +kernel
theorem dX10_feed_47 : decode cX10_feed 47 = .ok (.aload_n 0, 1) := by decide +kernel
theorem dX10_feed_48 : decode cX10_feed 48 = .ok (.getfield 84, 3) := by decide +kernel
theorem dX10_feed_51 : decode cX10_feed 51 = .ok (.ireturn, 1) := by decide +kernel
theorem dX10_end_0 : decode cX10_end 0 = .ok (.iload_n 1, 1) := by decide +kernel
theorem dX10_end_1 : decode cX10_end 1 = .ok (.i2l, 1) := by decide +kernel
theorem dX10_end_2 : decode cX10_end 2 = .ok (.lconst 0, 1) := by decide +kernel
theorem dX10_end_3 : decode cX10_end 3 = .ok (.aload_n 0, 1) := by decide +kernel
theorem dX10_end_4 : decode cX10_end 4 = .ok (.getfield 84, 3) := by decide +kernel
theorem dX10_end_7 : decode cX10_end 7 = .ok (.i2l, 1) := by decide +kernel
theorem dX10_end_8 : decode cX10_end 8 = .ok (.invokestatic 80, 3) := by decide +kernel
theorem dX10_end_11 : decode cX10_end 11 = .ok (.ifCond .ne 5, 3) := by decide +kernel
theorem dX10_end_14 : decode cX10_end 14 = .ok (.iconst (-1), 1) := by decide +kernel
theorem dX10_end_15 : decode cX10_end 15 = .ok (.ireturn, 1) := by decide +kernel
theorem dX10_end_16 : decode cX10_end 16 = .ok (.aload_n 0, 1) := by decide +kernel
theorem dX10_end_17 : decode cX10_end 17 = .ok (.getfield 84, 3) := by decide +kernel
theorem dX10_end_20 : decode cX10_end 20 = .ok (.istore_n 2, 1) := by decide +kernel
theorem dX10_end_21 : decode cX10_end 21 = .ok (.aload_n 0, 1) := by decide +kernel
theorem dX10_end_22 : decode cX10_end 22 = .ok (.iload_n 1, 1) := by decide +kernel
theorem dX10_end_23 : decode cX10_end 23 = .ok (.putfield 84, 3) := by decide +kernel
theorem dX10_end_26 : decode cX10_end 26 = .ok (.iload_n 2, 1) := by decide +kernel
theorem dX10_end_27 : decode cX10_end 27 = .ok (.ireturn, 1) := by decide +kernel
theorem dX10_requires_0 : decode cX10_requires 0 = .ok (.iload_n 1, 1) := by decide +kernel
theorem dX10_requires_1 : decode cX10_requires 1 = .ok (.ifCond .ne 23, 3) := by decide +kernel
theorem dX10_requires_4 : decode cX10_requires 4 = .ok (.aload_n 0, 1) := by decide +kernel
theorem dX10_requires_5 : decode cX10_requires 5 = .ok (.getfield 87, 3) := by decide +kernel
theorem dX10_requires_8 : decode cX10_requires 8 = .ok (.ifCond .ne 16, 3) := by decide +kernel
theorem dX10_requires_11 : decode cX10_requires 11 = .ok (.aload_n 0, 1) := by decide +kernel
theorem dX10_requires_12 : decode cX10_requires 12 = .ok (.iload_n 2, 1) := by decide +kernel
theorem dX10_requires_13 : decode cX10_requires 13 = .ok (.putfield 87, 3) := by decide +kernel
theorem dX10_requires_16 : decode cX10_requires 16 = .ok (.aload_n 0, 1) := by decide +kernel
theorem dX10_requires_17 : decode cX10_requires 17 = .ok (.aload_n 0, 1) := by decide +kernel
theorem dX10_requires_18 : decode cX10_requires 18 = .ok (.getfield 90, 3) := by decide +kernel
theorem dX10_requires_21 : decode cX10_requires 21 = .ok (.putfield 93, 3) := by decide +kernel
theorem dX10_requires_24 : decode cX10_requires 24 = .ok (.return_, 1) := by decide +kernel
theorem dX10_byteAt_0 : decode cX10_byteAt 0 = .ok (.iload_n 1, 1) := by decide +kernel
theorem dX10_byteAt_1 : decode cX10_byteAt 1 = .ok (.aload_n 0, 1) := by decide +kernel
theorem dX10_byteAt_2 : decode cX10_byteAt 2 = .ok (.getfield 84, 3) := by decide +kernel
theorem dX10_byteAt_5 : decode cX10_byteAt 5 = .ok (.if_icmp .ge 12, 3) := by decide +kernel
theorem dX10_byteAt_8 : decode cX10_byteAt 8 = .ok (.aload_n 0, 1) := by decide +kernel
theorem dX10_byteAt_9 : decode cX10_byteAt 9 = .ok (.getfield 27, 3) := by decide +kernel
theorem dX10_byteAt_12 : decode cX10_byteAt 12 = .ok (.iload_n 1, 1) := by decide +kernel
theorem dX10_byteAt_13 : decode cX10_byteAt 13 = .ok (.iaload, 1) := by decide +kernel
theorem dX10_byteAt_14 : decode cX10_byteAt 14 = .ok (.goto 4, 3) := by decide +kernel
theorem dX10_byteAt_17 : decode cX10_byteAt 17 = .ok (.iconst (-1), 1) := by decide +kernel
theorem dX10_byteAt_18 : decode cX10_byteAt 18 = .ok (.ireturn, 1) := by decide +kernel
theorem dX10_is_0 : decode cX10_is 0 = .ok (.aload_n 0, 1) := by decide +kernel
theorem dX10_is_1 : decode cX10_is 1 = .ok (.getfield 96, 3) := by decide +kernel
theorem dX10_is_4 : decode cX10_is 4 = .ok (.iconst 1, 1) := by decide +kernel
theorem dX10_is_5 : decode cX10_is 5 = .ok (.if_icmp .ne 51, 3) := by decide +kernel
theorem dX10_is_8 : decode cX10_is 8 = .ok (.aload_n 0, 1) := by decide +kernel
theorem dX10_is_9 : decode cX10_is 9 = .ok (.getfield 99, 3) := by decide +kernel
theorem dX10_is_12 : decode cX10_is 12 = .ok (.aload_n 0, 1) := by decide +kernel
theorem dX10_is_13 : decode cX10_is 13 = .ok (.getfield 90, 3) := by decide +kernel
theorem dX10_is_16 : decode cX10_is 16 = .ok (.isub, 1) := by decide +kernel
theorem dX10_is_17 : decode cX10_is 17 = .ok (.iload_n 1, 1) := by decide +kernel
theorem dX10_is_18 : decode cX10_is 18 = .ok (.if_icmp .ne 38, 3) := by decide +kernel
theorem dX10_is_21 : decode cX10_is 21 = .ok (.aload_n 0, 1) := by decide +kernel
theorem dX10_is_22 : decode cX10_is 22 = .ok (.aload_n 0, 1) := by decide +kernel
theorem dX10_is_23 : decode cX10_is 23 = .ok (.getfield 90, 3) := by decide +kernel
theorem dX10_is_26 : decode cX10_is 26 = .ok (.iload_n 2, 1) := by decide +kernel
theorem dX10_is_27 : decode cX10_is 27 = .ok (.iadd, 1) := by decide +kernel
theorem dX10_is_28 : decode cX10_is 28 = .ok (.invokevirtual 102, 3) := by decide +kernel
theorem dX10_is_31 : decode cX10_is 31 = .ok (.iload_n 3, 1) := by decide +kernel
theorem dX10_is_32 : decode cX10_is 32 = .ok (.if_icmp .ne 24, 3) := by decide +kernel
theorem dX10_is_35 : decode cX10_is 35 = .ok (.aload_n 0, 1) := by decide +kernel
theorem dX10_is_36 : decode cX10_is 36 = .ok (.aload_n 0, 1) := by decide +kernel
theorem dX10_is_37 : decode cX10_is 37 = .ok (.getfield 90, 3) := by decide +kernel
theorem dX10_is_40 : decode cX10_is 40 = .ok (.iload_n 2, 1) := by decide +kernel
theorem dX10_is_41 : decode cX10_is 41 = .ok (.iadd, 1) := by decide +kernel
theorem dX10_is_42 : decode cX10_is 42 = .ok (.iconst 1, 1) := by decide +kernel
theorem dX10_is_43 : decode cX10_is 43 = .ok (.iadd, 1) := by decide +kernel
theorem dX10_is_44 : decode cX10_is 44 = .ok (.invokevirtual 102, 3) := by decide +kernel
theorem dX10_is_47 : decode cX10_is 47 = .ok (.iload 4, 2) := by decide +kernel
theorem dX10_is_49 : decode cX10_is 49 = .ok (.if_icmp .ne 7, 3) := by decide +kernel
theorem dX10_is_52 : decode cX10_is 52 = .ok (.iconst 1, 1) := by decide +kernel
theorem dX10_is_53 : decode cX10_is 53 = .ok (.goto 4, 3) := by decide +kernel
theorem dX10_is_56 : decode cX10_is 56 = .ok (.iconst 0, 1) := by decide +kernel
theorem dX10_is_57 : decode cX10_is 57 = .ok (.ireturn, 1) := by decide +kernel
theorem dX10_nameNow_0 : decode cX10_nameNow 0 = .ok (.aload_n 0, 1) := by decide +kernel
theorem dX10_nameNow_1 : decode cX10_nameNow 1 = .ok (.iconst 3, 1) := by decide +kernel
theorem dX10_nameNow_2 : decode cX10_nameNow 2 = .ok (.iconst 0, 1) := by decide +kernel
theorem dX10_nameNow_3 : decode cX10_nameNow 3 = .ok (.bipush 115, 2) := by decide +kernel
theorem dX10_nameNow_5 : decode cX10_nameNow 5 = .ok (.bipush 101, 2) := by decide +kernel
theorem dX10_nameNow_7 : decode cX10_nameNow 7 = .ok (.invokevirtual 106, 3) := by decide +kernel
theorem dX10_nameNow_10 : decode cX10_nameNow 10 = .ok (.ifCond .eq 18, 3) := by decide +kernel
theorem dX10_nameNow_13 : decode cX10_nameNow 13 = .ok (.aload_n 0, 1) := by decide +kernel
theorem dX10_nameNow_14 : decode cX10_nameNow 14 = .ok (.iconst 3, 1) := by decide +kernel
theorem dX10_nameNow_15 : decode cX10_nameNow 15 = .ok (.iconst 1, 1) := by decide +kernel
theorem dX10_nameNow_16 : decode cX10_nameNow 16 = .ok (.bipush 101, 2) := by decide +kernel
theorem dX10_nameNow_18 : decode cX10_nameNow 18 = .ok (.bipush 116, 2) := by decide +kernel
theorem dX10_nameNow_20 : decode cX10_nameNow 20 = .ok (.invokevirtual 106, 3) := by decide +kernel
theorem dX10_nameNow_23 : decode cX10_nameNow 23 = .ok (.ifCond .eq 5, 3) := by decide +kernel
theorem dX10_nameNow_26 : decode cX10_nameNow 26 = .ok (.iconst 0, 1) := by decide +kernel
theorem dX10_nameNow_27 : decode cX10_nameNow 27 = .ok (.ireturn, 1) := by decide +kernel
theorem dX10_nameNow_28 : decode cX10_nameNow 28 = .ok (.aload_n 0, 1) := by decide +kernel
theorem dX10_nameNow_29 : decode cX10_nameNow 29 = .ok (.iconst 3, 1) := by decide +kernel
theorem dX10_nameNow_30 : decode cX10_nameNow 30 = .ok (.iconst 0, 1) := by decide +kernel
theorem dX10_nameNow_31 : decode cX10_nameNow 31 = .ok (.bipush 97, 2) := by decide +kernel
theorem dX10_nameNow_33 : decode cX10_nameNow 33 = .ok (.bipush 100, 2) := by decide +kernel
theorem dX10_nameNow_35 : decode cX10_nameNow 35 = .ok (.invokevirtual 106, 3) := by decide +kernel
theorem dX10_nameNow_38 : decode cX10_nameNow 38 = .ok (.ifCond .eq 18, 3) := by decide +kernel
theorem dX10_nameNow_41 : decode cX10_nameNow 41 = .ok (.aload_n 0, 1) := by decide +kernel
theorem dX10_nameNow_42 : decode cX10_nameNow 42 = .ok (.iconst 3, 1) := by decide +kernel
theorem dX10_nameNow_43 : decode cX10_nameNow 43 = .ok (.iconst 1, 1) := by decide +kernel
theorem dX10_nameNow_44 : decode cX10_nameNow 44 = .ok (.bipush 100, 2) := by decide +kernel
theorem dX10_nameNow_46 : decode cX10_nameNow 46 = .ok (.bipush 100, 2) := by decide +kernel
theorem dX10_nameNow_48 : decode cX10_nameNow 48 = .ok (.invokevirtual 106, 3) := by decide +kernel
theorem dX10_nameNow_51 : decode cX10_nameNow 51 = .ok (.ifCond .eq 5, 3) := by decide +kernel
theorem dX10_nameNow_54 : decode cX10_nameNow 54 = .ok (.iconst 1, 1) := by decide +kernel
theorem dX10_nameNow_55 : decode cX10_nameNow 55 = .ok (.ireturn, 1) := by decide +kernel
theorem dX10_nameNow_56 : decode cX10_nameNow 56 = .ok (.aload_n 0, 1) := by decide +kernel
theorem dX10_nameNow_57 : decode cX10_nameNow 57 = .ok (.iconst 3, 1) := by decide +kernel
theorem dX10_nameNow_58 : decode cX10_nameNow 58 = .ok (.iconst 0, 1) := by decide +kernel
theorem dX10_nameNow_59 : decode cX10_nameNow 59 = .ok (.bipush 115, 2) := by decide +kernel
theorem dX10_nameNow_61 : decode cX10_nameNow 61 = .ok (.bipush 117, 2) := by decide +kernel
theorem dX10_nameNow_63 : decode cX10_nameNow 63 = .ok (.invokevirtual 106, 3) := by decide +kernel
theorem dX10_nameNow_66 : decode cX10_nameNow 66 = .ok (.ifCond .eq 18, 3) := by decide +kernel
theorem dX10_nameNow_69 : decode cX10_nameNow 69 = .ok (.aload_n 0, 1) := by decide +kernel
theorem dX10_nameNow_70 : decode cX10_nameNow 70 = .ok (.iconst 3, 1) := by decide +kernel
theorem dX10_nameNow_71 : decode cX10_nameNow 71 = .ok (.iconst 1, 1) := by decide +kernel
theorem dX10_nameNow_72 : decode cX10_nameNow 72 = .ok (.bipush 117, 2) := by decide +kernel
theorem dX10_nameNow_74 : decode cX10_nameNow 74 = .ok (.bipush 98, 2) := by decide +kernel
theorem dX10_nameNow_76 : decode cX10_nameNow 76 = .ok (.invokevirtual 106, 3) := by decide +kernel
theorem dX10_nameNow_79 : decode cX10_nameNow 79 = .ok (.ifCond .eq 5, 3) := by decide +kernel
theorem dX10_nameNow_82 : decode cX10_nameNow 82 = .ok (.iconst 2, 1) := by decide +kernel
theorem dX10_nameNow_83 : decode cX10_nameNow 83 = .ok (.ireturn, 1) := by decide +kernel
theorem dX10_nameNow_84 : decode cX10_nameNow 84 = .ok (.aload_n 0, 1) := by decide +kernel
theorem dX10_nameNow_85 : decode cX10_nameNow 85 = .ok (.iconst 4, 1) := by decide +kernel
theorem dX10_nameNow_86 : decode cX10_nameNow 86 = .ok (.iconst 0, 1) := by decide +kernel
theorem dX10_nameNow_87 : decode cX10_nameNow 87 = .ok (.bipush 109, 2) := by decide +kernel
theorem dX10_nameNow_89 : decode cX10_nameNow 89 = .ok (.bipush 111, 2) := by decide +kernel
theorem dX10_nameNow_91 : decode cX10_nameNow 91 = .ok (.invokevirtual 106, 3) := by decide +kernel
theorem dX10_nameNow_94 : decode cX10_nameNow 94 = .ok (.ifCond .eq 18, 3) := by decide +kernel
theorem dX10_nameNow_97 : decode cX10_nameNow 97 = .ok (.aload_n 0, 1) := by decide +kernel
theorem dX10_nameNow_98 : decode cX10_nameNow 98 = .ok (.iconst 4, 1) := by decide +kernel
theorem dX10_nameNow_99 : decode cX10_nameNow 99 = .ok (.iconst 2, 1) := by decide +kernel
theorem dX10_nameNow_100 : decode cX10_nameNow 100 = .ok (.bipush 118, 2) := by decide +kernel
theorem dX10_nameNow_102 : decode cX10_nameNow 102 = .ok (.bipush 101, 2) := by decide +kernel
theorem dX10_nameNow_104 : decode cX10_nameNow 104 = .ok (.invokevirtual 106, 3) := by decide +kernel
theorem dX10_nameNow_107 : decode cX10_nameNow 107 = .ok (.ifCond .eq 5, 3) := by decide +kernel
theorem dX10_nameNow_110 : decode cX10_nameNow 110 = .ok (.iconst 3, 1) := by decide +kernel
theorem dX10_nameNow_111 : decode cX10_nameNow 111 = .ok (.ireturn, 1) := by decide +kernel
theorem dX10_nameNow_112 : decode cX10_nameNow 112 = .ok (.aload_n 0, 1) := by decide +kernel
theorem dX10_nameNow_113 : decode cX10_nameNow 113 = .ok (.iconst 4, 1) := by decide +kernel
theorem dX10_nameNow_114 : decode cX10_nameNow 114 = .ok (.iconst 0, 1) := by decide +kernel
theorem dX10_nameNow_115 : decode cX10_nameNow 115 = .ok (.bipush 114, 2) := by decide +kernel
theorem dX10_nameNow_117 : decode cX10_nameNow 117 = .ok (.bipush 101, 2) := by decide +kernel
theorem dX10_nameNow_119 : decode cX10_nameNow 119 = .ok (.invokevirtual 106, 3) := by decide +kernel
theorem dX10_nameNow_122 : decode cX10_nameNow 122 = .ok (.ifCond .eq 18, 3) := by decide +kernel
theorem dX10_nameNow_125 : decode cX10_nameNow 125 = .ok (.aload_n 0, 1) := by decide +kernel
theorem dX10_nameNow_126 : decode cX10_nameNow 126 = .ok (.iconst 4, 1) := by decide +kernel
theorem dX10_nameNow_127 : decode cX10_nameNow 127 = .ok (.iconst 2, 1) := by decide +kernel
theorem dX10_nameNow_128 : decode cX10_nameNow 128 = .ok (.bipush 97, 2) := by decide +kernel
theorem dX10_nameNow_130 : decode cX10_nameNow 130 = .ok (.bipush 100, 2) := by decide +kernel
theorem dX10_nameNow_132 : decode cX10_nameNow 132 = .ok (.invokevirtual 106, 3) := by decide +kernel
theorem dX10_nameNow_135 : decode cX10_nameNow 135 = .ok (.ifCond .eq 5, 3) := by decide +kernel
theorem dX10_nameNow_138 : decode cX10_nameNow 138 = .ok (.iconst 4, 1) := by decide +kernel
theorem dX10_nameNow_139 : decode cX10_nameNow 139 = .ok (.ireturn, 1) := by decide +kernel
theorem dX10_nameNow_140 : decode cX10_nameNow 140 = .ok (.aload_n 0, 1) := by decide +kernel
theorem dX10_nameNow_141 : decode cX10_nameNow 141 = .ok (.iconst 5, 1) := by decide +kernel
theorem dX10_nameNow_142 : decode cX10_nameNow 142 = .ok (.iconst 0, 1) := by decide +kernel
theorem dX10_nameNow_143 : decode cX10_nameNow 143 = .ok (.bipush 119, 2) := by decide +kernel
theorem dX10_nameNow_145 : decode cX10_nameNow 145 = .ok (.bipush 114, 2) := by decide +kernel
theorem dX10_nameNow_147 : decode cX10_nameNow 147 = .ok (.invokevirtual 106, 3) := by decide +kernel
theorem dX10_nameNow_150 : decode cX10_nameNow 150 = .ok (.ifCond .eq 31, 3) := by decide +kernel
theorem dX10_nameNow_153 : decode cX10_nameNow 153 = .ok (.aload_n 0, 1) := by decide +kernel
theorem dX10_nameNow_154 : decode cX10_nameNow 154 = .ok (.iconst 5, 1) := by decide +kernel
theorem dX10_nameNow_155 : decode cX10_nameNow 155 = .ok (.iconst 2, 1) := by decide +kernel
theorem dX10_nameNow_156 : decode cX10_nameNow 156 = .ok (.bipush 105, 2) := by decide +kernel
theorem dX10_nameNow_158 : decode cX10_nameNow 158 = .ok (.bipush 116, 2) := by decide +kernel
theorem dX10_nameNow_160 : decode cX10_nameNow 160 = .ok (.invokevirtual 106, 3) := by decide +kernel
theorem dX10_nameNow_163 : decode cX10_nameNow 163 = .ok (.ifCond .eq 18, 3) := by decide +kernel
theorem dX10_nameNow_166 : decode cX10_nameNow 166 = .ok (.aload_n 0, 1) := by decide +kernel
theorem dX10_nameNow_167 : decode cX10_nameNow 167 = .ok (.iconst 5, 1) := by decide +kernel
theorem dX10_nameNow_168 : decode cX10_nameNow 168 = .ok (.iconst 3, 1) := by decide +kernel
theorem dX10_nameNow_169 : decode cX10_nameNow 169 = .ok (.bipush 116, 2) := by decide +kernel
theorem dX10_nameNow_171 : decode cX10_nameNow 171 = .ok (.bipush 101, 2) := by decide +kernel
theorem dX10_nameNow_173 : decode cX10_nameNow 173 = .ok (.invokevirtual 106, 3) := by decide +kernel
theorem dX10_nameNow_176 : decode cX10_nameNow 176 = .ok (.ifCond .eq 5, 3) := by decide +kernel
theorem dX10_nameNow_179 : decode cX10_nameNow 179 = .ok (.iconst 5, 1) := by decide +kernel
theorem dX10_nameNow_180 : decode cX10_nameNow 180 = .ok (.ireturn, 1) := by decide +kernel
theorem dX10_nameNow_181 : decode cX10_nameNow 181 = .ok (.aload_n 0, 1) := by decide +kernel
theorem dX10_nameNow_182 : decode cX10_nameNow 182 = .ok (.iconst 4, 1) := by decide +kernel
theorem dX10_nameNow_183 : decode cX10_nameNow 183 = .ok (.iconst 0, 1) := by decide +kernel
theorem dX10_nameNow_184 : decode cX10_nameNow 184 = .ok (.bipush 115, 2) := by decide +kernel
theorem dX10_nameNow_186 : decode cX10_nameNow 186 = .ok (.bipush 116, 2) := by decide +kernel
theorem dX10_nameNow_188 : decode cX10_nameNow 188 = .ok (.invokevirtual 106, 3) := by decide +kernel
theorem dX10_nameNow_191 : decode cX10_nameNow 191 = .ok (.ifCond .eq 19, 3) := by decide +kernel
theorem dX10_nameNow_194 : decode cX10_nameNow 194 = .ok (.aload_n 0, 1) := by decide +kernel
theorem dX10_nameNow_195 : decode cX10_nameNow 195 = .ok (.iconst 4, 1) := by decide +kernel
theorem dX10_nameNow_196 : decode cX10_nameNow 196 = .ok (.iconst 2, 1) := by decide +kernel
theorem dX10_nameNow_197 : decode cX10_nameNow 197 = .ok (.bipush 111, 2) := by decide +kernel
theorem dX10_nameNow_199 : decode cX10_nameNow 199 = .ok (.bipush 112, 2) := by decide +kernel
theorem dX10_nameNow_201 : decode cX10_nameNow 201 = .ok (.invokevirtual 106, 3) := by decide +kernel
theorem dX10_nameNow_204 : decode cX10_nameNow 204 = .ok (.ifCond .eq 6, 3) := by decide +kernel
theorem dX10_nameNow_207 : decode cX10_nameNow 207 = .ok (.bipush 6, 2) := by decide +kernel
theorem dX10_nameNow_209 : decode cX10_nameNow 209 = .ok (.ireturn, 1) := by decide +kernel
theorem dX10_nameNow_210 : decode cX10_nameNow 210 = .ok (.aload_n 0, 1) := by decide +kernel
theorem dX10_nameNow_211 : decode cX10_nameNow 211 = .ok (.iconst 2, 1) := by decide +kernel
theorem dX10_nameNow_212 : decode cX10_nameNow 212 = .ok (.iconst 0, 1) := by decide +kernel
theorem dX10_nameNow_213 : decode cX10_nameNow 213 = .ok (.bipush 103, 2) := by decide +kernel
theorem dX10_nameNow_215 : decode cX10_nameNow 215 = .ok (.bipush 111, 2) := by decide +kernel
theorem dX10_nameNow_217 : decode cX10_nameNow 217 = .ok (.invokevirtual 106, 3) := by decide +kernel
theorem dX10_nameNow_220 : decode cX10_nameNow 220 = .ok (.ifCond .eq 8, 3) := by decide +kernel
theorem dX10_nameNow_223 : decode cX10_nameNow 223 = .ok (.bipush 7, 2) := by decide +kernel
theorem dX10_nameNow_225 : decode cX10_nameNow 225 = .ok (.goto 23, 3) := by decide +kernel
theorem dX10_nameNow_228 : decode cX10_nameNow 228 = .ok (.aload_n 0, 1) := by decide +kernel
theorem dX10_nameNow_229 : decode cX10_nameNow 229 = .ok (.iconst 2, 1) := by decide +kernel
theorem dX10_nameNow_230 : decode cX10_nameNow 230 = .ok (.iconst 0, 1) := by decide +kernel
theorem dX10_nameNow_231 : decode cX10_nameNow 231 = .ok (.bipush 105, 2) := by decide +kernel
theorem dX10_nameNow_233 : decode cX10_nameNow 233 = .ok (.bipush 102, 2) := by decide +kernel
theorem dX10_nameNow_235 : decode cX10_nameNow 235 = .ok (.invokevirtual 106, 3) := by decide +kernel
theorem dX10_nameNow_238 : decode cX10_nameNow 238 = .ok (.ifCond .eq 8, 3) := by decide +kernel
theorem dX10_nameNow_241 : decode cX10_nameNow 241 = .ok (.bipush 8, 2) := by decide +kernel
theorem dX10_nameNow_243 : decode cX10_nameNow 243 = .ok (.goto 5, 3) := by decide +kernel
theorem dX10_nameNow_246 : decode cX10_nameNow 246 = .ok (.bipush (-4), 2) := by decide +kernel
theorem dX10_nameNow_248 : decode cX10_nameNow 248 = .ok (.ireturn, 1) := by decide +kernel
theorem dX10_reads_0 : decode cX10_reads 0 = .ok (.aload_n 0, 1) := by decide +kernel
theorem dX10_reads_1 : decode cX10_reads 1 = .ok (.getfield 87, 3) := by decide +kernel
theorem dX10_reads_4 : decode cX10_reads 4 = .ok (.ifCond .le 4, 3) := by decide +kernel
theorem dX10_reads_7 : decode cX10_reads 7 = .ok (.return_, 1) := by decide +kernel
theorem dX10_reads_8 : decode cX10_reads 8 = .ok (.aload_n 0, 1) := by decide +kernel
theorem dX10_reads_9 : decode cX10_reads 9 = .ok (.aload_n 0, 1) := by decide +kernel
theorem dX10_reads_10 : decode cX10_reads 10 = .ok (.getfield 99, 3) := by decide +kernel
theorem dX10_reads_13 : decode cX10_reads 13 = .ok (.invokevirtual 102, 3) := by decide +kernel
theorem dX10_reads_16 : decode cX10_reads 16 = .ok (.bipush 32, 2) := by decide +kernel
theorem dX10_reads_18 : decode cX10_reads 18 = .ok (.if_icmp .ne 16, 3) := by decide +kernel
theorem dX10_reads_21 : decode cX10_reads 21 = .ok (.aload_n 0, 1) := by decide +kernel
theorem dX10_reads_22 : decode cX10_reads 22 = .ok (.dup, 1) := by decide +kernel
theorem dX10_reads_23 : decode cX10_reads 23 = .ok (.getfield 99, 3) := by decide +kernel
theorem dX10_reads_26 : decode cX10_reads 26 = .ok (.iconst 1, 1) := by decide +kernel
theorem dX10_reads_27 : decode cX10_reads 27 = .ok (.iadd, 1) := by decide +kernel
theorem dX10_reads_28 : decode cX10_reads 28 = .ok (.putfield 99, 3) := by decide +kernel
theorem dX10_reads_31 : decode cX10_reads 31 = .ok (.goto (-23), 3) := by decide +kernel
theorem dX10_reads_34 : decode cX10_reads 34 = .ok (.aload_n 0, 1) := by decide +kernel
theorem dX10_reads_35 : decode cX10_reads 35 = .ok (.aload_n 0, 1) := by decide +kernel
theorem dX10_reads_36 : decode cX10_reads 36 = .ok (.getfield 99, 3) := by decide +kernel
theorem dX10_reads_39 : decode cX10_reads 39 = .ok (.putfield 90, 3) := by decide +kernel
theorem dX10_reads_42 : decode cX10_reads 42 = .ok (.aload_n 0, 1) := by decide +kernel
theorem dX10_reads_43 : decode cX10_reads 43 = .ok (.aload_n 0, 1) := by decide +kernel
theorem dX10_reads_44 : decode cX10_reads 44 = .ok (.getfield 99, 3) := by decide +kernel
theorem dX10_reads_47 : decode cX10_reads 47 = .ok (.invokevirtual 102, 3) := by decide +kernel
theorem dX10_reads_50 : decode cX10_reads 50 = .ok (.istore_n 1, 1) := by decide +kernel
theorem dX10_reads_51 : decode cX10_reads 51 = .ok (.iload_n 1, 1) := by decide +kernel
theorem dX10_reads_52 : decode cX10_reads 52 = .ok (.ifCond .ge 11, 3) := by decide +kernel
theorem dX10_reads_55 : decode cX10_reads 55 = .ok (.aload_n 0, 1) := by decide +kernel
theorem dX10_reads_56 : decode cX10_reads 56 = .ok (.iconst 0, 1) := by decide +kernel
theorem dX10_reads_57 : decode cX10_reads 57 = .ok (.putfield 96, 3) := by decide +kernel
theorem dX10_reads_60 : decode cX10_reads 60 = .ok (.goto 226, 3) := by decide +kernel
theorem dX10_reads_63 : decode cX10_reads 63 = .ok (.iload_n 1, 1) := by decide +kernel
theorem dX10_reads_64 : decode cX10_reads 64 = .ok (.i2l, 1) := by decide +kernel
theorem dX10_reads_65 : decode cX10_reads 65 = .ok (.ldc2_w 110, 3) := by decide +kernel
theorem dX10_reads_68 : decode cX10_reads 68 = .ok (.ldc2_w 112, 3) := by decide +kernel
theorem dX10_reads_71 : decode cX10_reads 71 = .ok (.invokestatic 80, 3) := by decide +kernel
theorem dX10_reads_74 : decode cX10_reads 74 = .ok (.ifCond .eq 42, 3) := by decide +kernel
theorem dX10_reads_77 : decode cX10_reads 77 = .ok (.aload_n 0, 1) := by decide +kernel
theorem dX10_reads_78 : decode cX10_reads 78 = .ok (.iconst 1, 1) := by decide +kernel
theorem dX10_reads_79 : decode cX10_reads 79 = .ok (.putfield 96, 3) := by decide +kernel
theorem dX10_reads_82 : decode cX10_reads 82 = .ok (.aload_n 0, 1) := by decide +kernel
theorem dX10_reads_83 : decode cX10_reads 83 = .ok (.aload_n 0, 1) := by decide +kernel
theorem dX10_reads_84 : decode cX10_reads 84 = .ok (.getfield 99, 3) := by decide +kernel
theorem dX10_reads_87 : decode cX10_reads 87 = .ok (.invokevirtual 102, 3) := by decide +kernel
theorem dX10_reads_90 : decode cX10_reads 90 = .ok (.i2l, 1) := by decide +kernel
theorem dX10_reads_91 : decode cX10_reads 91 = .ok (.ldc2_w 110, 3) := by decide +kernel
theorem dX10_reads_94 : decode cX10_reads 94 = .ok (.ldc2_w 112, 3) := by decide +kernel
theorem dX10_reads_97 : decode cX10_reads 97 = .ok (.invokestatic 80, 3) := by decide +kernel
theorem dX10_reads_100 : decode cX10_reads 100 = .ok (.ifCond .eq 186, 3) := by decide +kernel
theorem dX10_reads_103 : decode cX10_reads 103 = .ok (.aload_n 0, 1) := by decide +kernel
theorem dX10_reads_104 : decode cX10_reads 104 = .ok (.dup, 1) := by decide +kernel
theorem dX10_reads_105 : decode cX10_reads 105 = .ok (.getfield 99, 3) := by decide +kernel
theorem dX10_reads_108 : decode cX10_reads 108 = .ok (.iconst 1, 1) := by decide +kernel
theorem dX10_reads_109 : decode cX10_reads 109 = .ok (.iadd, 1) := by decide +kernel
theorem dX10_reads_110 : decode cX10_reads 110 = .ok (.putfield 99, 3) := by decide +kernel
theorem dX10_reads_113 : decode cX10_reads 113 = .ok (.goto (-31), 3) := by decide +kernel
theorem dX10_reads_116 : decode cX10_reads 116 = .ok (.iload_n 1, 1) := by decide +kernel
theorem dX10_reads_117 : decode cX10_reads 117 = .ok (.i2l, 1) := by decide +kernel
theorem dX10_reads_118 : decode cX10_reads 118 = .ok (.ldc2_w 114, 3) := by decide +kernel
theorem dX10_reads_121 : decode cX10_reads 121 = .ok (.ldc2_w 116, 3) := by decide +kernel
theorem dX10_reads_124 : decode cX10_reads 124 = .ok (.invokestatic 80, 3) := by decide +kernel
theorem dX10_reads_127 : decode cX10_reads 127 = .ok (.ifCond .eq 116, 3) := by decide +kernel
theorem dX10_reads_130 : decode cX10_reads 130 = .ok (.aload_n 0, 1) := by decide +kernel
theorem dX10_reads_131 : decode cX10_reads 131 = .ok (.iconst 2, 1) := by decide +kernel
theorem dX10_reads_132 : decode cX10_reads 132 = .ok (.putfield 96, 3) := by decide +kernel
theorem dX10_reads_135 : decode cX10_reads 135 = .ok (.aload_n 0, 1) := by decide +kernel
theorem dX10_reads_136 : decode cX10_reads 136 = .ok (.iconst 0, 1) := by decide +kernel
theorem dX10_reads_137 : decode cX10_reads 137 = .ok (.putfield 118, 3) := by decide +kernel
theorem dX10_reads_140 : decode cX10_reads 140 = .ok (.aload_n 0, 1) := by decide +kernel
theorem dX10_reads_141 : decode cX10_reads 141 = .ok (.aload_n 0, 1) := by decide +kernel
theorem dX10_reads_142 : decode cX10_reads 142 = .ok (.getfield 99, 3) := by decide +kernel
theorem dX10_reads_145 : decode cX10_reads 145 = .ok (.invokevirtual 102, 3) := by decide +kernel
theorem dX10_reads_148 : decode cX10_reads 148 = .ok (.i2l, 1) := by decide +kernel
theorem dX10_reads_149 : decode cX10_reads 149 = .ok (.ldc2_w 114, 3) := by decide +kernel
theorem dX10_reads_152 : decode cX10_reads 152 = .ok (.ldc2_w 116, 3) := by decide +kernel
theorem dX10_reads_155 : decode cX10_reads 155 = .ok (.invokestatic 80, 3) := by decide +kernel
theorem dX10_reads_158 : decode cX10_reads 158 = .ok (.ifCond .eq 59, 3) := by decide +kernel
theorem dX10_reads_161 : decode cX10_reads 161 = .ok (.aload_n 0, 1) := by decide +kernel
theorem dX10_reads_162 : decode cX10_reads 162 = .ok (.aload_n 0, 1) := by decide +kernel
theorem dX10_reads_163 : decode cX10_reads 163 = .ok (.getfield 99, 3) := by decide +kernel
theorem dX10_reads_166 : decode cX10_reads 166 = .ok (.aload_n 0, 1) := by decide +kernel
theorem dX10_reads_167 : decode cX10_reads 167 = .ok (.getfield 90, 3) := by decide +kernel
theorem dX10_reads_170 : decode cX10_reads 170 = .ok (.isub, 1) := by decide +kernel
theorem dX10_reads_171 : decode cX10_reads 171 = .ok (.iconst 2, 1) := by decide +kernel
theorem dX10_reads_172 : decode cX10_reads 172 = .ok (.if_icmp .ge 25, 3) := by decide +kernel
theorem dX10_reads_175 : decode cX10_reads 175 = .ok (.bipush 10, 2) := by decide +kernel
theorem dX10_reads_177 : decode cX10_reads 177 = .ok (.aload_n 0, 1) := by decide +kernel
theorem dX10_reads_178 : decode cX10_reads 178 = .ok (.getfield 118, 3) := by decide +kernel
theorem dX10_reads_181 : decode cX10_reads 181 = .ok (.imul, 1) := by decide +kernel
theorem dX10_reads_182 : decode cX10_reads 182 = .ok (.aload_n 0, 1) := by decide +kernel
theorem dX10_reads_183 : decode cX10_reads 183 = .ok (.aload_n 0, 1) := by decide +kernel
theorem dX10_reads_184 : decode cX10_reads 184 = .ok (.getfield 99, 3) := by decide +kernel
theorem dX10_reads_187 : decode cX10_reads 187 = .ok (.invokevirtual 102, 3) := by decide +kernel
theorem dX10_reads_190 : decode cX10_reads 190 = .ok (.iadd, 1) := by decide +kernel
