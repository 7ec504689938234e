theorem dX0_init_0 : decode cX0_init 0 = .ok (.aload_n 0, 1) := by decide +kernel
theorem dX0_init_1 : decode cX0_init 1 = .ok (.invokespecial 3, 3) := by decide +kernel
theorem dX0_init_4 : decode cX0_init 4 = .ok (.aload_n 0, 1) := by decide +kernel
theorem dX0_init_5 : decode cX0_init 5 = .ok (.iconst 4, 1) := by decide +kernel
theorem dX0_init_6 : decode cX0_init 6 = .ok (.newarray .int, 2) := by decide +kernel
theorem dX0_init_8 : decode cX0_init 8 = .ok (.putfield 9, 3) := by decide +kernel
theorem dX0_init_11 : decode cX0_init 11 = .ok (.aload_n 0, 1) := by decide +kernel
theorem dX0_init_12 : decode cX0_init 12 = .ok (.iconst 4, 1) := by decide +kernel
theorem dX0_init_13 : decode cX0_init 13 = .ok (.newarray .int, 2) := by decide +kernel
theorem dX0_init_15 : decode cX0_init 15 = .ok (.putfield 15, 3) := by decide +kernel
theorem dX0_init_18 : decode cX0_init 18 = .ok (.aload_n 0, 1) := by decide +kernel
theorem dX0_init_19 : decode cX0_init 19 = .ok (.iconst 4, 1) := by decide +kernel
theorem dX0_init_20 : decode cX0_init 20 = .ok (.newarray .int, 2) := by decide +kernel
theorem dX0_init_22 : decode cX0_init 22 = .ok (.putfield 18, 3) := by decide +kernel
theorem dX0_init_25 : decode cX0_init 25 = .ok (.return_, 1) := by decide +kernel
theorem dX0_wipe_0 : decode cX0_wipe 0 = .ok (.aload_n 0, 1) := by decide +kernel
theorem dX0_wipe_1 : decode cX0_wipe 1 = .ok (.iconst 0, 1) := by decide +kernel
theorem dX0_wipe_2 : decode cX0_wipe 2 = .ok (.putfield 21, 3) := by decide +kernel
theorem dX0_wipe_5 : decode cX0_wipe 5 = .ok (.aload_n 0, 1) := by decide +kernel
theorem dX0_wipe_6 : decode cX0_wipe 6 = .ok (.iconst 0, 1) := by decide +kernel
theorem dX0_wipe_7 : decode cX0_wipe 7 = .ok (.putfield 25, 3) := by decide +kernel
theorem dX0_wipe_10 : decode cX0_wipe 10 = .ok (.aload_n 0, 1) := by decide +kernel
theorem dX0_wipe_11 : decode cX0_wipe 11 = .ok (.iconst 0, 1) := by decide +kernel
theorem dX0_wipe_12 : decode cX0_wipe 12 = .ok (.putfield 28, 3) := by decide +kernel
theorem dX0_wipe_15 : decode cX0_wipe 15 = .ok (.aload_n 0, 1) := by decide +kernel
theorem dX0_wipe_16 : decode cX0_wipe 16 = .ok (.iconst 0, 1) := by decide +kernel
theorem dX0_wipe_17 : decode cX0_wipe 17 = .ok (.putfield 31, 3) := by decide +kernel
theorem dX0_wipe_20 : decode cX0_wipe 20 = .ok (.aload_n 0, 1) := by decide +kernel
theorem dX0_wipe_21 : decode cX0_wipe 21 = .ok (.iconst 0, 1) := by decide +kernel
theorem dX0_wipe_22 : decode cX0_wipe 22 = .ok (.putfield 35, 3) := by decide +kernel
theorem dX0_wipe_25 : decode cX0_wipe 25 = .ok (.aload_n 0, 1) := by decide +kernel
theorem dX0_wipe_26 : decode cX0_wipe 26 = .ok (.iconst 0, 1) := by decide +kernel
theorem dX0_wipe_27 : decode cX0_wipe 27 = .ok (.putfield 38, 3) := by decide +kernel
theorem dX0_wipe_30 : decode cX0_wipe 30 = .ok (.aload_n 0, 1) := by decide +kernel
theorem dX0_wipe_31 : decode cX0_wipe 31 = .ok (.iconst 0, 1) := by decide +kernel
theorem dX0_wipe_32 : decode cX0_wipe 32 = .ok (.putfield 41, 3) := by decide +kernel
theorem dX0_wipe_35 : decode cX0_wipe 35 = .ok (.aload_n 0, 1) := by decide +kernel
theorem dX0_wipe_36 : decode cX0_wipe 36 = .ok (.iconst 0, 1) := by decide +kernel
theorem dX0_wipe_37 : decode cX0_wipe 37 = .ok (.putfield 44, 3) := by decide +kernel
theorem dX0_wipe_40 : decode cX0_wipe 40 = .ok (.return_, 1) := by decide +kernel
theorem dX0_copyFrom_0 : decode cX0_copyFrom 0 = .ok (.aload_n 0, 1) := by decide +kernel
theorem dX0_copyFrom_1 : decode cX0_copyFrom 1 = .ok (.aload_n 1, 1) := by decide +kernel
theorem dX0_copyFrom_2 : decode cX0_copyFrom 2 = .ok (.getfield 21, 3) := by decide +kernel
theorem dX0_copyFrom_5 : decode cX0_copyFrom 5 = .ok (.putfield 21, 3) := by decide +kernel
theorem dX0_copyFrom_8 : decode cX0_copyFrom 8 = .ok (.iconst 0, 1) := by decide +kernel
theorem dX0_copyFrom_9 : decode cX0_copyFrom 9 = .ok (.istore_n 2, 1) := by decide +kernel
theorem dX0_copyFrom_10 : decode cX0_copyFrom 10 = .ok (.iload_n 2, 1) := by decide +kernel
theorem dX0_copyFrom_11 : decode cX0_copyFrom 11 = .ok (.iconst 4, 1) := by decide +kernel
theorem dX0_copyFrom_12 : decode cX0_copyFrom 12 = .ok (.if_icmp .ge 45, 3) := by decide +kernel
theorem dX0_copyFrom_15 : decode cX0_copyFrom 15 = .ok (.aload_n 0, 1) := by decide +kernel
theorem dX0_copyFrom_16 : decode cX0_copyFrom 16 = .ok (.getfield 9, 3) := by decide +kernel
theorem dX0_copyFrom_19 : decode cX0_copyFrom 19 = .ok (.iload_n 2, 1) := by decide +kernel
theorem dX0_copyFrom_20 : decode cX0_copyFrom 20 = .ok (.aload_n 1, 1) := by decide +kernel
theorem dX0_copyFrom_21 : decode cX0_copyFrom 21 = .ok (.getfield 9, 3) := by decide +kernel
theorem dX0_copyFrom_24 : decode cX0_copyFrom 24 = .ok (.iload_n 2, 1) := by decide +kernel
theorem dX0_copyFrom_25 : decode cX0_copyFrom 25 = .ok (.iaload, 1) := by decide +kernel
theorem dX0_copyFrom_26 : decode cX0_copyFrom 26 = .ok (.iastore, 1) := by decide +kernel
theorem dX0_copyFrom_27 : decode cX0_copyFrom 27 = .ok (.aload_n 0, 1) := by decide +kernel
theorem dX0_copyFrom_28 : decode cX0_copyFrom 28 = .ok (.getfield 15, 3) := by decide +kernel
theorem dX0_copyFrom_31 : decode cX0_copyFrom 31 = .ok (.iload_n 2, 1) := by decide +kernel
theorem dX0_copyFrom_32 : decode cX0_copyFrom 32 = .ok (.aload_n 1, 1) := by decide +kernel
theorem dX0_copyFrom_33 : decode cX0_copyFrom 33 = .ok (.getfield 15, 3) := by decide +kernel
theorem dX0_copyFrom_36 : decode cX0_copyFrom 36 = .ok (.iload_n 2, 1) := by decide +kernel
theorem dX0_copyFrom_37 : decode cX0_copyFrom 37 = .ok (.iaload, 1) := by decide +kernel
theorem dX0_copyFrom_38 : decode cX0_copyFrom 38 = .ok (.iastore, 1) := by decide +kernel
theorem dX0_copyFrom_39 : decode cX0_copyFrom 39 = .ok (.aload_n 0, 1) := by decide +kernel
theorem dX0_copyFrom_40 : decode cX0_copyFrom 40 = .ok (.getfield 18, 3) := by decide +kernel
theorem dX0_copyFrom_43 : decode cX0_copyFrom 43 = .ok (.iload_n 2, 1) := by decide +kernel
theorem dX0_copyFrom_44 : decode cX0_copyFrom 44 = .ok (.aload_n 1, 1) := by decide +kernel
theorem dX0_copyFrom_45 : decode cX0_copyFrom 45 = .ok (.getfield 18, 3) := by decide +kernel
theorem dX0_copyFrom_48 : decode cX0_copyFrom 48 = .ok (.iload_n 2, 1) := by decide +kernel
theorem dX0_copyFrom_49 : decode cX0_copyFrom 49 = .ok (.iaload, 1) := by decide +kernel
theorem dX0_copyFrom_50 : decode cX0_copyFrom 50 = .ok (.iastore, 1) := by decide +kernel
theorem dX0_copyFrom_51 : decode cX0_copyFrom 51 = .ok (.iinc 2 1, 3) := by decide +kernel
theorem dX0_copyFrom_54 : decode cX0_copyFrom 54 = .ok (.goto (-44), 3) := by decide +kernel
theorem dX0_copyFrom_57 : decode cX0_copyFrom 57 = .ok (.aload_n 0, 1) := by decide +kernel
theorem dX0_copyFrom_58 : decode cX0_copyFrom 58 = .ok (.aload_n 1, 1) := by decide +kernel
theorem dX0_copyFrom_59 : decode cX0_copyFrom 59 = .ok (.getfield 25, 3) := by decide +kernel
theorem dX0_copyFrom_62 : decode cX0_copyFrom 62 = .ok (.putfield 25, 3) := by decide +kernel
theorem dX0_copyFrom_65 : decode cX0_copyFrom 65 = .ok (.aload_n 0, 1) := by decide +kernel
theorem dX0_copyFrom_66 : decode cX0_copyFrom 66 = .ok (.aload_n 1, 1) := by decide +kernel
theorem dX0_copyFrom_67 : decode cX0_copyFrom 67 = .ok (.getfield 28, 3) := by decide +kernel
theorem dX0_copyFrom_70 : decode cX0_copyFrom 70 = .ok (.putfield 28, 3) := by decide +kernel
theorem dX0_copyFrom_73 : decode cX0_copyFrom 73 = .ok (.aload_n 0, 1) := by decide +kernel
theorem dX0_copyFrom_74 : decode cX0_copyFrom 74 = .ok (.aload_n 1, 1) := by decide +kernel
theorem dX0_copyFrom_75 : decode cX0_copyFrom 75 = .ok (.getfield 31, 3) := by decide +kernel
theorem dX0_copyFrom_78 : decode cX0_copyFrom 78 = .ok (.putfield 31, 3) := by decide +kernel
theorem dX0_copyFrom_81 : decode cX0_copyFrom 81 = .ok (.aload_n 0, 1) := by decide +kernel
theorem dX0_copyFrom_82 : decode cX0_copyFrom 82 = .ok (.aload_n 1, 1) := by decide +kernel
theorem dX0_copyFrom_83 : decode cX0_copyFrom 83 = .ok (.getfield 35, 3) := by decide +kernel
theorem dX0_copyFrom_86 : decode cX0_copyFrom 86 = .ok (.putfield 35, 3) := by decide +kernel
theorem dX0_copyFrom_89 : decode cX0_copyFrom 89 = .ok (.aload_n 0, 1) := by decide +kernel
theorem dX0_copyFrom_90 : decode cX0_copyFrom 90 = .ok (.aload_n 1, 1) := by decide +kernel
theorem dX0_copyFrom_91 : decode cX0_copyFrom 91 = .ok (.getfield 38, 3) := by decide +kernel
theorem dX0_copyFrom_94 : decode cX0_copyFrom 94 = .ok (.putfield 38, 3) := by decide +kernel
theorem dX0_copyFrom_97 : decode cX0_copyFrom 97 = .ok (.aload_n 0, 1) := by decide +kernel
theorem dX0_copyFrom_98 : decode cX0_copyFrom 98 = .ok (.aload_n 1, 1) := by decide +kernel
theorem dX0_copyFrom_99 : decode cX0_copyFrom 99 = .ok (.getfield 41, 3) := by decide +kernel
theorem dX0_copyFrom_102 : decode cX0_copyFrom 102 = .ok (.putfield 41, 3) := by decide +kernel
theorem dX0_copyFrom_105 : decode cX0_copyFrom 105 = .ok (.aload_n 0, 1) := by decide +kernel
theorem dX0_copyFrom_106 : decode cX0_copyFrom 106 = .ok (.aload_n 1, 1) := by decide +kernel
theorem dX0_copyFrom_107 : decode cX0_copyFrom 107 = .ok (.getfield 44, 3) := by decide +kernel
theorem dX0_copyFrom_110 : decode cX0_copyFrom 110 = .ok (.putfield 44, 3) := by decide +kernel
theorem dX0_copyFrom_113 : decode cX0_copyFrom 113 = .ok (.return_, 1) := by decide +kernel
theorem dX0_addAct_0 : decode cX0_addAct 0 = .ok (.aload_n 0, 1) := by decide +kernel
theorem dX0_addAct_1 : decode cX0_addAct 1 = .ok (.getfield 21, 3) := by decide +kernel
theorem dX0_addAct_4 : decode cX0_addAct 4 = .ok (.ifCond .lt 51, 3) := by decide +kernel
theorem dX0_addAct_7 : decode cX0_addAct 7 = .ok (.aload_n 0, 1) := by decide +kernel
theorem dX0_addAct_8 : decode cX0_addAct 8 = .ok (.getfield 21, 3) := by decide +kernel
theorem dX0_addAct_11 : decode cX0_addAct 11 = .ok (.iconst 4, 1) := by decide +kernel
theorem dX0_addAct_12 : decode cX0_addAct 12 = .ok (.if_icmp .ge 43, 3) := by decide +kernel
theorem dX0_addAct_15 : decode cX0_addAct 15 = .ok (.aload_n 0, 1) := by decide +kernel
theorem dX0_addAct_16 : decode cX0_addAct 16 = .ok (.getfield 9, 3) := by decide +kernel
theorem dX0_addAct_19 : decode cX0_addAct 19 = .ok (.aload_n 0, 1) := by decide +kernel
theorem dX0_addAct_20 : decode cX0_addAct 20 = .ok (.getfield 21, 3) := by decide +kernel
theorem dX0_addAct_23 : decode cX0_addAct 23 = .ok (.iload_n 1, 1) := by decide +kernel
theorem dX0_addAct_24 : decode cX0_addAct 24 = .ok (.iastore, 1) := by decide +kernel
theorem dX0_addAct_25 : decode cX0_addAct 25 = .ok (.aload_n 0, 1) := by decide +kernel
theorem dX0_addAct_26 : decode cX0_addAct 26 = .ok (.getfield 15, 3) := by decide +kernel
theorem dX0_addAct_29 : decode cX0_addAct 29 = .ok (.aload_n 0, 1) := by decide +kernel
theorem dX0_addAct_30 : decode cX0_addAct 30 = .ok (.getfield 21, 3) := by decide +kernel
theorem dX0_addAct_33 : decode cX0_addAct 33 = .ok (.iload_n 2, 1) := by decide +kernel
theorem dX0_addAct_34 : decode cX0_addAct 34 = .ok (.iastore, 1) := by decide +kernel
theorem dX0_addAct_35 : decode cX0_addAct 35 = .ok (.aload_n 0, 1) := by decide +kernel
theorem dX0_addAct_36 : decode cX0_addAct 36 = .ok (.getfield 18, 3) := by decide +kernel
theorem dX0_addAct_39 : decode cX0_addAct 39 = .ok (.aload_n 0, 1) := by decide +kernel
theorem dX0_addAct_40 : decode cX0_addAct 40 = .ok (.getfield 21, 3) := by decide +kernel
theorem dX0_addAct_43 : decode cX0_addAct 43 = .ok (.iload_n 3, 1) := by decide +kernel
theorem dX0_addAct_44 : decode cX0_addAct 44 = .ok (.iastore, 1) := by decide +kernel
theorem dX0_addAct_45 : decode cX0_addAct 45 = .ok (.aload_n 0, 1) := by decide +kernel
theorem dX0_addAct_46 : decode cX0_addAct 46 = .ok (.dup, 1) := by decide +kernel
theorem dX0_addAct_47 : decode cX0_addAct 47 = .ok (.getfield 21, 3) := by decide +kernel
theorem dX0_addAct_50 : decode cX0_addAct 50 = .ok (.iconst 1, 1) := by decide +kernel
theorem dX0_addAct_51 : decode cX0_addAct 51 = .ok (.iadd, 1) := by decide +kernel
theorem dX0_addAct_52 : decode cX0_addAct 52 = .ok (.putfield 21, 3) := by decide +kernel
theorem dX0_addAct_55 : decode cX0_addAct 55 = .ok (.return_, 1) := by decide +kernel
theorem dX0_becomeGo_0 : decode cX0_becomeGo 0 = .ok (.aload_n 0, 1) := by decide +kernel
theorem dX0_becomeGo_1 : decode cX0_becomeGo 1 = .ok (.iconst 1, 1) := by decide +kernel
theorem dX0_becomeGo_2 : decode cX0_becomeGo 2 = .ok (.putfield 25, 3) := by decide +kernel
theorem dX0_becomeGo_5 : decode cX0_becomeGo 5 = .ok (.aload_n 0, 1) := by decide +kernel
theorem dX0_becomeGo_6 : decode cX0_becomeGo 6 = .ok (.iload_n 1, 1) := by decide +kernel
theorem dX0_becomeGo_7 : decode cX0_becomeGo 7 = .ok (.putfield 38, 3) := by decide +kernel
theorem dX0_becomeGo_10 : decode cX0_becomeGo 10 = .ok (.return_, 1) := by decide +kernel
theorem dX0_isTest_0 : decode cX0_isTest 0 = .ok (.aload_n 0, 1) := by decide +kernel
theorem dX0_isTest_1 : decode cX0_isTest 1 = .ok (.getfield 25, 3) := by decide +kernel
theorem dX0_isTest_4 : decode cX0_isTest 4 = .ok (.iconst 2, 1) := by decide +kernel
theorem dX0_isTest_5 : decode cX0_isTest 5 = .ok (.if_icmp .eq 11, 3) := by decide +kernel
theorem dX0_isTest_8 : decode cX0_isTest 8 = .ok (.aload_n 0, 1) := by decide +kernel
theorem dX0_isTest_9 : decode cX0_isTest 9 = .ok (.getfield 25, 3) := by decide +kernel
theorem dX0_isTest_12 : decode cX0_isTest 12 = .ok (.iconst 3, 1) := by decide +kernel
theorem dX0_isTest_13 : decode cX0_isTest 13 = .ok (.if_icmp .ne 7, 3) := by decide +kernel
theorem dX0_isTest_16 : decode cX0_isTest 16 = .ok (.iconst 1, 1) := by decide +kernel
theorem dX0_isTest_17 : decode cX0_isTest 17 = .ok (.goto 4, 3) := by decide +kernel
theorem dX0_isTest_20 : decode cX0_isTest 20 = .ok (.iconst 0, 1) := by decide +kernel
theorem dX0_isTest_21 : decode cX0_isTest 21 = .ok (.ireturn, 1) := by decide +kernel
theorem dX0_edges_0 : decode cX0_edges 0 = .ok (.aload_n 0, 1) := by decide +kernel
theorem dX0_edges_1 : decode cX0_edges 1 = .ok (.invokevirtual 47, 3) := by decide +kernel
theorem dX0_edges_4 : decode cX0_edges 4 = .ok (.ifCond .eq 7, 3) := by decide +kernel
theorem dX0_edges_7 : decode cX0_edges 7 = .ok (.iconst 2, 1) := by decide +kernel
theorem dX0_edges_8 : decode cX0_edges 8 = .ok (.goto 16, 3) := by decide +kernel
theorem dX0_edges_11 : decode cX0_edges 11 = .ok (.aload_n 0, 1) := by decide +kernel
theorem dX0_edges_12 : decode cX0_edges 12 = .ok (.getfield 25, 3) := by decide +kernel
theorem dX0_edges_15 : decode cX0_edges 15 = .ok (.iconst 1, 1) := by decide +kernel
theorem dX0_edges_16 : decode cX0_edges 16 = .ok (.if_icmp .ne 7, 3) := by decide +kernel
theorem dX0_edges_19 : decode cX0_edges 19 = .ok (.iconst 1, 1) := by decide +kernel
theorem dX0_edges_20 : decode cX0_edges 20 = .ok (.goto 4, 3) := by decide +kernel
theorem dX0_edges_23 : decode cX0_edges 23 = .ok (.iconst 0, 1) := by decide +kernel
theorem dX0_edges_24 : decode cX0_edges 24 = .ok (.ireturn, 1) := by decide +kernel
theorem dX0_hasEdge_0 : decode cX0_hasEdge 0 = .ok (.iload_n 1, 1) := by decide +kernel
theorem dX0_hasEdge_1 : decode cX0_hasEdge 1 = .ok (.ifCond .lt 15, 3) := by decide +kernel
theorem dX0_hasEdge_4 : decode cX0_hasEdge 4 = .ok (.iload_n 1, 1) := by decide +kernel
theorem dX0_hasEdge_5 : decode cX0_hasEdge 5 = .ok (.aload_n 0, 1) := by decide +kernel
theorem dX0_hasEdge_6 : decode cX0_hasEdge 6 = .ok (.invokevirtual 51, 3) := by decide +kernel
theorem dX0_hasEdge_9 : decode cX0_hasEdge 9 = .ok (.if_icmp .ge 7, 3) := by decide +kernel
theorem dX0_hasEdge_12 : decode cX0_hasEdge 12 = .ok (.iconst 1, 1) := by decide +kernel
theorem dX0_hasEdge_13 : decode cX0_hasEdge 13 = .ok (.goto 4, 3) := by decide +kernel
theorem dX0_hasEdge_16 : decode cX0_hasEdge 16 = .ok (.iconst 0, 1) := by decide +kernel
theorem dX0_hasEdge_17 : decode cX0_hasEdge 17 = .ok (.ireturn, 1) := by decide +kernel
theorem dX0_target_0 : decode cX0_target 0 = .ok (.iload_n 1, 1) := by decide +kernel
theorem dX0_target_1 : decode cX0_target 1 = .ok (.ifCond .ne 10, 3) := by decide +kernel
theorem dX0_target_4 : decode cX0_target 4 = .ok (.aload_n 0, 1) := by decide +kernel
theorem dX0_target_5 : decode cX0_target 5 = .ok (.getfield 38, 3) := by decide +kernel
theorem dX0_target_8 : decode cX0_target 8 = .ok (.goto 7, 3) := by decide +kernel
theorem dX0_target_11 : decode cX0_target 11 = .ok (.aload_n 0, 1) := by decide +kernel
theorem dX0_target_12 : decode cX0_target 12 = .ok (.getfield 41, 3) := by decide +kernel
theorem dX0_target_15 : decode cX0_target 15 = .ok (.ireturn, 1) := by decide +kernel
theorem dX0_aim_0 : decode cX0_aim 0 = .ok (.iload_n 1, 1) := by decide +kernel
theorem dX0_aim_1 : decode cX0_aim 1 = .ok (.ifCond .ne 11, 3) := by decide +kernel
theorem dX0_aim_4 : decode cX0_aim 4 = .ok (.aload_n 0, 1) := by decide +kernel
theorem dX0_aim_5 : decode cX0_aim 5 = .ok (.iload_n 2, 1) := by decide +kernel
theorem dX0_aim_6 : decode cX0_aim 6 = .ok (.putfield 38, 3) := by decide +kernel
theorem dX0_aim_9 : decode cX0_aim 9 = .ok (.goto 8, 3) := by decide +kernel
theorem dX0_aim_12 : decode cX0_aim 12 = .ok (.aload_n 0, 1) := by decide +kernel
theorem dX0_aim_13 : decode cX0_aim 13 = .ok (.iload_n 2, 1) := by decide +kernel
theorem dX0_aim_14 : decode cX0_aim 14 = .ok (.putfield 41, 3) := by decide +kernel
theorem dX0_aim_17 : decode cX0_aim 17 = .ok (.return_, 1) := by decide +kernel
theorem dX0_testProperty_0 : decode cX0_testProperty 0 = .ok (.iload_n 1, 1) := by decide +kernel
theorem dX0_testProperty_1 : decode cX0_testProperty 1 = .ok (.lookupswitch 45 #[(4, 27), (5, 32)], 27) := by decide +kernel
theorem dX0_testProperty_28 : decode cX0_testProperty 28 = .ok (.aload_n 0, 1) := by decide +kernel
theorem dX0_testProperty_29 : decode cX0_testProperty 29 = .ok (.getfield 28, 3) := by decide +kernel
theorem dX0_testProperty_32 : decode cX0_testProperty 32 = .ok (.ireturn, 1) := by decide +kernel
theorem dX0_testProperty_33 : decode cX0_testProperty 33 = .ok (.aload_n 0, 1) := by decide +kernel
theorem dX0_testProperty_34 : decode cX0_testProperty 34 = .ok (.getfield 31, 3) := by decide +kernel
theorem dX0_testProperty_37 : decode cX0_testProperty 37 = .ok (.ifCond .eq 7, 3) := by decide +kernel
theorem dX0_testProperty_40 : decode cX0_testProperty 40 = .ok (.iconst 1, 1) := by decide +kernel
theorem dX0_testProperty_41 : decode cX0_testProperty 41 = .ok (.goto 4, 3) := by decide +kernel
theorem dX0_testProperty_44 : decode cX0_testProperty 44 = .ok (.iconst 0, 1) := by decide +kernel
theorem dX0_testProperty_45 : decode cX0_testProperty 45 = .ok (.ireturn, 1) := by decide +kernel
theorem dX0_testProperty_46 : decode cX0_testProperty 46 = .ok (.aload_n 0, 1) := by decide +kernel
theorem dX0_testProperty_47 : decode cX0_testProperty 47 = .ok (.getfield 35, 3) := by decide +kernel
theorem dX0_testProperty_50 : decode cX0_testProperty 50 = .ok (.ireturn, 1) := by decide +kernel
theorem dX0_actProperty_0 : decode cX0_actProperty 0 = .ok (.iload_n 1, 1) := by decide +kernel
theorem dX0_actProperty_1 : decode cX0_actProperty 1 = .ok (.ifCond .lt 16, 3) := by decide +kernel
theorem dX0_actProperty_4 : decode cX0_actProperty 4 = .ok (.iload_n 1, 1) := by decide +kernel
theorem dX0_actProperty_5 : decode cX0_actProperty 5 = .ok (.aload_n 0, 1) := by decide +kernel
theorem dX0_actProperty_6 : decode cX0_actProperty 6 = .ok (.getfield 21, 3) := by decide +kernel
theorem dX0_actProperty_9 : decode cX0_actProperty 9 = .ok (.if_icmp .ge 8, 3) := by decide +kernel
theorem dX0_actProperty_12 : decode cX0_actProperty 12 = .ok (.iload_n 1, 1) := by decide +kernel
theorem dX0_actProperty_13 : decode cX0_actProperty 13 = .ok (.iconst 4, 1) := by decide +kernel
theorem dX0_actProperty_14 : decode cX0_actProperty 14 = .ok (.if_icmp .lt 6, 3) := by decide +kernel
theorem dX0_actProperty_17 : decode cX0_actProperty 17 = .ok (.bipush (-4), 2) := by decide +kernel
theorem dX0_actProperty_19 : decode cX0_actProperty 19 = .ok (.ireturn, 1) := by decide +kernel
theorem dX0_actProperty_20 : decode cX0_actProperty 20 = .ok (.iload_n 2, 1) := by decide +kernel
theorem dX0_actProperty_21 : decode cX0_actProperty 21 = .ok (.lookupswitch 41 #[(0, 27), (1, 34)], 27) := by decide +kernel
theorem dX0_actProperty_48 : decode cX0_actProperty 48 = .ok (.aload_n 0, 1) := by decide +kernel
theorem dX0_actProperty_49 : decode cX0_actProperty 49 = .ok (.getfield 9, 3) := by decide +kernel
theorem dX0_actProperty_52 : decode cX0_actProperty 52 = .ok (.iload_n 1, 1) := by decide +kernel
theorem dX0_actProperty_53 : decode cX0_actProperty 53 = .ok (.iaload, 1) := by decide +kernel
theorem dX0_actProperty_54 : decode cX0_actProperty 54 = .ok (.ireturn, 1) := by decide +kernel
theorem dX0_actProperty_55 : decode cX0_actProperty 55 = .ok (.aload_n 0, 1) := by decide +kernel
theorem dX0_actProperty_56 : decode cX0_actProperty 56 = .ok (.getfield 15, 3) := by decide +kernel
theorem dX0_actProperty_59 : decode cX0_actProperty 59 = .ok (.iload_n 1, 1) := by decide +kernel
theorem dX0_actProperty_60 : decode cX0_actProperty 60 = .ok (.iaload, 1) := by decide +kernel
theorem dX0_actProperty_61 : decode cX0_actProperty 61 = .ok (.ireturn, 1) := by decide +kernel
theorem dX0_actProperty_62 : decode cX0_actProperty 62 = .ok (.aload_n 0, 1) := by decide +kernel
theorem dX0_actProperty_63 : decode cX0_actProperty 63 = .ok (.getfield 9, 3) := by decide +kernel
theorem dX0_actProperty_66 : decode cX0_actProperty 66 = .ok (.iload_n 1, 1) := by decide +kernel
theorem dX0_actProperty_67 : decode cX0_actProperty 67 = .ok (.iaload, 1) := by decide +kernel
theorem dX0_actProperty_68 : decode cX0_actProperty 68 = .ok (.iconst 4, 1) := by decide +kernel
theorem dX0_actProperty_69 : decode cX0_actProperty 69 = .ok (.if_icmp .eq 13, 3) := by decide +kernel
theorem dX0_actProperty_72 : decode cX0_actProperty 72 = .ok (.aload_n 0, 1) := by decide +kernel
theorem dX0_actProperty_73 : decode cX0_actProperty 73 = .ok (.getfield 9, 3) := by decide +kernel
theorem dX0_actProperty_76 : decode cX0_actProperty 76 = .ok (.iload_n 1, 1) := by decide +kernel
theorem dX0_actProperty_77 : decode cX0_actProperty 77 = .ok (.iaload, 1) := by decide +kernel
theorem dX0_actProperty_78 : decode cX0_actProperty 78 = .ok (.iconst 5, 1) := by decide +kernel
theorem dX0_actProperty_79 : decode cX0_actProperty 79 = .ok (.if_icmp .ne 8, 3) := by decide +kernel
theorem dX0_actProperty_82 : decode cX0_actProperty 82 = .ok (.bipush (-4), 2) := by decide +kernel
theorem dX0_actProperty_84 : decode cX0_actProperty 84 = .ok (.goto 9, 3) := by decide +kernel
theorem dX0_actProperty_87 : decode cX0_actProperty 87 = .ok (.aload_n 0, 1) := by decide +kernel
theorem dX0_actProperty_88 : decode cX0_actProperty 88 = .ok (.getfield 18, 3) := by decide +kernel
theorem dX0_actProperty_91 : decode cX0_actProperty 91 = .ok (.iload_n 1, 1) := by decide +kernel
theorem dX0_actProperty_92 : decode cX0_actProperty 92 = .ok (.iaload, 1) := by decide +kernel
theorem dX0_actProperty_93 : decode cX0_actProperty 93 = .ok (.ireturn, 1) := by decide +kernel
theorem dX1_init_0 : decode cX1_init 0 = .ok (.aload_n 0, 1) := by decide +kernel
theorem dX1_init_1 : decode cX1_init 1 = .ok (.invokespecial 3, 3) := by decide +kernel
theorem dX1_init_4 : decode cX1_init 4 = .ok (.aload_n 0, 1) := by decide +kernel
theorem dX1_init_5 : decode cX1_init 5 = .ok (.iconst 0, 1) := by decide +kernel
theorem dX1_init_6 : decode cX1_init 6 = .ok (.putfield 9, 3) := by decide +kernel
theorem dX1_init_9 : decode cX1_init 9 = .ok (.return_, 1) := by decide +kernel
theorem dX1_next_0 : decode cX1_next 0 = .ok (.aload_n 0, 1) := by decide +kernel
theorem dX1_next_1 : decode cX1_next 1 = .ok (.aload_n 0, 1) := by decide +kernel
theorem dX1_next_2 : decode cX1_next 2 = .ok (.getfield 9, 3) := by decide +kernel
theorem dX1_next_5 : decode cX1_next 5 = .ok (.ldc 15, 2) := by decide +kernel
theorem dX1_next_7 : decode cX1_next 7 = .ok (.imul, 1) := by decide +kernel
theorem dX1_next_8 : decode cX1_next 8 = .ok (.sipush 12345, 3) := by decide +kernel
theorem dX1_next_11 : decode cX1_next 11 = .ok (.iadd, 1) := by decide +kernel
theorem dX1_next_12 : decode cX1_next 12 = .ok (.putfield 9, 3) := by decide +kernel
theorem dX1_next_15 : decode cX1_next 15 = .ok (.aload_n 0, 1) := by decide +kernel
theorem dX1_next_16 : decode cX1_next 16 = .ok (.getfield 9, 3) := by decide +kernel
theorem dX1_next_19 : decode cX1_next 19 = .ok (.bipush 16, 2) := by decide +kernel
theorem dX1_next_21 : decode cX1_next 21 = .ok (.ishr, 1) := by decide +kernel
theorem dX1_next_22 : decode cX1_next 22 = .ok (.sipush 32767, 3) := by decide +kernel
theorem dX1_next_25 : decode cX1_next 25 = .ok (.iand, 1) := by decide +kernel
theorem dX1_next_26 : decode cX1_next 26 = .ok (.istore_n 2, 1) := by decide +kernel
theorem dX1_next_27 : decode cX1_next 27 = .ok (.iload_n 1, 1) := by decide +kernel
theorem dX1_next_28 : decode cX1_next 28 = .ok (.ifCond .le 9, 3) := by decide +kernel
theorem dX1_next_31 : decode cX1_next 31 = .ok (.iload_n 2, 1) := by decide +kernel
theorem dX1_next_32 : decode cX1_next 32 = .ok (.iload_n 1, 1) := by decide +kernel
theorem dX1_next_33 : decode cX1_next 33 = .ok (.irem, 1) := by decide +kernel
theorem dX1_next_34 : decode cX1_next 34 = .ok (.goto 4, 3) := by decide +kernel
theorem dX1_next_37 : decode cX1_next 37 = .ok (.iconst 0, 1) := by decide +kernel
theorem dX1_next_38 : decode cX1_next 38 = .ok (.ireturn, 1) := by decide +kernel
theorem dX1_makeBlock_0 : decode cX1_makeBlock 0 = .ok (.aload_n 0, 1) := by decide +kernel
theorem dX1_makeBlock_1 : decode cX1_makeBlock 1 = .ok (.iconst 4, 1) := by decide +kernel
theorem dX1_makeBlock_2 : decode cX1_makeBlock 2 = .ok (.invokevirtual 16, 3) := by decide +kernel
theorem dX1_makeBlock_5 : decode cX1_makeBlock 5 = .ok (.istore_n 3, 1) := by decide +kernel
theorem dX1_makeBlock_6 : decode cX1_makeBlock 6 = .ok (.iconst 0, 1) := by decide +kernel
theorem dX1_makeBlock_7 : decode cX1_makeBlock 7 = .ok (.istore 4, 2) := by decide +kernel
theorem dX1_makeBlock_9 : decode cX1_makeBlock 9 = .ok (.iload 4, 2) := by decide +kernel
theorem dX1_makeBlock_11 : decode cX1_makeBlock 11 = .ok (.iload_n 3, 1) := by decide +kernel
theorem dX1_makeBlock_12 : decode cX1_makeBlock 12 = .ok (.if_icmp .ge 14, 3) := by decide +kernel
theorem dX1_makeBlock_15 : decode cX1_makeBlock 15 = .ok (.aload_n 0, 1) := by decide +kernel
theorem dX1_makeBlock_16 : decode cX1_makeBlock 16 = .ok (.aload_n 1, 1) := by decide +kernel
theorem dX1_makeBlock_17 : decode cX1_makeBlock 17 = .ok (.invokevirtual 20, 3) := by decide +kernel
theorem dX1_makeBlock_20 : decode cX1_makeBlock 20 = .ok (.iinc 4 1, 3) := by decide +kernel
theorem dX1_makeBlock_23 : decode cX1_makeBlock 23 = .ok (.goto (-14), 3) := by decide +kernel
theorem dX1_makeBlock_26 : decode cX1_makeBlock 26 = .ok (.aload_n 0, 1) := by decide +kernel
theorem dX1_makeBlock_27 : decode cX1_makeBlock 27 = .ok (.aload_n 1, 1) := by decide +kernel
theorem dX1_makeBlock_28 : decode cX1_makeBlock 28 = .ok (.invokevirtual 24, 3) := by decide +kernel
theorem dX1_makeBlock_31 : decode cX1_makeBlock 31 = .ok (.iconst 0, 1) := by decide +kernel
theorem dX1_makeBlock_32 : decode cX1_makeBlock 32 = .ok (.istore 4, 2) := by decide +kernel
theorem dX1_makeBlock_34 : decode cX1_makeBlock 34 = .ok (.iload 4, 2) := by decide +kernel
theorem dX1_makeBlock_36 : decode cX1_makeBlock 36 = .ok (.aload_n 1, 1) := by decide +kernel
theorem dX1_makeBlock_37 : decode cX1_makeBlock 37 = .ok (.invokevirtual 27, 3) := by decide +kernel
theorem dX1_makeBlock_40 : decode cX1_makeBlock 40 = .ok (.if_icmp .ge 20, 3) := by decide +kernel
theorem dX1_makeBlock_43 : decode cX1_makeBlock 43 = .ok (.aload_n 1, 1) := by decide +kernel
theorem dX1_makeBlock_44 : decode cX1_makeBlock 44 = .ok (.iload 4, 2) := by decide +kernel
theorem dX1_makeBlock_46 : decode cX1_makeBlock 46 = .ok (.aload_n 0, 1) := by decide +kernel
theorem dX1_makeBlock_47 : decode cX1_makeBlock 47 = .ok (.iload_n 2, 1) := by decide +kernel
theorem dX1_makeBlock_48 : decode cX1_makeBlock 48 = .ok (.invokevirtual 16, 3) := by decide +kernel
theorem dX1_makeBlock_51 : decode cX1_makeBlock 51 = .ok (.invokevirtual 33, 3) := by decide +kernel
theorem dX1_makeBlock_54 : decode cX1_makeBlock 54 = .ok (.iinc 4 1, 3) := by decide +kernel
theorem dX1_makeBlock_57 : decode cX1_makeBlock 57 = .ok (.goto (-23), 3) := by decide +kernel
theorem dX1_makeBlock_60 : decode cX1_makeBlock 60 = .ok (.return_, 1) := by decide +kernel
theorem dX1_makeAct_0 : decode cX1_makeAct 0 = .ok (.aload_n 0, 1) := by decide +kernel
theorem dX1_makeAct_1 : decode cX1_makeAct 1 = .ok (.bipush 6, 2) := by decide +kernel
theorem dX1_makeAct_3 : decode cX1_makeAct 3 = .ok (.invokevirtual 16, 3) := by decide +kernel
theorem dX1_makeAct_6 : decode cX1_makeAct 6 = .ok (.istore_n 2, 1) := by decide +kernel
theorem dX1_makeAct_7 : decode cX1_makeAct 7 = .ok (.aload_n 0, 1) := by decide +kernel
theorem dX1_makeAct_8 : decode cX1_makeAct 8 = .ok (.iconst 4, 1) := by decide +kernel
theorem dX1_makeAct_9 : decode cX1_makeAct 9 = .ok (.invokevirtual 16, 3) := by decide +kernel
theorem dX1_makeAct_12 : decode cX1_makeAct 12 = .ok (.istore_n 3, 1) := by decide +kernel
theorem dX1_makeAct_13 : decode cX1_makeAct 13 = .ok (.iconst 0, 1) := by decide +kernel
theorem dX1_makeAct_14 : decode cX1_makeAct 14 = .ok (.istore 4, 2) := by decide +kernel
theorem dX1_makeAct_16 : decode cX1_makeAct 16 = .ok (.iload_n 2, 1) := by decide +kernel
theorem dX1_makeAct_17 : decode cX1_makeAct 17 = .ok (.tableswitch 62 0 3 #[31, 42, 42, 52], 31) := by decide +kernel
theorem dX1_makeAct_48 : decode cX1_makeAct 48 = .ok (.aload_n 0, 1) := by decide +kernel
theorem dX1_makeAct_49 : decode cX1_makeAct 49 = .ok (.bipush 51, 2) := by decide +kernel
theorem dX1_makeAct_51 : decode cX1_makeAct 51 = .ok (.invokevirtual 16, 3) := by decide +kernel
theorem dX1_makeAct_54 : decode cX1_makeAct 54 = .ok (.istore 4, 2) := by decide +kernel
theorem dX1_makeAct_56 : decode cX1_makeAct 56 = .ok (.goto 23, 3) := by decide +kernel
theorem dX1_makeAct_59 : decode cX1_makeAct 59 = .ok (.aload_n 0, 1) := by decide +kernel
theorem dX1_makeAct_60 : decode cX1_makeAct 60 = .ok (.iconst 5, 1) := by decide +kernel
theorem dX1_makeAct_61 : decode cX1_makeAct 61 = .ok (.invokevirtual 16, 3) := by decide +kernel
theorem dX1_makeAct_64 : decode cX1_makeAct 64 = .ok (.istore 4, 2) := by decide +kernel
theorem dX1_makeAct_66 : decode cX1_makeAct 66 = .ok (.goto 13, 3) := by decide +kernel
theorem dX1_makeAct_69 : decode cX1_makeAct 69 = .ok (.aload_n 0, 1) := by decide +kernel
theorem dX1_makeAct_70 : decode cX1_makeAct 70 = .ok (.iconst 4, 1) := by decide +kernel
theorem dX1_makeAct_71 : decode cX1_makeAct 71 = .ok (.invokevirtual 16, 3) := by decide +kernel
theorem dX1_makeAct_74 : decode cX1_makeAct 74 = .ok (.istore 4, 2) := by decide +kernel
theorem dX1_makeAct_76 : decode cX1_makeAct 76 = .ok (.goto 3, 3) := by decide +kernel
theorem dX1_makeAct_79 : decode cX1_makeAct 79 = .ok (.aload_n 1, 1) := by decide +kernel
theorem dX1_makeAct_80 : decode cX1_makeAct 80 = .ok (.iload_n 2, 1) := by decide +kernel
theorem dX1_makeAct_81 : decode cX1_makeAct 81 = .ok (.iload_n 3, 1) := by decide +kernel
theorem dX1_makeAct_82 : decode cX1_makeAct 82 = .ok (.iload 4, 2) := by decide +kernel
theorem dX1_makeAct_84 : decode cX1_makeAct 84 = .ok (.invokevirtual 37, 3) := by decide +kernel
theorem dX1_makeAct_87 : decode cX1_makeAct 87 = .ok (.return_, 1) := by decide +kernel
theorem dX1_makeEnd_0 : decode cX1_makeEnd 0 = .ok (.aload_n 0, 1) := by decide +kernel
theorem dX1_makeEnd_1 : decode cX1_makeEnd 1 = .ok (.iconst 5, 1) := by decide +kernel
theorem dX1_makeEnd_2 : decode cX1_makeEnd 2 = .ok (.invokevirtual 16, 3) := by decide +kernel
theorem dX1_makeEnd_5 : decode cX1_makeEnd 5 = .ok (.istore_n 2, 1) := by decide +kernel
theorem dX1_makeEnd_6 : decode cX1_makeEnd 6 = .ok (.aload_n 1, 1) := by decide +kernel
theorem dX1_makeEnd_7 : decode cX1_makeEnd 7 = .ok (.iload_n 2, 1) := by decide +kernel
theorem dX1_makeEnd_8 : decode cX1_makeEnd 8 = .ok (.iconst 4, 1) := by decide +kernel
theorem dX1_makeEnd_9 : decode cX1_makeEnd 9 = .ok (.if_icmp .ne 7, 3) := by decide +kernel
theorem dX1_makeEnd_12 : decode cX1_makeEnd 12 = .ok (.iconst 2, 1) := by decide +kernel
theorem dX1_makeEnd_13 : decode cX1_makeEnd 13 = .ok (.goto 4, 3) := by decide +kernel
theorem dX1_makeEnd_16 : decode cX1_makeEnd 16 = .ok (.iload_n 2, 1) := by decide +kernel
theorem dX1_makeEnd_17 : decode cX1_makeEnd 17 = .ok (.putfield 41, 3) := by decide +kernel
theorem dX1_makeEnd_20 : decode cX1_makeEnd 20 = .ok (.aload_n 1, 1) := by decide +kernel
theorem dX1_makeEnd_21 : decode cX1_makeEnd 21 = .ok (.invokevirtual 44, 3) := by decide +kernel
theorem dX1_makeEnd_24 : decode cX1_makeEnd 24 = .ok (.ifCond .eq 56, 3) := by decide +kernel
theorem dX1_makeEnd_27 : decode cX1_makeEnd 27 = .ok (.aload_n 1, 1) := by decide +kernel
theorem dX1_makeEnd_28 : decode cX1_makeEnd 28 = .ok (.aload_n 0, 1) := by decide +kernel
theorem dX1_makeEnd_29 : decode cX1_makeEnd 29 = .ok (.iconst 4, 1) := by decide +kernel
theorem dX1_makeEnd_30 : decode cX1_makeEnd 30 = .ok (.invokevirtual 16, 3) := by decide +kernel
theorem dX1_makeEnd_33 : decode cX1_makeEnd 33 = .ok (.putfield 48, 3) := by decide +kernel
theorem dX1_makeEnd_36 : decode cX1_makeEnd 36 = .ok (.aload_n 0, 1) := by decide +kernel
theorem dX1_makeEnd_37 : decode cX1_makeEnd 37 = .ok (.ldc 51, 2) := by decide +kernel
theorem dX1_makeEnd_39 : decode cX1_makeEnd 39 = .ok (.invokevirtual 16, 3) := by decide +kernel
theorem dX1_makeEnd_42 : decode cX1_makeEnd 42 = .ok (.istore_n 3, 1) := by decide +kernel
theorem dX1_makeEnd_43 : decode cX1_makeEnd 43 = .ok (.aload_n 1, 1) := by decide +kernel
theorem dX1_makeEnd_44 : decode cX1_makeEnd 44 = .ok (.iload_n 3, 1) := by decide +kernel
theorem dX1_makeEnd_45 : decode cX1_makeEnd 45 = .ok (.iconst 2, 1) := by decide +kernel
theorem dX1_makeEnd_46 : decode cX1_makeEnd 46 = .ok (.irem, 1) := by decide +kernel
theorem dX1_makeEnd_47 : decode cX1_makeEnd 47 = .ok (.ifCond .eq 7, 3) := by decide +kernel
theorem dX1_makeEnd_50 : decode cX1_makeEnd 50 = .ok (.iconst 1, 1) := by decide +kernel
theorem dX1_makeEnd_51 : decode cX1_makeEnd 51 = .ok (.goto 4, 3) := by decide +kernel
theorem dX1_makeEnd_54 : decode cX1_makeEnd 54 = .ok (.iconst 0, 1) := by decide +kernel
theorem dX1_makeEnd_55 : decode cX1_makeEnd 55 = .ok (.putfield 52, 3) := by decide +kernel
theorem dX1_makeEnd_58 : decode cX1_makeEnd 58 = .ok (.aload_n 1, 1) := by decide +kernel
theorem dX1_makeEnd_59 : decode cX1_makeEnd 59 = .ok (.iload_n 3, 1) := by decide +kernel
theorem dX1_makeEnd_60 : decode cX1_makeEnd 60 = .ok (.bipush 8, 2) := by decide +kernel
theorem dX1_makeEnd_62 : decode cX1_makeEnd 62 = .ok (.idiv, 1) := by decide +kernel
theorem dX1_makeEnd_63 : decode cX1_makeEnd 63 = .ok (.aload_n 1, 1) := by decide +kernel
theorem dX1_makeEnd_64 : decode cX1_makeEnd 64 = .ok (.getfield 52, 3) := by decide +kernel
theorem dX1_makeEnd_67 : decode cX1_makeEnd 67 = .ok (.ifCond .eq 7, 3) := by decide +kernel
theorem dX1_makeEnd_70 : decode cX1_makeEnd 70 = .ok (.iconst 4, 1) := by decide +kernel
theorem dX1_makeEnd_71 : decode cX1_makeEnd 71 = .ok (.goto 5, 3) := by decide +kernel
theorem dX1_makeEnd_74 : decode cX1_makeEnd 74 = .ok (.bipush 51, 2) := by decide +kernel
theorem dX1_makeEnd_76 : decode cX1_makeEnd 76 = .ok (.irem, 1) := by decide +kernel
theorem dX1_makeEnd_77 : decode cX1_makeEnd 77 = .ok (.putfield 56, 3) := by decide +kernel
theorem dX1_makeEnd_80 : decode cX1_makeEnd 80 = .ok (.return_, 1) := by decide +kernel
theorem dX2_init_0 : decode cX2_init 0 = .ok (.aload_n 0, 1) := by decide +kernel
theorem dX2_init_1 : decode cX2_init 1 = .ok (.invokespecial 3, 3) := by decide +kernel
theorem dX2_init_4 : decode cX2_init 4 = .ok (.aload_n 0, 1) := by decide +kernel
theorem dX2_init_5 : decode cX2_init 5 = .ok (.bipush 16, 2) := by decide +kernel
theorem dX2_init_7 : decode cX2_init 7 = .ok (.anewarray 9, 3) := by decide +kernel
theorem dX2_init_10 : decode cX2_init 10 = .ok (.putfield 11, 3) := by decide +kernel
theorem dX2_init_13 : decode cX2_init 13 = .ok (.aload_n 0, 1) := by decide +kernel
theorem dX2_init_14 : decode cX2_init 14 = .ok (.bipush 32, 2) := by decide +kernel
theorem dX2_init_16 : decode cX2_init 16 = .ok (.anewarray 9, 3) := by decide +kernel
theorem dX2_init_19 : decode cX2_init 19 = .ok (.putfield 17, 3) := by decide +kernel
theorem dX2_init_22 : decode cX2_init 22 = .ok (.aload_n 0, 1) := by decide +kernel
theorem dX2_init_23 : decode cX2_init 23 = .ok (.bipush 16, 2) := by decide +kernel
theorem dX2_init_25 : decode cX2_init 25 = .ok (.newarray .boolean, 2) := by decide +kernel
theorem dX2_init_27 : decode cX2_init 27 = .ok (.putfield 20, 3) := by decide +kernel
theorem dX2_init_30 : decode cX2_init 30 = .ok (.aload_n 0, 1) := by decide +kernel
theorem dX2_init_31 : decode cX2_init 31 = .ok (.bipush 16, 2) := by decide +kernel
theorem dX2_init_33 : decode cX2_init 33 = .ok (.newarray .boolean, 2) := by decide +kernel
theorem dX2_init_35 : decode cX2_init 35 = .ok (.putfield 24, 3) := by decide +kernel
theorem dX2_init_38 : decode cX2_init 38 = .ok (.aload_n 0, 1) := by decide +kernel
theorem dX2_init_39 : decode cX2_init 39 = .ok (.bipush 32, 2) := by decide +kernel
theorem dX2_init_41 : decode cX2_init 41 = .ok (.newarray .boolean, 2) := by decide +kernel
theorem dX2_init_43 : decode cX2_init 43 = .ok (.putfield 27, 3) := by decide +kernel
theorem dX2_init_46 : decode cX2_init 46 = .ok (.aload_n 0, 1) := by decide +kernel
theorem dX2_init_47 : decode cX2_init 47 = .ok (.bipush 32, 2) := by decide +kernel
theorem dX2_init_49 : decode cX2_init 49 = .ok (.newarray .int, 2) := by decide +kernel
theorem dX2_init_51 : decode cX2_init 51 = .ok (.putfield 30, 3) := by decide +kernel
theorem dX2_init_54 : decode cX2_init 54 = .ok (.aload_n 0, 1) := by decide +kernel
theorem dX2_init_55 : decode cX2_init 55 = .ok (.new 9, 3) := by decide +kernel
theorem dX2_init_58 : decode cX2_init 58 = .ok (.dup, 1) := by decide +kernel
theorem dX2_init_59 : decode cX2_init 59 = .ok (.invokespecial 34, 3) := by decide +kernel
theorem dX2_init_62 : decode cX2_init 62 = .ok (.putfield 35, 3) := by decide +kernel
theorem dX2_init_65 : decode cX2_init 65 = .ok (.aload_n 0, 1) := by decide +kernel
theorem dX2_init_66 : decode cX2_init 66 = .ok (.new 9, 3) := by decide +kernel
theorem dX2_init_69 : decode cX2_init 69 = .ok (.dup, 1) := by decide +kernel
theorem dX2_init_70 : decode cX2_init 70 = .ok (.invokespecial 34, 3) := by decide +kernel
theorem dX2_init_73 : decode cX2_init 73 = .ok (.putfield 39, 3) := by decide +kernel
theorem dX2_init_76 : decode cX2_init 76 = .ok (.iconst 0, 1) := by decide +kernel
theorem dX2_init_77 : decode cX2_init 77 = .ok (.istore_n 1, 1) := by decide +kernel
theorem dX2_init_78 : decode cX2_init 78 = .ok (.iload_n 1, 1) := by decide +kernel
theorem dX2_init_79 : decode cX2_init 79 = .ok (.bipush 16, 2) := by decide +kernel
theorem dX2_init_81 : decode cX2_init 81 = .ok (.if_icmp .ge 22, 3) := by decide +kernel
theorem dX2_init_84 : decode cX2_init 84 = .ok (.aload_n 0, 1) := by decide +kernel
theorem dX2_init_85 : decode cX2_init 85 = .ok (.getfield 11, 3) := by decide +kernel
theorem dX2_init_88 : decode cX2_init 88 = .ok (.iload_n 1, 1) := by decide +kernel
theorem dX2_init_89 : decode cX2_init 89 = .ok (.new 9, 3) := by decide +kernel
theorem dX2_init_92 : decode cX2_init 92 = .ok (.dup, 1) := by decide +kernel
theorem dX2_init_93 : decode cX2_init 93 = .ok (.invokespecial 34, 3) := by decide +kernel
theorem dX2_init_96 : decode cX2_init 96 = .ok (.aastore, 1) := by decide +kernel
theorem dX2_init_97 : decode cX2_init 97 = .ok (.iinc 1 1, 3) := by decide +kernel
theorem dX2_init_100 : decode cX2_init 100 = .ok (.goto (-22), 3) := by decide +kernel
theorem dX2_init_103 : decode cX2_init 103 = .ok (.iconst 0, 1) := by decide +kernel
theorem dX2_init_104 : decode cX2_init 104 = .ok (.istore_n 1, 1) := by decide +kernel
theorem dX2_init_105 : decode cX2_init 105 = .ok (.iload_n 1, 1) := by decide +kernel
theorem dX2_init_106 : decode cX2_init 106 = .ok (.bipush 32, 2) := by decide +kernel
theorem dX2_init_108 : decode cX2_init 108 = .ok (.if_icmp .ge 22, 3) := by decide +kernel
theorem dX2_init_111 : decode cX2_init 111 = .ok (.aload_n 0, 1) := by decide +kernel
theorem dX2_init_112 : decode cX2_init 112 = .ok (.getfield 17, 3) := by decide +kernel
theorem dX2_init_115 : decode cX2_init 115 = .ok (.iload_n 1, 1) := by decide +kernel
theorem dX2_init_116 : decode cX2_init 116 = .ok (.new 9, 3) := by decide +kernel
theorem dX2_init_119 : decode cX2_init 119 = .ok (.dup, 1) := by decide +kernel
theorem dX2_init_120 : decode cX2_init 120 = .ok (.invokespecial 34, 3) := by decide +kernel
theorem dX2_init_123 : decode cX2_init 123 = .ok (.aastore, 1) := by decide +kernel
theorem dX2_init_124 : decode cX2_init 124 = .ok (.iinc 1 1, 3) := by decide +kernel
theorem dX2_init_127 : decode cX2_init 127 = .ok (.goto (-22), 3) := by decide +kernel
theorem dX2_init_130 : decode cX2_init 130 = .ok (.return_, 1) := by decide +kernel
theorem dX2_solve_0 : decode cX2_solve 0 = .ok (.aload_n 0, 1) := by decide +kernel
theorem dX2_solve_1 : decode cX2_solve 1 = .ok (.invokevirtual 42, 3) := by decide +kernel
theorem dX2_solve_4 : decode cX2_solve 4 = .ok (.aload_n 1, 1) := by decide +kernel
theorem dX2_solve_5 : decode cX2_solve 5 = .ok (.getfield 45, 3) := by decide +kernel
theorem dX2_solve_8 : decode cX2_solve 8 = .ok (.ifCond .ne 4, 3) := by decide +kernel
theorem dX2_solve_11 : decode cX2_solve 11 = .ok (.return_, 1) := by decide +kernel
theorem dX2_solve_12 : decode cX2_solve 12 = .ok (.aload_n 0, 1) := by decide +kernel
theorem dX2_solve_13 : decode cX2_solve 13 = .ok (.getfield 11, 3) := by decide +kernel
theorem dX2_solve_16 : decode cX2_solve 16 = .ok (.iconst 0, 1) := by decide +kernel
theorem dX2_solve_17 : decode cX2_solve 17 = .ok (.aaload, 1) := by decide +kernel
theorem dX2_solve_18 : decode cX2_solve 18 = .ok (.iconst 1, 1) := by decide +kernel
theorem dX2_solve_19 : decode cX2_solve 19 = .ok (.invokevirtual 51, 3) := by decide +kernel
theorem dX2_solve_22 : decode cX2_solve 22 = .ok (.aload_n 0, 1) := by decide +kernel
theorem dX2_solve_23 : decode cX2_solve 23 = .ok (.getfield 20, 3) := by decide +kernel
theorem dX2_solve_26 : decode cX2_solve 26 = .ok (.iconst 0, 1) := by decide +kernel
theorem dX2_solve_27 : decode cX2_solve 27 = .ok (.iconst 1, 1) := by decide +kernel
theorem dX2_solve_28 : decode cX2_solve 28 = .ok (.bastore, 1) := by decide +kernel
theorem dX2_solve_29 : decode cX2_solve 29 = .ok (.aload_n 0, 1) := by decide +kernel
theorem dX2_solve_30 : decode cX2_solve 30 = .ok (.getfield 24, 3) := by decide +kernel
theorem dX2_solve_33 : decode cX2_solve 33 = .ok (.iconst 0, 1) := by decide +kernel
theorem dX2_solve_34 : decode cX2_solve 34 = .ok (.iconst 1, 1) := by decide +kernel
theorem dX2_solve_35 : decode cX2_solve 35 = .ok (.bastore, 1) := by decide +kernel
theorem dX2_solve_36 : decode cX2_solve 36 = .ok (.iconst 1, 1) := by decide +kernel
theorem dX2_solve_37 : decode cX2_solve 37 = .ok (.istore_n 2, 1) := by decide +kernel
theorem dX2_solve_38 : decode cX2_solve 38 = .ok (.iconst 0, 1) := by decide +kernel
theorem dX2_solve_39 : decode cX2_solve 39 = .ok (.istore_n 3, 1) := by decide +kernel
theorem dX2_solve_40 : decode cX2_solve 40 = .ok (.iload_n 3, 1) := by decide +kernel
theorem dX2_solve_41 : decode cX2_solve 41 = .ok (.sipush 3840, 3) := by decide +kernel
theorem dX2_solve_44 : decode cX2_solve 44 = .ok (.if_icmp .ge 63, 3) := by decide +kernel
theorem dX2_solve_47 : decode cX2_solve 47 = .ok (.iload_n 2, 1) := by decide +kernel
theorem dX2_solve_48 : decode cX2_solve 48 = .ok (.ifCond .eq 59, 3) := by decide +kernel
theorem dX2_solve_51 : decode cX2_solve 51 = .ok (.iconst 0, 1) := by decide +kernel
theorem dX2_solve_52 : decode cX2_solve 52 = .ok (.istore_n 2, 1) := by decide +kernel
theorem dX2_solve_53 : decode cX2_solve 53 = .ok (.iconst 0, 1) := by decide +kernel
theorem dX2_solve_54 : decode cX2_solve 54 = .ok (.istore 4, 2) := by decide +kernel
theorem dX2_solve_56 : decode cX2_solve 56 = .ok (.iload 4, 2) := by decide +kernel
theorem dX2_solve_58 : decode cX2_solve 58 = .ok (.bipush 16, 2) := by decide +kernel
theorem dX2_solve_60 : decode cX2_solve 60 = .ok (.if_icmp .ge 41, 3) := by decide +kernel
theorem dX2_solve_63 : decode cX2_solve 63 = .ok (.aload_n 0, 1) := by decide +kernel
theorem dX2_solve_64 : decode cX2_solve 64 = .ok (.getfield 24, 3) := by decide +kernel
theorem dX2_solve_67 : decode cX2_solve 67 = .ok (.iload 4, 2) := by decide +kernel
theorem dX2_solve_69 : decode cX2_solve 69 = .ok (.baload, 1) := by decide +kernel
theorem dX2_solve_70 : decode cX2_solve 70 = .ok (.ifCond .eq 25, 3) := by decide +kernel
theorem dX2_solve_73 : decode cX2_solve 73 = .ok (.aload_n 0, 1) := by decide +kernel
theorem dX2_solve_74 : decode cX2_solve 74 = .ok (.getfield 24, 3) := by decide +kernel
theorem dX2_solve_77 : decode cX2_solve 77 = .ok (.iload 4, 2) := by decide +kernel
theorem dX2_solve_79 : decode cX2_solve 79 = .ok (.iconst 0, 1) := by decide +kernel
theorem dX2_solve_80 : decode cX2_solve 80 = .ok (.bastore, 1) := by decide +kernel
theorem dX2_solve_81 : decode cX2_solve 81 = .ok (.iconst 1, 1) := by decide +kernel
theorem dX2_solve_82 : decode cX2_solve 82 = .ok (.istore_n 2, 1) := by decide +kernel
theorem dX2_solve_83 : decode cX2_solve 83 = .ok (.aload_n 0, 1) := by decide +kernel
theorem dX2_solve_84 : decode cX2_solve 84 = .ok (.iload 4, 2) := by decide +kernel
theorem dX2_solve_86 : decode cX2_solve 86 = .ok (.aload_n 1, 1) := by decide +kernel
theorem dX2_solve_87 : decode cX2_solve 87 = .ok (.iload 4, 2) := by decide +kernel
theorem dX2_solve_89 : decode cX2_solve 89 = .ok (.invokevirtual 55, 3) := by decide +kernel
theorem dX2_solve_92 : decode cX2_solve 92 = .ok (.invokevirtual 59, 3) := by decide +kernel
theorem dX2_solve_95 : decode cX2_solve 95 = .ok (.iinc 4 1, 3) := by decide +kernel
theorem dX2_solve_98 : decode cX2_solve 98 = .ok (.goto (-42), 3) := by decide +kernel
theorem dX2_solve_101 : decode cX2_solve 101 = .ok (.iinc 3 1, 3) := by decide +kernel
theorem dX2_solve_104 : decode cX2_solve 104 = .ok (.goto (-64), 3) := by decide +kernel
theorem dX2_solve_107 : decode cX2_solve 107 = .ok (.return_, 1) := by decide +kernel
theorem dX2_startFromNothing_0 : decode cX2_startFromNothing 0 = .ok (.iconst 0, 1) := by decide +kernel
theorem dX2_startFromNothing_1 : decode cX2_startFromNothing 1 = .ok (.istore_n 1, 1) := by decide +kernel
theorem dX2_startFromNothing_2 : decode cX2_startFromNothing 2 = .ok (.iload_n 1, 1) := by decide +kernel
theorem dX2_startFromNothing_3 : decode cX2_startFromNothing 3 = .ok (.bipush 16, 2) := by decide +kernel
theorem dX2_startFromNothing_5 : decode cX2_startFromNothing 5 = .ok (.if_icmp .ge 33, 3) := by decide +kernel
theorem dX2_startFromNothing_8 : decode cX2_startFromNothing 8 = .ok (.aload_n 0, 1) := by decide +kernel
theorem dX2_startFromNothing_9 : decode cX2_startFromNothing 9 = .ok (.getfield 11, 3) := by decide +kernel
theorem dX2_startFromNothing_12 : decode cX2_startFromNothing 12 = .ok (.iload_n 1, 1) := by decide +kernel
theorem dX2_startFromNothing_13 : decode cX2_startFromNothing 13 = .ok (.aaload, 1) := by decide +kernel
theorem dX2_startFromNothing_14 : decode cX2_startFromNothing 14 = .ok (.iconst 0, 1) := by decide +kernel
theorem dX2_startFromNothing_15 : decode cX2_startFromNothing 15 = .ok (.invokevirtual 51, 3) := by decide +kernel
theorem dX2_startFromNothing_18 : decode cX2_startFromNothing 18 = .ok (.aload_n 0, 1) := by decide +kernel
theorem dX2_startFromNothing_19 : decode cX2_startFromNothing 19 = .ok (.getfield 20, 3) := by decide +kernel
theorem dX2_startFromNothing_22 : decode cX2_startFromNothing 22 = .ok (.iload_n 1, 1) := by decide +kernel
theorem dX2_startFromNothing_23 : decode cX2_startFromNothing 23 = .ok (.iconst 0, 1) := by decide +kernel
theorem dX2_startFromNothing_24 : decode cX2_startFromNothing 24 = .ok (.bastore, 1) := by decide +kernel
theorem dX2_startFromNothing_25 : decode cX2_startFromNothing 25 = .ok (.aload_n 0, 1) := by decide +kernel
theorem dX2_startFromNothing_26 : decode cX2_startFromNothing 26 = .ok (.getfield 24, 3) := by decide +kernel
theorem dX2_startFromNothing_29 : decode cX2_startFromNothing 29 = .ok (.iload_n 1, 1) := by decide +kernel
theorem dX2_startFromNothing_30 : decode cX2_startFromNothing 30 = .ok (.iconst 0, 1) := by decide +kernel
theorem dX2_startFromNothing_31 : decode cX2_startFromNothing 31 = .ok (.bastore, 1) := by decide +kernel
theorem dX2_startFromNothing_32 : decode cX2_startFromNothing 32 = .ok (.iinc 1 1, 3) := by decide +kernel
theorem dX2_startFromNothing_35 : decode cX2_startFromNothing 35 = .ok (.goto (-33), 3) := by decide +kernel
theorem dX2_startFromNothing_38 : decode cX2_startFromNothing 38 = .ok (.iconst 0, 1) := by decide +kernel
theorem dX2_startFromNothing_39 : decode cX2_startFromNothing 39 = .ok (.istore_n 1, 1) := by decide +kernel
theorem dX2_startFromNothing_40 : decode cX2_startFromNothing 40 = .ok (.iload_n 1, 1) := by decide +kernel
theorem dX2_startFromNothing_41 : decode cX2_startFromNothing 41 = .ok (.bipush 32, 2) := by decide +kernel
theorem dX2_startFromNothing_43 : decode cX2_startFromNothing 43 = .ok (.if_icmp .ge 16, 3) := by decide +kernel
theorem dX2_startFromNothing_46 : decode cX2_startFromNothing 46 = .ok (.aload_n 0, 1) := by decide +kernel
theorem dX2_startFromNothing_47 : decode cX2_startFromNothing 47 = .ok (.getfield 27, 3) := by decide +kernel
theorem dX2_startFromNothing_50 : decode cX2_startFromNothing 50 = .ok (.iload_n 1, 1) := by decide +kernel
theorem dX2_startFromNothing_51 : decode cX2_startFromNothing 51 = .ok (.iconst 0, 1) := by decide +kernel
theorem dX2_startFromNothing_52 : decode cX2_startFromNothing 52 = .ok (.bastore, 1) := by decide +kernel
theorem dX2_startFromNothing_53 : decode cX2_startFromNothing 53 = .ok (.iinc 1 1, 3) := by decide +kernel
theorem dX2_startFromNothing_56 : decode cX2_startFromNothing 56 = .ok (.goto (-16), 3) := by decide +kernel
theorem dX2_startFromNothing_59 : decode cX2_startFromNothing 59 = .ok (.return_, 1) := by decide +kernel
theorem dX2_leave_0 : decode cX2_leave 0 = .ok (.aload_n 0, 1) := by decide +kernel
theorem dX2_leave_1 : decode cX2_leave 1 = .ok (.getfield 35, 3) := by decide +kernel
theorem dX2_leave_4 : decode cX2_leave 4 = .ok (.aload_n 0, 1) := by decide +kernel
theorem dX2_leave_5 : decode cX2_leave 5 = .ok (.getfield 11, 3) := by decide +kernel
theorem dX2_leave_8 : decode cX2_leave 8 = .ok (.iload_n 1, 1) := by decide +kernel
theorem dX2_leave_9 : decode cX2_leave 9 = .ok (.aaload, 1) := by decide +kernel
theorem dX2_leave_10 : decode cX2_leave 10 = .ok (.invokevirtual 63, 3) := by decide +kernel
theorem dX2_leave_13 : decode cX2_leave 13 = .ok (.aload_n 0, 1) := by decide +kernel
theorem dX2_leave_14 : decode cX2_leave 14 = .ok (.getfield 35, 3) := by decide +kernel
theorem dX2_leave_17 : decode cX2_leave 17 = .ok (.aload_n 2, 1) := by decide +kernel
theorem dX2_leave_18 : decode cX2_leave 18 = .ok (.invokevirtual 67, 3) := by decide +kernel
theorem dX2_leave_21 : decode cX2_leave 21 = .ok (.iconst 0, 1) := by decide +kernel
theorem dX2_leave_22 : decode cX2_leave 22 = .ok (.istore_n 3, 1) := by decide +kernel
theorem dX2_leave_23 : decode cX2_leave 23 = .ok (.iload_n 3, 1) := by decide +kernel
theorem dX2_leave_24 : decode cX2_leave 24 = .ok (.aload_n 2, 1) := by decide +kernel
theorem dX2_leave_25 : decode cX2_leave 25 = .ok (.invokevirtual 71, 3) := by decide +kernel
theorem dX2_leave_28 : decode cX2_leave 28 = .ok (.if_icmp .ge 84, 3) := by decide +kernel
theorem dX2_leave_31 : decode cX2_leave 31 = .ok (.iload_n 3, 1) := by decide +kernel
theorem dX2_leave_32 : decode cX2_leave 32 = .ok (.iconst 2, 1) := by decide +kernel
theorem dX2_leave_33 : decode cX2_leave 33 = .ok (.if_icmp .ge 79, 3) := by decide +kernel
theorem dX2_leave_36 : decode cX2_leave 36 = .ok (.iconst 2, 1) := by decide +kernel
theorem dX2_leave_37 : decode cX2_leave 37 = .ok (.iload_n 1, 1) := by decide +kernel
theorem dX2_leave_38 : decode cX2_leave 38 = .ok (.imul, 1) := by decide +kernel
theorem dX2_leave_39 : decode cX2_leave 39 = .ok (.iload_n 3, 1) := by decide +kernel
theorem dX2_leave_40 : decode cX2_leave 40 = .ok (.iadd, 1) := by decide +kernel
theorem dX2_leave_41 : decode cX2_leave 41 = .ok (.istore 4, 2) := by decide +kernel
theorem dX2_leave_43 : decode cX2_leave 43 = .ok (.aload_n 0, 1) := by decide +kernel
theorem dX2_leave_44 : decode cX2_leave 44 = .ok (.getfield 17, 3) := by decide +kernel
theorem dX2_leave_47 : decode cX2_leave 47 = .ok (.iload 4, 2) := by decide +kernel
theorem dX2_leave_49 : decode cX2_leave 49 = .ok (.aaload, 1) := by decide +kernel
theorem dX2_leave_50 : decode cX2_leave 50 = .ok (.aload_n 0, 1) := by decide +kernel
theorem dX2_leave_51 : decode cX2_leave 51 = .ok (.getfield 35, 3) := by decide +kernel
theorem dX2_leave_54 : decode cX2_leave 54 = .ok (.invokevirtual 63, 3) := by decide +kernel
theorem dX2_leave_57 : decode cX2_leave 57 = .ok (.aload_n 0, 1) := by decide +kernel
theorem dX2_leave_58 : decode cX2_leave 58 = .ok (.getfield 17, 3) := by decide +kernel
theorem dX2_leave_61 : decode cX2_leave 61 = .ok (.iload 4, 2) := by decide +kernel
theorem dX2_leave_63 : decode cX2_leave 63 = .ok (.aaload, 1) := by decide +kernel
theorem dX2_leave_64 : decode cX2_leave 64 = .ok (.aload_n 2, 1) := by decide +kernel
theorem dX2_leave_65 : decode cX2_leave 65 = .ok (.iload_n 3, 1) := by decide +kernel
theorem dX2_leave_66 : decode cX2_leave 66 = .ok (.invokevirtual 77, 3) := by decide +kernel
theorem dX2_leave_69 : decode cX2_leave 69 = .ok (.aload_n 0, 1) := by decide +kernel
theorem dX2_leave_70 : decode cX2_leave 70 = .ok (.getfield 17, 3) := by decide +kernel
theorem dX2_leave_73 : decode cX2_leave 73 = .ok (.iload 4, 2) := by decide +kernel
theorem dX2_leave_75 : decode cX2_leave 75 = .ok (.aaload, 1) := by decide +kernel
theorem dX2_leave_76 : decode cX2_leave 76 = .ok (.invokevirtual 81, 3) := by decide +kernel
theorem dX2_leave_79 : decode cX2_leave 79 = .ok (.ifCond .eq 27, 3) := by decide +kernel
theorem dX2_leave_82 : decode cX2_leave 82 = .ok (.aload_n 0, 1) := by decide +kernel
theorem dX2_leave_83 : decode cX2_leave 83 = .ok (.getfield 27, 3) := by decide +kernel
theorem dX2_leave_86 : decode cX2_leave 86 = .ok (.iload 4, 2) := by decide +kernel
theorem dX2_leave_88 : decode cX2_leave 88 = .ok (.iconst 1, 1) := by decide +kernel
theorem dX2_leave_89 : decode cX2_leave 89 = .ok (.bastore, 1) := by decide +kernel
theorem dX2_leave_90 : decode cX2_leave 90 = .ok (.aload_n 0, 1) := by decide +kernel
theorem dX2_leave_91 : decode cX2_leave 91 = .ok (.aload_n 2, 1) := by decide +kernel
theorem dX2_leave_92 : decode cX2_leave 92 = .ok (.iload_n 3, 1) := by decide +kernel
theorem dX2_leave_93 : decode cX2_leave 93 = .ok (.invokevirtual 85, 3) := by decide +kernel
theorem dX2_leave_96 : decode cX2_leave 96 = .ok (.aload_n 0, 1) := by decide +kernel
theorem dX2_leave_97 : decode cX2_leave 97 = .ok (.getfield 17, 3) := by decide +kernel
theorem dX2_leave_100 : decode cX2_leave 100 = .ok (.iload 4, 2) := by decide +kernel
theorem dX2_leave_102 : decode cX2_leave 102 = .ok (.aaload, 1) := by decide +kernel
theorem dX2_leave_103 : decode cX2_leave 103 = .ok (.invokevirtual 89, 3) := by decide +kernel
theorem dX2_leave_106 : decode cX2_leave 106 = .ok (.iinc 3 1, 3) := by decide +kernel
theorem dX2_leave_109 : decode cX2_leave 109 = .ok (.goto (-86), 3) := by decide +kernel
theorem dX2_leave_112 : decode cX2_leave 112 = .ok (.return_, 1) := by decide +kernel
theorem dX2_enter_0 : decode cX2_enter 0 = .ok (.iload_n 1, 1) := by decide +kernel
theorem dX2_enter_1 : decode cX2_enter 1 = .ok (.ifCond .lt 47, 3) := by decide +kernel
theorem dX2_enter_4 : decode cX2_enter 4 = .ok (.iload_n 1, 1) := by decide +kernel
theorem dX2_enter_5 : decode cX2_enter 5 = .ok (.bipush 16, 2) := by decide +kernel
theorem dX2_enter_7 : decode cX2_enter 7 = .ok (.if_icmp .ge 41, 3) := by decide +kernel
theorem dX2_enter_10 : decode cX2_enter 10 = .ok (.aload_n 0, 1) := by decide +kernel
theorem dX2_enter_11 : decode cX2_enter 11 = .ok (.getfield 11, 3) := by decide +kernel
theorem dX2_enter_14 : decode cX2_enter 14 = .ok (.iload_n 1, 1) := by decide +kernel
theorem dX2_enter_15 : decode cX2_enter 15 = .ok (.aaload, 1) := by decide +kernel
theorem dX2_enter_16 : decode cX2_enter 16 = .ok (.aload_n 2, 1) := by decide +kernel
theorem dX2_enter_17 : decode cX2_enter 17 = .ok (.invokevirtual 93, 3) := by decide +kernel
theorem dX2_enter_20 : decode cX2_enter 20 = .ok (.istore_n 3, 1) := by decide +kernel
theorem dX2_enter_21 : decode cX2_enter 21 = .ok (.iload_n 3, 1) := by decide +kernel
theorem dX2_enter_22 : decode cX2_enter 22 = .ok (.ifCond .ne 12, 3) := by decide +kernel
theorem dX2_enter_25 : decode cX2_enter 25 = .ok (.aload_n 0, 1) := by decide +kernel
theorem dX2_enter_26 : decode cX2_enter 26 = .ok (.getfield 20, 3) := by decide +kernel
theorem dX2_enter_29 : decode cX2_enter 29 = .ok (.iload_n 1, 1) := by decide +kernel
theorem dX2_enter_30 : decode cX2_enter 30 = .ok (.baload, 1) := by decide +kernel
theorem dX2_enter_31 : decode cX2_enter 31 = .ok (.ifCond .ne 17, 3) := by decide +kernel
theorem dX2_enter_34 : decode cX2_enter 34 = .ok (.aload_n 0, 1) := by decide +kernel
theorem dX2_enter_35 : decode cX2_enter 35 = .ok (.getfield 20, 3) := by decide +kernel
theorem dX2_enter_38 : decode cX2_enter 38 = .ok (.iload_n 1, 1) := by decide +kernel
theorem dX2_enter_39 : decode cX2_enter 39 = .ok (.iconst 1, 1) := by decide +kernel
theorem dX2_enter_40 : decode cX2_enter 40 = .ok (.bastore, 1) := by decide +kernel
theorem dX2_enter_41 : decode cX2_enter 41 = .ok (.aload_n 0, 1) := by decide +kernel
theorem dX2_enter_42 : decode cX2_enter 42 = .ok (.getfield 24, 3) := by decide +kernel
theorem dX2_enter_45 : decode cX2_enter 45 = .ok (.iload_n 1, 1) := by decide +kernel
theorem dX2_enter_46 : decode cX2_enter 46 = .ok (.iconst 1, 1) := by decide +kernel
theorem dX2_enter_47 : decode cX2_enter 47 = .ok (.bastore, 1) := by decide +kernel
theorem dX2_enter_48 : decode cX2_enter 48 = .ok (.return_, 1) := by decide +kernel
theorem dX2_isReached_0 : decode cX2_isReached 0 = .ok (.iload_n 1, 1) := by decide +kernel
theorem dX2_isReached_1 : decode cX2_isReached 1 = .ok (.ifCond .lt 22, 3) := by decide +kernel
theorem dX2_isReached_4 : decode cX2_isReached 4 = .ok (.iload_n 1, 1) := by decide +kernel
theorem dX2_isReached_5 : decode cX2_isReached 5 = .ok (.bipush 16, 2) := by decide +kernel
theorem dX2_isReached_7 : decode cX2_isReached 7 = .ok (.if_icmp .ge 16, 3) := by decide +kernel
theorem dX2_isReached_10 : decode cX2_isReached 10 = .ok (.aload_n 0, 1) := by decide +kernel
theorem dX2_isReached_11 : decode cX2_isReached 11 = .ok (.getfield 20, 3) := by decide +kernel
theorem dX2_isReached_14 : decode cX2_isReached 14 = .ok (.iload_n 1, 1) := by decide +kernel
theorem dX2_isReached_15 : decode cX2_isReached 15 = .ok (.baload, 1) := by decide +kernel
theorem dX2_isReached_16 : decode cX2_isReached 16 = .ok (.ifCond .eq 7, 3) := by decide +kernel
theorem dX2_isReached_19 : decode cX2_isReached 19 = .ok (.iconst 1, 1) := by decide +kernel
theorem dX2_isReached_20 : decode cX2_isReached 20 = .ok (.goto 4, 3) := by decide +kernel
theorem dX2_isReached_23 : decode cX2_isReached 23 = .ok (.iconst 0, 1) := by decide +kernel
theorem dX2_isReached_24 : decode cX2_isReached 24 = .ok (.ireturn, 1) := by decide +kernel
theorem dX2_isOpen_0 : decode cX2_isOpen 0 = .ok (.aload_n 0, 1) := by decide +kernel
theorem dX2_isOpen_1 : decode cX2_isOpen 1 = .ok (.iload_n 1, 1) := by decide +kernel
theorem dX2_isOpen_2 : decode cX2_isOpen 2 = .ok (.invokevirtual 97, 3) := by decide +kernel
theorem dX2_isOpen_5 : decode cX2_isOpen 5 = .ok (.ifCond .eq 29, 3) := by decide +kernel
theorem dX2_isOpen_8 : decode cX2_isOpen 8 = .ok (.iload_n 2, 1) := by decide +kernel
theorem dX2_isOpen_9 : decode cX2_isOpen 9 = .ok (.ifCond .lt 25, 3) := by decide +kernel
theorem dX2_isOpen_12 : decode cX2_isOpen 12 = .ok (.iload_n 2, 1) := by decide +kernel
theorem dX2_isOpen_13 : decode cX2_isOpen 13 = .ok (.iconst 2, 1) := by decide +kernel
theorem dX2_isOpen_14 : decode cX2_isOpen 14 = .ok (.if_icmp .ge 20, 3) := by decide +kernel
theorem dX2_isOpen_17 : decode cX2_isOpen 17 = .ok (.aload_n 0, 1) := by decide +kernel
theorem dX2_isOpen_18 : decode cX2_isOpen 18 = .ok (.getfield 27, 3) := by decide +kernel
theorem dX2_isOpen_21 : decode cX2_isOpen 21 = .ok (.iconst 2, 1) := by decide +kernel
theorem dX2_isOpen_22 : decode cX2_isOpen 22 = .ok (.iload_n 1, 1) := by decide +kernel
theorem dX2_isOpen_23 : decode cX2_isOpen 23 = .ok (.imul, 1) := by decide +kernel
theorem dX2_isOpen_24 : decode cX2_isOpen 24 = .ok (.iload_n 2, 1) := by decide +kernel
theorem dX2_isOpen_25 : decode cX2_isOpen 25 = .ok (.iadd, 1) := by decide +kernel
theorem dX2_isOpen_26 : decode cX2_isOpen 26 = .ok (.baload, 1) := by decide +kernel
theorem dX2_isOpen_27 : decode cX2_isOpen 27 = .ok (.ifCond .eq 7, 3) := by decide +kernel
theorem dX2_isOpen_30 : decode cX2_isOpen 30 = .ok (.iconst 1, 1) := by decide +kernel
theorem dX2_isOpen_31 : decode cX2_isOpen 31 = .ok (.goto 4, 3) := by decide +kernel
theorem dX2_isOpen_34 : decode cX2_isOpen 34 = .ok (.iconst 0, 1) := by decide +kernel
theorem dX2_isOpen_35 : decode cX2_isOpen 35 = .ok (.ireturn, 1) := by decide +kernel
theorem dX2_reachedBlocks_0 : decode cX2_reachedBlocks 0 = .ok (.iconst 0, 1) := by decide +kernel
theorem dX2_reachedBlocks_1 : decode cX2_reachedBlocks 1 = .ok (.istore_n 1, 1) := by decide +kernel
theorem dX2_reachedBlocks_2 : decode cX2_reachedBlocks 2 = .ok (.iconst 0, 1) := by decide +kernel
theorem dX2_reachedBlocks_3 : decode cX2_reachedBlocks 3 = .ok (.istore_n 2, 1) := by decide +kernel
theorem dX2_reachedBlocks_4 : decode cX2_reachedBlocks 4 = .ok (.iload_n 2, 1) := by decide +kernel
theorem dX2_reachedBlocks_5 : decode cX2_reachedBlocks 5 = .ok (.bipush 16, 2) := by decide +kernel
theorem dX2_reachedBlocks_7 : decode cX2_reachedBlocks 7 = .ok (.if_icmp .ge 26, 3) := by decide +kernel
theorem dX2_reachedBlocks_10 : decode cX2_reachedBlocks 10 = .ok (.iload_n 1, 1) := by decide +kernel
theorem dX2_reachedBlocks_11 : decode cX2_reachedBlocks 11 = .ok (.aload_n 0, 1) := by decide +kernel
theorem dX2_reachedBlocks_12 : decode cX2_reachedBlocks 12 = .ok (.getfield 20, 3) := by decide +kernel
theorem dX2_reachedBlocks_15 : decode cX2_reachedBlocks 15 = .ok (.iload_n 2, 1) := by decide +kernel
theorem dX2_reachedBlocks_16 : decode cX2_reachedBlocks 16 = .ok (.baload, 1) := by decide +kernel
theorem dX2_reachedBlocks_17 : decode cX2_reachedBlocks 17 = .ok (.ifCond .eq 7, 3) := by decide +kernel
theorem dX2_reachedBlocks_20 : decode cX2_reachedBlocks 20 = .ok (.iconst 1, 1) := by decide +kernel
theorem dX2_reachedBlocks_21 : decode cX2_reachedBlocks 21 = .ok (.goto 4, 3) := by decide +kernel
theorem dX2_reachedBlocks_24 : decode cX2_reachedBlocks 24 = .ok (.iconst 0, 1) := by decide +kernel
theorem dX2_reachedBlocks_25 : decode cX2_reachedBlocks 25 = .ok (.iadd, 1) := by decide +kernel
theorem dX2_reachedBlocks_26 : decode cX2_reachedBlocks 26 = .ok (.istore_n 1, 1) := by decide +kernel
theorem dX2_reachedBlocks_27 : decode cX2_reachedBlocks 27 = .ok (.iinc 2 1, 3) := by decide +kernel
theorem dX2_reachedBlocks_30 : decode cX2_reachedBlocks 30 = .ok (.goto (-26), 3) := by decide +kernel
theorem dX2_reachedBlocks_33 : decode cX2_reachedBlocks 33 = .ok (.iload_n 1, 1) := by decide +kernel
theorem dX2_reachedBlocks_34 : decode cX2_reachedBlocks 34 = .ok (.ireturn, 1) := by decide +kernel
theorem dX2_openEdges_0 : decode cX2_openEdges 0 = .ok (.iconst 0, 1) := by decide +kernel
theorem dX2_openEdges_1 : decode cX2_openEdges 1 = .ok (.istore_n 1, 1) := by decide +kernel
theorem dX2_openEdges_2 : decode cX2_openEdges 2 = .ok (.iconst 0, 1) := by decide +kernel
theorem dX2_openEdges_3 : decode cX2_openEdges 3 = .ok (.istore_n 2, 1) := by decide +kernel
theorem dX2_openEdges_4 : decode cX2_openEdges 4 = .ok (.iload_n 2, 1) := by decide +kernel
theorem dX2_openEdges_5 : decode cX2_openEdges 5 = .ok (.bipush 32, 2) := by decide +kernel
theorem dX2_openEdges_7 : decode cX2_openEdges 7 = .ok (.if_icmp .ge 26, 3) := by decide +kernel
theorem dX2_openEdges_10 : decode cX2_openEdges 10 = .ok (.iload_n 1, 1) := by decide +kernel
theorem dX2_openEdges_11 : decode cX2_openEdges 11 = .ok (.aload_n 0, 1) := by decide +kernel
theorem dX2_openEdges_12 : decode cX2_openEdges 12 = .ok (.getfield 27, 3) := by decide +kernel
theorem dX2_openEdges_15 : decode cX2_openEdges 15 = .ok (.iload_n 2, 1) := by decide +kernel
theorem dX2_openEdges_16 : decode cX2_openEdges 16 = .ok (.baload, 1) := by decide +kernel
theorem dX2_openEdges_17 : decode cX2_openEdges 17 = .ok (.ifCond .eq 7, 3) := by decide +kernel
theorem dX2_openEdges_20 : decode cX2_openEdges 20 = .ok (.iconst 1, 1) := by decide +kernel
theorem dX2_openEdges_21 : decode cX2_openEdges 21 = .ok (.goto 4, 3) := by decide +kernel
theorem dX2_openEdges_24 : decode cX2_openEdges 24 = .ok (.iconst 0, 1) := by decide +kernel
theorem dX2_openEdges_25 : decode cX2_openEdges 25 = .ok (.iadd, 1) := by decide +kernel
theorem dX2_openEdges_26 : decode cX2_openEdges 26 = .ok (.istore_n 1, 1) := by decide +kernel
theorem dX2_openEdges_27 : decode cX2_openEdges 27 = .ok (.iinc 2 1, 3) := by decide +kernel
theorem dX2_openEdges_30 : decode cX2_openEdges 30 = .ok (.goto (-26), 3) := by decide +kernel
theorem dX2_openEdges_33 : decode cX2_openEdges 33 = .ok (.iload_n 1, 1) := by decide +kernel
theorem dX2_openEdges_34 : decode cX2_openEdges 34 = .ok (.ireturn, 1) := by decide +kernel
theorem dX2_knownTests_0 : decode cX2_knownTests 0 = .ok (.iconst 0, 1) := by decide +kernel
theorem dX2_knownTests_1 : decode cX2_knownTests 1 = .ok (.istore_n 2, 1) := by decide +kernel
theorem dX2_knownTests_2 : decode cX2_knownTests 2 = .ok (.iconst 0, 1) := by decide +kernel
theorem dX2_knownTests_3 : decode cX2_knownTests 3 = .ok (.istore_n 3, 1) := by decide +kernel
theorem dX2_knownTests_4 : decode cX2_knownTests 4 = .ok (.iload_n 3, 1) := by decide +kernel
theorem dX2_knownTests_5 : decode cX2_knownTests 5 = .ok (.aload_n 1, 1) := by decide +kernel
theorem dX2_knownTests_6 : decode cX2_knownTests 6 = .ok (.getfield 45, 3) := by decide +kernel
theorem dX2_knownTests_9 : decode cX2_knownTests 9 = .ok (.if_icmp .ge 26, 3) := by decide +kernel
theorem dX2_knownTests_12 : decode cX2_knownTests 12 = .ok (.iload_n 2, 1) := by decide +kernel
theorem dX2_knownTests_13 : decode cX2_knownTests 13 = .ok (.aload_n 0, 1) := by decide +kernel
theorem dX2_knownTests_14 : decode cX2_knownTests 14 = .ok (.aload_n 1, 1) := by decide +kernel
theorem dX2_knownTests_15 : decode cX2_knownTests 15 = .ok (.iload_n 3, 1) := by decide +kernel
theorem dX2_knownTests_16 : decode cX2_knownTests 16 = .ok (.invokevirtual 101, 3) := by decide +kernel
theorem dX2_knownTests_19 : decode cX2_knownTests 19 = .ok (.ifCond .eq 7, 3) := by decide +kernel
theorem dX2_knownTests_22 : decode cX2_knownTests 22 = .ok (.iconst 1, 1) := by decide +kernel
theorem dX2_knownTests_23 : decode cX2_knownTests 23 = .ok (.goto 4, 3) := by decide +kernel
theorem dX2_knownTests_26 : decode cX2_knownTests 26 = .ok (.iconst 0, 1) := by decide +kernel
theorem dX2_knownTests_27 : decode cX2_knownTests 27 = .ok (.iadd, 1) := by decide +kernel
theorem dX2_knownTests_28 : decode cX2_knownTests 28 = .ok (.istore_n 2, 1) := by decide +kernel
theorem dX2_knownTests_29 : decode cX2_knownTests 29 = .ok (.iinc 3 1, 3) := by decide +kernel
theorem dX2_knownTests_32 : decode cX2_knownTests 32 = .ok (.goto (-28), 3) := by decide +kernel
theorem dX2_knownTests_35 : decode cX2_knownTests 35 = .ok (.iload_n 2, 1) := by decide +kernel
theorem dX2_knownTests_36 : decode cX2_knownTests 36 = .ok (.ireturn, 1) := by decide +kernel
theorem dX2_isKnownTest_0 : decode cX2_isKnownTest 0 = .ok (.aload_n 0, 1) := by decide +kernel
theorem dX2_isKnownTest_1 : decode cX2_isKnownTest 1 = .ok (.iload_n 2, 1) := by decide +kernel
theorem dX2_isKnownTest_2 : decode cX2_isKnownTest 2 = .ok (.invokevirtual 97, 3) := by decide +kernel
theorem dX2_isKnownTest_5 : decode cX2_isKnownTest 5 = .ok (.ifCond .eq 26, 3) := by decide +kernel
theorem dX2_isKnownTest_8 : decode cX2_isKnownTest 8 = .ok (.aload_n 1, 1) := by decide +kernel
theorem dX2_isKnownTest_9 : decode cX2_isKnownTest 9 = .ok (.iload_n 2, 1) := by decide +kernel
theorem dX2_isKnownTest_10 : decode cX2_isKnownTest 10 = .ok (.invokevirtual 55, 3) := by decide +kernel
theorem dX2_isKnownTest_13 : decode cX2_isKnownTest 13 = .ok (.invokevirtual 105, 3) := by decide +kernel
theorem dX2_isKnownTest_16 : decode cX2_isKnownTest 16 = .ok (.ifCond .eq 15, 3) := by decide +kernel
theorem dX2_isKnownTest_19 : decode cX2_isKnownTest 19 = .ok (.aload_n 0, 1) := by decide +kernel
theorem dX2_isKnownTest_20 : decode cX2_isKnownTest 20 = .ok (.iload_n 2, 1) := by decide +kernel
theorem dX2_isKnownTest_21 : decode cX2_isKnownTest 21 = .ok (.invokevirtual 108, 3) := by decide +kernel
theorem dX2_isKnownTest_24 : decode cX2_isKnownTest 24 = .ok (.ifCond .eq 7, 3) := by decide +kernel
theorem dX2_isKnownTest_27 : decode cX2_isKnownTest 27 = .ok (.iconst 1, 1) := by decide +kernel
theorem dX2_isKnownTest_28 : decode cX2_isKnownTest 28 = .ok (.goto 4, 3) := by decide +kernel
theorem dX2_isKnownTest_31 : decode cX2_isKnownTest 31 = .ok (.iconst 0, 1) := by decide +kernel
theorem dX2_isKnownTest_32 : decode cX2_isKnownTest 32 = .ok (.ireturn, 1) := by decide +kernel
theorem dX2_outcomeAt_0 : decode cX2_outcomeAt 0 = .ok (.aload_n 0, 1) := by decide +kernel
theorem dX2_outcomeAt_1 : decode cX2_outcomeAt 1 = .ok (.iload_n 1, 1) := by decide +kernel
theorem dX2_outcomeAt_2 : decode cX2_outcomeAt 2 = .ok (.iconst 0, 1) := by decide +kernel
theorem dX2_outcomeAt_3 : decode cX2_outcomeAt 3 = .ok (.invokevirtual 111, 3) := by decide +kernel
theorem dX2_outcomeAt_6 : decode cX2_outcomeAt 6 = .ok (.aload_n 0, 1) := by decide +kernel
theorem dX2_outcomeAt_7 : decode cX2_outcomeAt 7 = .ok (.iload_n 1, 1) := by decide +kernel
theorem dX2_outcomeAt_8 : decode cX2_outcomeAt 8 = .ok (.iconst 1, 1) := by decide +kernel
theorem dX2_outcomeAt_9 : decode cX2_outcomeAt 9 = .ok (.invokevirtual 111, 3) := by decide +kernel
theorem dX2_outcomeAt_12 : decode cX2_outcomeAt 12 = .ok (.invokestatic 115, 3) := by decide +kernel
theorem dX2_outcomeAt_15 : decode cX2_outcomeAt 15 = .ok (.ireturn, 1) := by decide +kernel
theorem dX2_outcomeAlong_0 : decode cX2_outcomeAlong 0 = .ok (.aload_n 0, 1) := by decide +kernel
theorem dX2_outcomeAlong_1 : decode cX2_outcomeAlong 1 = .ok (.iload_n 1, 1) := by decide +kernel
theorem dX2_outcomeAlong_2 : decode cX2_outcomeAlong 2 = .ok (.iload_n 2, 1) := by decide +kernel
theorem dX2_outcomeAlong_3 : decode cX2_outcomeAlong 3 = .ok (.invokevirtual 111, 3) := by decide +kernel
theorem dX2_outcomeAlong_6 : decode cX2_outcomeAlong 6 = .ok (.ifCond .eq 16, 3) := by decide +kernel
theorem dX2_outcomeAlong_9 : decode cX2_outcomeAlong 9 = .ok (.aload_n 0, 1) := by decide +kernel
theorem dX2_outcomeAlong_10 : decode cX2_outcomeAlong 10 = .ok (.getfield 30, 3) := by decide +kernel
theorem dX2_outcomeAlong_13 : decode cX2_outcomeAlong 13 = .ok (.iconst 2, 1) := by decide +kernel
theorem dX2_outcomeAlong_14 : decode cX2_outcomeAlong 14 = .ok (.iload_n 1, 1) := by decide +kernel
theorem dX2_outcomeAlong_15 : decode cX2_outcomeAlong 15 = .ok (.imul, 1) := by decide +kernel
theorem dX2_outcomeAlong_16 : decode cX2_outcomeAlong 16 = .ok (.iload_n 2, 1) := by decide +kernel
theorem dX2_outcomeAlong_17 : decode cX2_outcomeAlong 17 = .ok (.iadd, 1) := by decide +kernel
theorem dX2_outcomeAlong_18 : decode cX2_outcomeAlong 18 = .ok (.iaload, 1) := by decide +kernel
theorem dX2_outcomeAlong_19 : decode cX2_outcomeAlong 19 = .ok (.goto 4, 3) := by decide +kernel
theorem dX2_outcomeAlong_22 : decode cX2_outcomeAlong 22 = .ok (.iconst 0, 1) := by decide +kernel
theorem dX2_outcomeAlong_23 : decode cX2_outcomeAlong 23 = .ok (.ireturn, 1) := by decide +kernel
theorem dX2_lookAhead_0 : decode cX2_lookAhead 0 = .ok (.iconst 0, 1) := by decide +kernel
theorem dX2_lookAhead_1 : decode cX2_lookAhead 1 = .ok (.istore_n 2, 1) := by decide +kernel
theorem dX2_lookAhead_2 : decode cX2_lookAhead 2 = .ok (.iload_n 2, 1) := by decide +kernel
theorem dX2_lookAhead_3 : decode cX2_lookAhead 3 = .ok (.bipush 32, 2) := by decide +kernel
theorem dX2_lookAhead_5 : decode cX2_lookAhead 5 = .ok (.if_icmp .ge 85, 3) := by decide +kernel
theorem dX2_lookAhead_8 : decode cX2_lookAhead 8 = .ok (.aload_n 1, 1) := by decide +kernel
theorem dX2_lookAhead_9 : decode cX2_lookAhead 9 = .ok (.aload_n 1, 1) := by decide +kernel
theorem dX2_lookAhead_10 : decode cX2_lookAhead 10 = .ok (.iload_n 2, 1) := by decide +kernel
theorem dX2_lookAhead_11 : decode cX2_lookAhead 11 = .ok (.iconst 2, 1) := by decide +kernel
theorem dX2_lookAhead_12 : decode cX2_lookAhead 12 = .ok (.idiv, 1) := by decide +kernel
theorem dX2_lookAhead_13 : decode cX2_lookAhead 13 = .ok (.invokevirtual 55, 3) := by decide +kernel
theorem dX2_lookAhead_16 : decode cX2_lookAhead 16 = .ok (.iload_n 2, 1) := by decide +kernel
theorem dX2_lookAhead_17 : decode cX2_lookAhead 17 = .ok (.iconst 2, 1) := by decide +kernel
theorem dX2_lookAhead_18 : decode cX2_lookAhead 18 = .ok (.irem, 1) := by decide +kernel
theorem dX2_lookAhead_19 : decode cX2_lookAhead 19 = .ok (.invokevirtual 85, 3) := by decide +kernel
theorem dX2_lookAhead_22 : decode cX2_lookAhead 22 = .ok (.invokevirtual 55, 3) := by decide +kernel
theorem dX2_lookAhead_25 : decode cX2_lookAhead 25 = .ok (.astore_n 3, 1) := by decide +kernel
theorem dX2_lookAhead_26 : decode cX2_lookAhead 26 = .ok (.aload_n 0, 1) := by decide +kernel
theorem dX2_lookAhead_27 : decode cX2_lookAhead 27 = .ok (.getfield 27, 3) := by decide +kernel
theorem dX2_lookAhead_30 : decode cX2_lookAhead 30 = .ok (.iload_n 2, 1) := by decide +kernel
theorem dX2_lookAhead_31 : decode cX2_lookAhead 31 = .ok (.baload, 1) := by decide +kernel
theorem dX2_lookAhead_32 : decode cX2_lookAhead 32 = .ok (.ifCond .eq 52, 3) := by decide +kernel
theorem dX2_lookAhead_35 : decode cX2_lookAhead 35 = .ok (.aload_n 3, 1) := by decide +kernel
theorem dX2_lookAhead_36 : decode cX2_lookAhead 36 = .ok (.invokevirtual 105, 3) := by decide +kernel
theorem dX2_lookAhead_39 : decode cX2_lookAhead 39 = .ok (.ifCond .eq 45, 3) := by decide +kernel
theorem dX2_lookAhead_42 : decode cX2_lookAhead 42 = .ok (.aload_n 0, 1) := by decide +kernel
theorem dX2_lookAhead_43 : decode cX2_lookAhead 43 = .ok (.getfield 35, 3) := by decide +kernel
theorem dX2_lookAhead_46 : decode cX2_lookAhead 46 = .ok (.aload_n 0, 1) := by decide +kernel
theorem dX2_lookAhead_47 : decode cX2_lookAhead 47 = .ok (.getfield 17, 3) := by decide +kernel
theorem dX2_lookAhead_50 : decode cX2_lookAhead 50 = .ok (.iload_n 2, 1) := by decide +kernel
theorem dX2_lookAhead_51 : decode cX2_lookAhead 51 = .ok (.aaload, 1) := by decide +kernel
theorem dX2_lookAhead_52 : decode cX2_lookAhead 52 = .ok (.invokevirtual 63, 3) := by decide +kernel
theorem dX2_lookAhead_55 : decode cX2_lookAhead 55 = .ok (.aload_n 0, 1) := by decide +kernel
theorem dX2_lookAhead_56 : decode cX2_lookAhead 56 = .ok (.getfield 35, 3) := by decide +kernel
theorem dX2_lookAhead_59 : decode cX2_lookAhead 59 = .ok (.aload_n 3, 1) := by decide +kernel
theorem dX2_lookAhead_60 : decode cX2_lookAhead 60 = .ok (.invokevirtual 67, 3) := by decide +kernel
theorem dX2_lookAhead_63 : decode cX2_lookAhead 63 = .ok (.aload_n 0, 1) := by decide +kernel
theorem dX2_lookAhead_64 : decode cX2_lookAhead 64 = .ok (.getfield 30, 3) := by decide +kernel
theorem dX2_lookAhead_67 : decode cX2_lookAhead 67 = .ok (.iload_n 2, 1) := by decide +kernel
theorem dX2_lookAhead_68 : decode cX2_lookAhead 68 = .ok (.aload_n 0, 1) := by decide +kernel
theorem dX2_lookAhead_69 : decode cX2_lookAhead 69 = .ok (.aload_n 3, 1) := by decide +kernel
theorem dX2_lookAhead_70 : decode cX2_lookAhead 70 = .ok (.iconst 0, 1) := by decide +kernel
theorem dX2_lookAhead_71 : decode cX2_lookAhead 71 = .ok (.invokevirtual 119, 3) := by decide +kernel
theorem dX2_lookAhead_74 : decode cX2_lookAhead 74 = .ok (.aload_n 0, 1) := by decide +kernel
theorem dX2_lookAhead_75 : decode cX2_lookAhead 75 = .ok (.aload_n 3, 1) := by decide +kernel
theorem dX2_lookAhead_76 : decode cX2_lookAhead 76 = .ok (.iconst 1, 1) := by decide +kernel
theorem dX2_lookAhead_77 : decode cX2_lookAhead 77 = .ok (.invokevirtual 119, 3) := by decide +kernel
theorem dX2_lookAhead_80 : decode cX2_lookAhead 80 = .ok (.invokestatic 115, 3) := by decide +kernel
theorem dX2_lookAhead_83 : decode cX2_lookAhead 83 = .ok (.iastore, 1) := by decide +kernel
theorem dX2_lookAhead_84 : decode cX2_lookAhead 84 = .ok (.iinc 2 1, 3) := by decide +kernel
theorem dX2_lookAhead_87 : decode cX2_lookAhead 87 = .ok (.goto (-85), 3) := by decide +kernel
theorem dX2_lookAhead_90 : decode cX2_lookAhead 90 = .ok (.return_, 1) := by decide +kernel
theorem dX2_opensAfter_0 : decode cX2_opensAfter 0 = .ok (.aload_n 0, 1) := by decide +kernel
theorem dX2_opensAfter_1 : decode cX2_opensAfter 1 = .ok (.getfield 39, 3) := by decide +kernel
theorem dX2_opensAfter_4 : decode cX2_opensAfter 4 = .ok (.aload_n 0, 1) := by decide +kernel
theorem dX2_opensAfter_5 : decode cX2_opensAfter 5 = .ok (.getfield 35, 3) := by decide +kernel
theorem dX2_opensAfter_8 : decode cX2_opensAfter 8 = .ok (.invokevirtual 63, 3) := by decide +kernel
theorem dX2_opensAfter_11 : decode cX2_opensAfter 11 = .ok (.aload_n 0, 1) := by decide +kernel
theorem dX2_opensAfter_12 : decode cX2_opensAfter 12 = .ok (.getfield 39, 3) := by decide +kernel
theorem dX2_opensAfter_15 : decode cX2_opensAfter 15 = .ok (.aload_n 1, 1) := by decide +kernel
theorem dX2_opensAfter_16 : decode cX2_opensAfter 16 = .ok (.iload_n 2, 1) := by decide +kernel
theorem dX2_opensAfter_17 : decode cX2_opensAfter 17 = .ok (.invokevirtual 77, 3) := by decide +kernel
theorem dX2_opensAfter_20 : decode cX2_opensAfter 20 = .ok (.aload_n 0, 1) := by decide +kernel
theorem dX2_opensAfter_21 : decode cX2_opensAfter 21 = .ok (.getfield 39, 3) := by decide +kernel
theorem dX2_opensAfter_24 : decode cX2_opensAfter 24 = .ok (.invokevirtual 81, 3) := by decide +kernel
theorem dX2_opensAfter_27 : decode cX2_opensAfter 27 = .ok (.ireturn, 1) := by decide +kernel
theorem dX2_outcomeOf_0 : decode cX2_outcomeOf 0 = .ok (.iload_n 0, 1) := by decide +kernel
theorem dX2_outcomeOf_1 : decode cX2_outcomeOf 1 = .ok (.iload_n 1, 1) := by decide +kernel
theorem dX2_outcomeOf_2 : decode cX2_outcomeOf 2 = .ok (.if_icmp .ne 5, 3) := by decide +kernel
theorem dX2_outcomeOf_5 : decode cX2_outcomeOf 5 = .ok (.iconst 0, 1) := by decide +kernel
theorem dX2_outcomeOf_6 : decode cX2_outcomeOf 6 = .ok (.ireturn, 1) := by decide +kernel
theorem dX2_outcomeOf_7 : decode cX2_outcomeOf 7 = .ok (.iload_n 0, 1) := by decide +kernel
theorem dX2_outcomeOf_8 : decode cX2_outcomeOf 8 = .ok (.ifCond .eq 7, 3) := by decide +kernel
theorem dX2_outcomeOf_11 : decode cX2_outcomeOf 11 = .ok (.iconst 1, 1) := by decide +kernel
theorem dX2_outcomeOf_12 : decode cX2_outcomeOf 12 = .ok (.goto 4, 3) := by decide +kernel
theorem dX2_outcomeOf_15 : decode cX2_outcomeOf 15 = .ok (.iconst 2, 1) := by decide +kernel
theorem dX2_outcomeOf_16 : decode cX2_outcomeOf 16 = .ok (.ireturn, 1) := by decide +kernel
theorem dX3_init_0 : decode cX3_init 0 = .ok (.aload_n 0, 1) := by decide +kernel
theorem dX3_init_1 : decode cX3_init 1 = .ok (.invokespecial 3, 3) := by decide +kernel
theorem dX3_init_4 : decode cX3_init 4 = .ok (.aload_n 0, 1) := by decide +kernel
theorem dX3_init_5 : decode cX3_init 5 = .ok (.bipush 16, 2) := by decide +kernel
theorem dX3_init_7 : decode cX3_init 7 = .ok (.newarray .int, 2) := by decide +kernel
theorem dX3_init_9 : decode cX3_init 9 = .ok (.putfield 9, 3) := by decide +kernel
theorem dX3_init_12 : decode cX3_init 12 = .ok (.aload_n 0, 1) := by decide +kernel
theorem dX3_init_13 : decode cX3_init 13 = .ok (.bipush 16, 2) := by decide +kernel
theorem dX3_init_15 : decode cX3_init 15 = .ok (.newarray .int, 2) := by decide +kernel
theorem dX3_init_17 : decode cX3_init 17 = .ok (.putfield 15, 3) := by decide +kernel
theorem dX3_init_20 : decode cX3_init 20 = .ok (.aload_n 0, 1) := by decide +kernel
theorem dX3_init_21 : decode cX3_init 21 = .ok (.iconst 0, 1) := by decide +kernel
theorem dX3_init_22 : decode cX3_init 22 = .ok (.putfield 18, 3) := by decide +kernel
theorem dX3_init_25 : decode cX3_init 25 = .ok (.aload_n 0, 1) := by decide +kernel
theorem dX3_init_26 : decode cX3_init 26 = .ok (.iconst 0, 1) := by decide +kernel
theorem dX3_init_27 : decode cX3_init 27 = .ok (.putfield 22, 3) := by decide +kernel
theorem dX3_init_30 : decode cX3_init 30 = .ok (.return_, 1) := by decide +kernel
theorem dX3_solve_0 : decode cX3_solve 0 = .ok (.iconst 0, 1) := by decide +kernel
theorem dX3_solve_1 : decode cX3_solve 1 = .ok (.istore_n 2, 1) := by decide +kernel
theorem dX3_solve_2 : decode cX3_solve 2 = .ok (.iload_n 2, 1) := by decide +kernel
theorem dX3_solve_3 : decode cX3_solve 3 = .ok (.bipush 16, 2) := by decide +kernel
theorem dX3_solve_5 : decode cX3_solve 5 = .ok (.if_icmp .ge 30, 3) := by decide +kernel
theorem dX3_solve_8 : decode cX3_solve 8 = .ok (.aload_n 0, 1) := by decide +kernel
theorem dX3_solve_9 : decode cX3_solve 9 = .ok (.getfield 9, 3) := by decide +kernel
theorem dX3_solve_12 : decode cX3_solve 12 = .ok (.iload_n 2, 1) := by decide +kernel
theorem dX3_solve_13 : decode cX3_solve 13 = .ok (.aload_n 1, 1) := by decide +kernel
theorem dX3_solve_14 : decode cX3_solve 14 = .ok (.iload_n 2, 1) := by decide +kernel
theorem dX3_solve_15 : decode cX3_solve 15 = .ok (.invokevirtual 25, 3) := by decide +kernel
theorem dX3_solve_18 : decode cX3_solve 18 = .ok (.invokestatic 31, 3) := by decide +kernel
theorem dX3_solve_21 : decode cX3_solve 21 = .ok (.iastore, 1) := by decide +kernel
theorem dX3_solve_22 : decode cX3_solve 22 = .ok (.aload_n 0, 1) := by decide +kernel
theorem dX3_solve_23 : decode cX3_solve 23 = .ok (.getfield 15, 3) := by decide +kernel
theorem dX3_solve_26 : decode cX3_solve 26 = .ok (.iload_n 2, 1) := by decide +kernel
theorem dX3_solve_27 : decode cX3_solve 27 = .ok (.iconst 0, 1) := by decide +kernel
theorem dX3_solve_28 : decode cX3_solve 28 = .ok (.iastore, 1) := by decide +kernel
theorem dX3_solve_29 : decode cX3_solve 29 = .ok (.iinc 2 1, 3) := by decide +kernel
theorem dX3_solve_32 : decode cX3_solve 32 = .ok (.goto (-30), 3) := by decide +kernel
theorem dX3_solve_35 : decode cX3_solve 35 = .ok (.aload_n 0, 1) := by decide +kernel
theorem dX3_solve_36 : decode cX3_solve 36 = .ok (.aload_n 1, 1) := by decide +kernel
theorem dX3_solve_37 : decode cX3_solve 37 = .ok (.getfield 35, 3) := by decide +kernel
theorem dX3_solve_40 : decode cX3_solve 40 = .ok (.ifCond .ne 7, 3) := by decide +kernel
theorem dX3_solve_43 : decode cX3_solve 43 = .ok (.iconst 0, 1) := by decide +kernel
theorem dX3_solve_44 : decode cX3_solve 44 = .ok (.goto 8, 3) := by decide +kernel
theorem dX3_solve_47 : decode cX3_solve 47 = .ok (.aload_n 0, 1) := by decide +kernel
theorem dX3_solve_48 : decode cX3_solve 48 = .ok (.iconst (-1), 1) := by decide +kernel
theorem dX3_solve_49 : decode cX3_solve 49 = .ok (.invokevirtual 38, 3) := by decide +kernel
theorem dX3_solve_52 : decode cX3_solve 52 = .ok (.putfield 18, 3) := by decide +kernel
theorem dX3_solve_55 : decode cX3_solve 55 = .ok (.iconst 0, 1) := by decide +kernel
theorem dX3_solve_56 : decode cX3_solve 56 = .ok (.istore_n 2, 1) := by decide +kernel
theorem dX3_solve_57 : decode cX3_solve 57 = .ok (.iload_n 2, 1) := by decide +kernel
theorem dX3_solve_58 : decode cX3_solve 58 = .ok (.bipush 16, 2) := by decide +kernel
theorem dX3_solve_60 : decode cX3_solve 60 = .ok (.if_icmp .ge 14, 3) := by decide +kernel
theorem dX3_solve_63 : decode cX3_solve 63 = .ok (.aload_n 0, 1) := by decide +kernel
theorem dX3_solve_64 : decode cX3_solve 64 = .ok (.iload_n 2, 1) := by decide +kernel
theorem dX3_solve_65 : decode cX3_solve 65 = .ok (.invokevirtual 42, 3) := by decide +kernel
theorem dX3_solve_68 : decode cX3_solve 68 = .ok (.iinc 2 1, 3) := by decide +kernel
theorem dX3_solve_71 : decode cX3_solve 71 = .ok (.goto (-14), 3) := by decide +kernel
theorem dX3_solve_74 : decode cX3_solve 74 = .ok (.aload_n 0, 1) := by decide +kernel
theorem dX3_solve_75 : decode cX3_solve 75 = .ok (.iconst 0, 1) := by decide +kernel
theorem dX3_solve_76 : decode cX3_solve 76 = .ok (.putfield 22, 3) := by decide +kernel
theorem dX3_solve_79 : decode cX3_solve 79 = .ok (.iconst 0, 1) := by decide +kernel
theorem dX3_solve_80 : decode cX3_solve 80 = .ok (.istore_n 2, 1) := by decide +kernel
theorem dX3_solve_81 : decode cX3_solve 81 = .ok (.iload_n 2, 1) := by decide +kernel
theorem dX3_solve_82 : decode cX3_solve 82 = .ok (.bipush 16, 2) := by decide +kernel
theorem dX3_solve_84 : decode cX3_solve 84 = .ok (.if_icmp .ge 31, 3) := by decide +kernel
theorem dX3_solve_87 : decode cX3_solve 87 = .ok (.aload_n 0, 1) := by decide +kernel
theorem dX3_solve_88 : decode cX3_solve 88 = .ok (.dup, 1) := by decide +kernel
theorem dX3_solve_89 : decode cX3_solve 89 = .ok (.getfield 22, 3) := by decide +kernel
theorem dX3_solve_92 : decode cX3_solve 92 = .ok (.aload_n 0, 1) := by decide +kernel
theorem dX3_solve_93 : decode cX3_solve 93 = .ok (.getfield 9, 3) := by decide +kernel
theorem dX3_solve_96 : decode cX3_solve 96 = .ok (.iload_n 2, 1) := by decide +kernel
theorem dX3_solve_97 : decode cX3_solve 97 = .ok (.iaload, 1) := by decide +kernel
theorem dX3_solve_98 : decode cX3_solve 98 = .ok (.aload_n 0, 1) := by decide +kernel
theorem dX3_solve_99 : decode cX3_solve 99 = .ok (.getfield 15, 3) := by decide +kernel
theorem dX3_solve_102 : decode cX3_solve 102 = .ok (.iload_n 2, 1) := by decide +kernel
theorem dX3_solve_103 : decode cX3_solve 103 = .ok (.iaload, 1) := by decide +kernel
theorem dX3_solve_104 : decode cX3_solve 104 = .ok (.iand, 1) := by decide +kernel
theorem dX3_solve_105 : decode cX3_solve 105 = .ok (.ior, 1) := by decide +kernel
theorem dX3_solve_106 : decode cX3_solve 106 = .ok (.putfield 22, 3) := by decide +kernel
theorem dX3_solve_109 : decode cX3_solve 109 = .ok (.iinc 2 1, 3) := by decide +kernel
theorem dX3_solve_112 : decode cX3_solve 112 = .ok (.goto (-31), 3) := by decide +kernel
theorem dX3_solve_115 : decode cX3_solve 115 = .ok (.return_, 1) := by decide +kernel
theorem dX3_nextsOf_0 : decode cX3_nextsOf 0 = .ok (.iconst 0, 1) := by decide +kernel
theorem dX3_nextsOf_1 : decode cX3_nextsOf 1 = .ok (.istore_n 1, 1) := by decide +kernel
theorem dX3_nextsOf_2 : decode cX3_nextsOf 2 = .ok (.iconst 0, 1) := by decide +kernel
theorem dX3_nextsOf_3 : decode cX3_nextsOf 3 = .ok (.istore_n 2, 1) := by decide +kernel
theorem dX3_nextsOf_4 : decode cX3_nextsOf 4 = .ok (.iload_n 2, 1) := by decide +kernel
theorem dX3_nextsOf_5 : decode cX3_nextsOf 5 = .ok (.aload_n 0, 1) := by decide +kernel
theorem dX3_nextsOf_6 : decode cX3_nextsOf 6 = .ok (.invokevirtual 46, 3) := by decide +kernel
theorem dX3_nextsOf_9 : decode cX3_nextsOf 9 = .ok (.if_icmp .ge 19, 3) := by decide +kernel
theorem dX3_nextsOf_12 : decode cX3_nextsOf 12 = .ok (.iload_n 1, 1) := by decide +kernel
theorem dX3_nextsOf_13 : decode cX3_nextsOf 13 = .ok (.iconst 1, 1) := by decide +kernel
theorem dX3_nextsOf_14 : decode cX3_nextsOf 14 = .ok (.aload_n 0, 1) := by decide +kernel
theorem dX3_nextsOf_15 : decode cX3_nextsOf 15 = .ok (.iload_n 2, 1) := by decide +kernel
theorem dX3_nextsOf_16 : decode cX3_nextsOf 16 = .ok (.invokevirtual 52, 3) := by decide +kernel
theorem dX3_nextsOf_19 : decode cX3_nextsOf 19 = .ok (.ishl, 1) := by decide +kernel
theorem dX3_nextsOf_20 : decode cX3_nextsOf 20 = .ok (.ior, 1) := by decide +kernel
theorem dX3_nextsOf_21 : decode cX3_nextsOf 21 = .ok (.istore_n 1, 1) := by decide +kernel
theorem dX3_nextsOf_22 : decode cX3_nextsOf 22 = .ok (.iinc 2 1, 3) := by decide +kernel
theorem dX3_nextsOf_25 : decode cX3_nextsOf 25 = .ok (.goto (-21), 3) := by decide +kernel
theorem dX3_nextsOf_28 : decode cX3_nextsOf 28 = .ok (.iload_n 1, 1) := by decide +kernel
theorem dX3_nextsOf_29 : decode cX3_nextsOf 29 = .ok (.ireturn, 1) := by decide +kernel
theorem dX3_reachedWithin_0 : decode cX3_reachedWithin 0 = .ok (.iload_n 1, 1) := by decide +kernel
theorem dX3_reachedWithin_1 : decode cX3_reachedWithin 1 = .ok (.iconst 1, 1) := by decide +kernel
theorem dX3_reachedWithin_2 : decode cX3_reachedWithin 2 = .ok (.iand, 1) := by decide +kernel
theorem dX3_reachedWithin_3 : decode cX3_reachedWithin 3 = .ok (.istore_n 2, 1) := by decide +kernel
theorem dX3_reachedWithin_4 : decode cX3_reachedWithin 4 = .ok (.iconst 1, 1) := by decide +kernel
theorem dX3_reachedWithin_5 : decode cX3_reachedWithin 5 = .ok (.istore_n 3, 1) := by decide +kernel
theorem dX3_reachedWithin_6 : decode cX3_reachedWithin 6 = .ok (.iconst 0, 1) := by decide +kernel
theorem dX3_reachedWithin_7 : decode cX3_reachedWithin 7 = .ok (.istore 4, 2) := by decide +kernel
theorem dX3_reachedWithin_9 : decode cX3_reachedWithin 9 = .ok (.iload 4, 2) := by decide +kernel
theorem dX3_reachedWithin_11 : decode cX3_reachedWithin 11 = .ok (.bipush 16, 2) := by decide +kernel
theorem dX3_reachedWithin_13 : decode cX3_reachedWithin 13 = .ok (.if_icmp .ge 65, 3) := by decide +kernel
theorem dX3_reachedWithin_16 : decode cX3_reachedWithin 16 = .ok (.iload_n 3, 1) := by decide +kernel
theorem dX3_reachedWithin_17 : decode cX3_reachedWithin 17 = .ok (.ifCond .eq 61, 3) := by decide +kernel
theorem dX3_reachedWithin_20 : decode cX3_reachedWithin 20 = .ok (.iload_n 2, 1) := by decide +kernel
theorem dX3_reachedWithin_21 : decode cX3_reachedWithin 21 = .ok (.istore 5, 2) := by decide +kernel
theorem dX3_reachedWithin_23 : decode cX3_reachedWithin 23 = .ok (.iconst 0, 1) := by decide +kernel
theorem dX3_reachedWithin_24 : decode cX3_reachedWithin 24 = .ok (.istore 6, 2) := by decide +kernel
theorem dX3_reachedWithin_26 : decode cX3_reachedWithin 26 = .ok (.iload 6, 2) := by decide +kernel
theorem dX3_reachedWithin_28 : decode cX3_reachedWithin 28 = .ok (.bipush 16, 2) := by decide +kernel
theorem dX3_reachedWithin_30 : decode cX3_reachedWithin 30 = .ok (.if_icmp .ge 30, 3) := by decide +kernel
theorem dX3_reachedWithin_33 : decode cX3_reachedWithin 33 = .ok (.iload_n 2, 1) := by decide +kernel
theorem dX3_reachedWithin_34 : decode cX3_reachedWithin 34 = .ok (.iload 6, 2) := by decide +kernel
theorem dX3_reachedWithin_36 : decode cX3_reachedWithin 36 = .ok (.ishr, 1) := by decide +kernel
theorem dX3_reachedWithin_37 : decode cX3_reachedWithin 37 = .ok (.iconst 1, 1) := by decide +kernel
theorem dX3_reachedWithin_38 : decode cX3_reachedWithin 38 = .ok (.iand, 1) := by decide +kernel
theorem dX3_reachedWithin_39 : decode cX3_reachedWithin 39 = .ok (.ifCond .eq 15, 3) := by decide +kernel
theorem dX3_reachedWithin_42 : decode cX3_reachedWithin 42 = .ok (.iload_n 2, 1) := by decide +kernel
theorem dX3_reachedWithin_43 : decode cX3_reachedWithin 43 = .ok (.aload_n 0, 1) := by decide +kernel
theorem dX3_reachedWithin_44 : decode cX3_reachedWithin 44 = .ok (.getfield 9, 3) := by decide +kernel
theorem dX3_reachedWithin_47 : decode cX3_reachedWithin 47 = .ok (.iload 6, 2) := by decide +kernel
theorem dX3_reachedWithin_49 : decode cX3_reachedWithin 49 = .ok (.iaload, 1) := by decide +kernel
theorem dX3_reachedWithin_50 : decode cX3_reachedWithin 50 = .ok (.iload_n 1, 1) := by decide +kernel
theorem dX3_reachedWithin_51 : decode cX3_reachedWithin 51 = .ok (.iand, 1) := by decide +kernel
theorem dX3_reachedWithin_52 : decode cX3_reachedWithin 52 = .ok (.ior, 1) := by decide +kernel
theorem dX3_reachedWithin_53 : decode cX3_reachedWithin 53 = .ok (.istore_n 2, 1) := by decide +kernel
theorem dX3_reachedWithin_54 : decode cX3_reachedWithin 54 = .ok (.iinc 6 1, 3) := by decide +kernel
theorem dX3_reachedWithin_57 : decode cX3_reachedWithin 57 = .ok (.goto (-31), 3) := by decide +kernel
theorem dX3_reachedWithin_60 : decode cX3_reachedWithin 60 = .ok (.iload_n 2, 1) := by decide +kernel
theorem dX3_reachedWithin_61 : decode cX3_reachedWithin 61 = .ok (.iload 5, 2) := by decide +kernel
theorem dX3_reachedWithin_63 : decode cX3_reachedWithin 63 = .ok (.if_icmp .eq 7, 3) := by decide +kernel
theorem dX3_reachedWithin_66 : decode cX3_reachedWithin 66 = .ok (.iconst 1, 1) := by decide +kernel
theorem dX3_reachedWithin_67 : decode cX3_reachedWithin 67 = .ok (.goto 4, 3) := by decide +kernel
theorem dX3_reachedWithin_70 : decode cX3_reachedWithin 70 = .ok (.iconst 0, 1) := by decide +kernel
theorem dX3_reachedWithin_71 : decode cX3_reachedWithin 71 = .ok (.istore_n 3, 1) := by decide +kernel
theorem dX3_reachedWithin_72 : decode cX3_reachedWithin 72 = .ok (.iinc 4 1, 3) := by decide +kernel
theorem dX3_reachedWithin_75 : decode cX3_reachedWithin 75 = .ok (.goto (-66), 3) := by decide +kernel
theorem dX3_reachedWithin_78 : decode cX3_reachedWithin 78 = .ok (.iload_n 2, 1) := by decide +kernel
theorem dX3_reachedWithin_79 : decode cX3_reachedWithin 79 = .ok (.ireturn, 1) := by decide +kernel
theorem dX3_addDominator_0 : decode cX3_addDominator 0 = .ok (.aload_n 0, 1) := by decide +kernel
theorem dX3_addDominator_1 : decode cX3_addDominator 1 = .ok (.getfield 18, 3) := by decide +kernel
theorem dX3_addDominator_4 : decode cX3_addDominator 4 = .ok (.aload_n 0, 1) := by decide +kernel
theorem dX3_addDominator_5 : decode cX3_addDominator 5 = .ok (.iconst 1, 1) := by decide +kernel
theorem dX3_addDominator_6 : decode cX3_addDominator 6 = .ok (.iload_n 1, 1) := by decide +kernel
theorem dX3_addDominator_7 : decode cX3_addDominator 7 = .ok (.ishl, 1) := by decide +kernel
theorem dX3_addDominator_8 : decode cX3_addDominator 8 = .ok (.iconst (-1), 1) := by decide +kernel
theorem dX3_addDominator_9 : decode cX3_addDominator 9 = .ok (.ixor, 1) := by decide +kernel
theorem dX3_addDominator_10 : decode cX3_addDominator 10 = .ok (.invokevirtual 38, 3) := by decide +kernel
theorem dX3_addDominator_13 : decode cX3_addDominator 13 = .ok (.iconst (-1), 1) := by decide +kernel
theorem dX3_addDominator_14 : decode cX3_addDominator 14 = .ok (.ixor, 1) := by decide +kernel
theorem dX3_addDominator_15 : decode cX3_addDominator 15 = .ok (.iand, 1) := by decide +kernel
theorem dX3_addDominator_16 : decode cX3_addDominator 16 = .ok (.istore_n 2, 1) := by decide +kernel
theorem dX3_addDominator_17 : decode cX3_addDominator 17 = .ok (.iconst 0, 1) := by decide +kernel
theorem dX3_addDominator_18 : decode cX3_addDominator 18 = .ok (.istore_n 3, 1) := by decide +kernel
theorem dX3_addDominator_19 : decode cX3_addDominator 19 = .ok (.iload_n 3, 1) := by decide +kernel
theorem dX3_addDominator_20 : decode cX3_addDominator 20 = .ok (.bipush 16, 2) := by decide +kernel
theorem dX3_addDominator_22 : decode cX3_addDominator 22 = .ok (.if_icmp .ge 29, 3) := by decide +kernel
theorem dX3_addDominator_25 : decode cX3_addDominator 25 = .ok (.iload_n 2, 1) := by decide +kernel
theorem dX3_addDominator_26 : decode cX3_addDominator 26 = .ok (.iload_n 3, 1) := by decide +kernel
theorem dX3_addDominator_27 : decode cX3_addDominator 27 = .ok (.ishr, 1) := by decide +kernel
theorem dX3_addDominator_28 : decode cX3_addDominator 28 = .ok (.iconst 1, 1) := by decide +kernel
theorem dX3_addDominator_29 : decode cX3_addDominator 29 = .ok (.iand, 1) := by decide +kernel
theorem dX3_addDominator_30 : decode cX3_addDominator 30 = .ok (.ifCond .eq 15, 3) := by decide +kernel
theorem dX3_addDominator_33 : decode cX3_addDominator 33 = .ok (.aload_n 0, 1) := by decide +kernel
theorem dX3_addDominator_34 : decode cX3_addDominator 34 = .ok (.getfield 15, 3) := by decide +kernel
theorem dX3_addDominator_37 : decode cX3_addDominator 37 = .ok (.iload_n 3, 1) := by decide +kernel
theorem dX3_addDominator_38 : decode cX3_addDominator 38 = .ok (.dup2, 1) := by decide +kernel
theorem dX3_addDominator_39 : decode cX3_addDominator 39 = .ok (.iaload, 1) := by decide +kernel
theorem dX3_addDominator_40 : decode cX3_addDominator 40 = .ok (.iconst 1, 1) := by decide +kernel
theorem dX3_addDominator_41 : decode cX3_addDominator 41 = .ok (.iload_n 1, 1) := by decide +kernel
theorem dX3_addDominator_42 : decode cX3_addDominator 42 = .ok (.ishl, 1) := by decide +kernel
theorem dX3_addDominator_43 : decode cX3_addDominator 43 = .ok (.ior, 1) := by decide +kernel
theorem dX3_addDominator_44 : decode cX3_addDominator 44 = .ok (.iastore, 1) := by decide +kernel
theorem dX3_addDominator_45 : decode cX3_addDominator 45 = .ok (.iinc 3 1, 3) := by decide +kernel
theorem dX3_addDominator_48 : decode cX3_addDominator 48 = .ok (.goto (-29), 3) := by decide +kernel
theorem dX3_addDominator_51 : decode cX3_addDominator 51 = .ok (.return_, 1) := by decide +kernel
theorem dX3_isDominated_0 : decode cX3_isDominated 0 = .ok (.iload_n 1, 1) := by decide +kernel
theorem dX3_isDominated_1 : decode cX3_isDominated 1 = .ok (.ifCond .lt 26, 3) := by decide +kernel
theorem dX3_isDominated_4 : decode cX3_isDominated 4 = .ok (.iload_n 1, 1) := by decide +kernel
theorem dX3_isDominated_5 : decode cX3_isDominated 5 = .ok (.bipush 16, 2) := by decide +kernel
theorem dX3_isDominated_7 : decode cX3_isDominated 7 = .ok (.if_icmp .ge 20, 3) := by decide +kernel
theorem dX3_isDominated_10 : decode cX3_isDominated 10 = .ok (.aload_n 0, 1) := by decide +kernel
theorem dX3_isDominated_11 : decode cX3_isDominated 11 = .ok (.getfield 15, 3) := by decide +kernel
theorem dX3_isDominated_14 : decode cX3_isDominated 14 = .ok (.iload_n 1, 1) := by decide +kernel
theorem dX3_isDominated_15 : decode cX3_isDominated 15 = .ok (.iaload, 1) := by decide +kernel
theorem dX3_isDominated_16 : decode cX3_isDominated 16 = .ok (.iload_n 2, 1) := by decide +kernel
theorem dX3_isDominated_17 : decode cX3_isDominated 17 = .ok (.ishr, 1) := by decide +kernel
theorem dX3_isDominated_18 : decode cX3_isDominated 18 = .ok (.iconst 1, 1) := by decide +kernel
theorem dX3_isDominated_19 : decode cX3_isDominated 19 = .ok (.iand, 1) := by decide +kernel
theorem dX3_isDominated_20 : decode cX3_isDominated 20 = .ok (.ifCond .eq 7, 3) := by decide +kernel
theorem dX3_isDominated_23 : decode cX3_isDominated 23 = .ok (.iconst 1, 1) := by decide +kernel
theorem dX3_isDominated_24 : decode cX3_isDominated 24 = .ok (.goto 4, 3) := by decide +kernel
theorem dX3_isDominated_27 : decode cX3_isDominated 27 = .ok (.iconst 0, 1) := by decide +kernel
theorem dX3_isDominated_28 : decode cX3_isDominated 28 = .ok (.ireturn, 1) := by decide +kernel
theorem dX3_isHead_0 : decode cX3_isHead 0 = .ok (.aload_n 0, 1) := by decide +kernel
theorem dX3_isHead_1 : decode cX3_isHead 1 = .ok (.getfield 22, 3) := by decide +kernel
theorem dX3_isHead_4 : decode cX3_isHead 4 = .ok (.iload_n 1, 1) := by decide +kernel
theorem dX3_isHead_5 : decode cX3_isHead 5 = .ok (.ishr, 1) := by decide +kernel
theorem dX3_isHead_6 : decode cX3_isHead 6 = .ok (.iconst 1, 1) := by decide +kernel
theorem dX3_isHead_7 : decode cX3_isHead 7 = .ok (.iand, 1) := by decide +kernel
theorem dX3_isHead_8 : decode cX3_isHead 8 = .ok (.ifCond .eq 7, 3) := by decide +kernel
theorem dX3_isHead_11 : decode cX3_isHead 11 = .ok (.iconst 1, 1) := by decide +kernel
theorem dX3_isHead_12 : decode cX3_isHead 12 = .ok (.goto 4, 3) := by decide +kernel
theorem dX3_isHead_15 : decode cX3_isHead 15 = .ok (.iconst 0, 1) := by decide +kernel
theorem dX3_isHead_16 : decode cX3_isHead 16 = .ok (.ireturn, 1) := by decide +kernel
theorem dX3_immediateDominator_0 : decode cX3_immediateDominator 0 = .ok (.iload_n 1, 1) := by decide +kernel
theorem dX3_immediateDominator_1 : decode cX3_immediateDominator 1 = .ok (.ifCond .lt 9, 3) := by decide +kernel
theorem dX3_immediateDominator_4 : decode cX3_immediateDominator 4 = .ok (.iload_n 1, 1) := by decide +kernel
theorem dX3_immediateDominator_5 : decode cX3_immediateDominator 5 = .ok (.bipush 16, 2) := by decide +kernel
theorem dX3_immediateDominator_7 : decode cX3_immediateDominator 7 = .ok (.if_icmp .lt 6, 3) := by decide +kernel
theorem dX3_immediateDominator_10 : decode cX3_immediateDominator 10 = .ok (.bipush (-4), 2) := by decide +kernel
theorem dX3_immediateDominator_12 : decode cX3_immediateDominator 12 = .ok (.ireturn, 1) := by decide +kernel
theorem dX3_immediateDominator_13 : decode cX3_immediateDominator 13 = .ok (.aload_n 0, 1) := by decide +kernel
theorem dX3_immediateDominator_14 : decode cX3_immediateDominator 14 = .ok (.getfield 15, 3) := by decide +kernel
theorem dX3_immediateDominator_17 : decode cX3_immediateDominator 17 = .ok (.iload_n 1, 1) := by decide +kernel
theorem dX3_immediateDominator_18 : decode cX3_immediateDominator 18 = .ok (.iaload, 1) := by decide +kernel
theorem dX3_immediateDominator_19 : decode cX3_immediateDominator 19 = .ok (.iconst 1, 1) := by decide +kernel
theorem dX3_immediateDominator_20 : decode cX3_immediateDominator 20 = .ok (.iload_n 1, 1) := by decide +kernel
theorem dX3_immediateDominator_21 : decode cX3_immediateDominator 21 = .ok (.ishl, 1) := by decide +kernel
theorem dX3_immediateDominator_22 : decode cX3_immediateDominator 22 = .ok (.iconst (-1), 1) := by decide +kernel
theorem dX3_immediateDominator_23 : decode cX3_immediateDominator 23 = .ok (.ixor, 1) := by decide +kernel
theorem dX3_immediateDominator_24 : decode cX3_immediateDominator 24 = .ok (.iand, 1) := by decide +kernel
theorem dX3_immediateDominator_25 : decode cX3_immediateDominator 25 = .ok (.istore_n 2, 1) := by decide +kernel
theorem dX3_immediateDominator_26 : decode cX3_immediateDominator 26 = .ok (.iconst 0, 1) := by decide +kernel
theorem dX3_immediateDominator_27 : decode cX3_immediateDominator 27 = .ok (.istore_n 3, 1) := by decide +kernel
theorem dX3_immediateDominator_28 : decode cX3_immediateDominator 28 = .ok (.iload_n 3, 1) := by decide +kernel
theorem dX3_immediateDominator_29 : decode cX3_immediateDominator 29 = .ok (.bipush 16, 2) := by decide +kernel
theorem dX3_immediateDominator_31 : decode cX3_immediateDominator 31 = .ok (.if_icmp .ge 29, 3) := by decide +kernel
theorem dX3_immediateDominator_34 : decode cX3_immediateDominator 34 = .ok (.iload_n 2, 1) := by decide +kernel
theorem dX3_immediateDominator_35 : decode cX3_immediateDominator 35 = .ok (.iload_n 3, 1) := by decide +kernel
theorem dX3_immediateDominator_36 : decode cX3_immediateDominator 36 = .ok (.ishr, 1) := by decide +kernel
theorem dX3_immediateDominator_37 : decode cX3_immediateDominator 37 = .ok (.iconst 1, 1) := by decide +kernel
theorem dX3_immediateDominator_38 : decode cX3_immediateDominator 38 = .ok (.iand, 1) := by decide +kernel
theorem dX3_immediateDominator_39 : decode cX3_immediateDominator 39 = .ok (.ifCond .eq 15, 3) := by decide +kernel
theorem dX3_immediateDominator_42 : decode cX3_immediateDominator 42 = .ok (.aload_n 0, 1) := by decide +kernel
theorem dX3_immediateDominator_43 : decode cX3_immediateDominator 43 = .ok (.getfield 15, 3) := by decide +kernel
theorem dX3_immediateDominator_46 : decode cX3_immediateDominator 46 = .ok (.iload_n 3, 1) := by decide +kernel
theorem dX3_immediateDominator_47 : decode cX3_immediateDominator 47 = .ok (.iaload, 1) := by decide +kernel
theorem dX3_immediateDominator_48 : decode cX3_immediateDominator 48 = .ok (.iload_n 2, 1) := by decide +kernel
theorem dX3_immediateDominator_49 : decode cX3_immediateDominator 49 = .ok (.if_icmp .ne 5, 3) := by decide +kernel
theorem dX3_immediateDominator_52 : decode cX3_immediateDominator 52 = .ok (.iload_n 3, 1) := by decide +kernel
theorem dX3_immediateDominator_53 : decode cX3_immediateDominator 53 = .ok (.ireturn, 1) := by decide +kernel
theorem dX3_immediateDominator_54 : decode cX3_immediateDominator 54 = .ok (.iinc 3 1, 3) := by decide +kernel
theorem dX3_immediateDominator_57 : decode cX3_immediateDominator 57 = .ok (.goto (-29), 3) := by decide +kernel
theorem dX3_immediateDominator_60 : decode cX3_immediateDominator 60 = .ok (.bipush (-4), 2) := by decide +kernel
theorem dX3_immediateDominator_62 : decode cX3_immediateDominator 62 = .ok (.ireturn, 1) := by decide +kernel
theorem dX4_init_0 : decode cX4_init 0 = .ok (.aload_n 0, 1) := by decide +kernel
theorem dX4_init_1 : decode cX4_init 1 = .ok (.invokespecial 1, 3) := by decide +kernel
theorem dX4_init_4 : decode cX4_init 4 = .ok (.aload_n 0, 1) := by decide +kernel
theorem dX4_init_5 : decode cX4_init 5 = .ok (.new 7, 3) := by decide +kernel
theorem dX4_init_8 : decode cX4_init 8 = .ok (.dup, 1) := by decide +kernel
theorem dX4_init_9 : decode cX4_init 9 = .ok (.invokespecial 9, 3) := by decide +kernel
theorem dX4_init_12 : decode cX4_init 12 = .ok (.putfield 10, 3) := by decide +kernel
theorem dX4_init_15 : decode cX4_init 15 = .ok (.aload_n 0, 1) := by decide +kernel
theorem dX4_init_16 : decode cX4_init 16 = .ok (.iconst 0, 1) := by decide +kernel
theorem dX4_init_17 : decode cX4_init 17 = .ok (.putfield 16, 3) := by decide +kernel
theorem dX4_init_20 : decode cX4_init 20 = .ok (.iload_n 1, 1) := by decide +kernel
theorem dX4_init_21 : decode cX4_init 21 = .ok (.ifCond .le 7, 3) := by decide +kernel
theorem dX4_init_24 : decode cX4_init 24 = .ok (.iload_n 1, 1) := by decide +kernel
theorem dX4_init_25 : decode cX4_init 25 = .ok (.goto 4, 3) := by decide +kernel
theorem dX4_init_28 : decode cX4_init 28 = .ok (.iconst 0, 1) := by decide +kernel
theorem dX4_init_29 : decode cX4_init 29 = .ok (.istore_n 2, 1) := by decide +kernel
theorem dX4_init_30 : decode cX4_init 30 = .ok (.aload_n 0, 1) := by decide +kernel
theorem dX4_init_31 : decode cX4_init 31 = .ok (.iload_n 2, 1) := by decide +kernel
theorem dX4_init_32 : decode cX4_init 32 = .ok (.anewarray 7, 3) := by decide +kernel
theorem dX4_init_35 : decode cX4_init 35 = .ok (.putfield 20, 3) := by decide +kernel
theorem dX4_init_38 : decode cX4_init 38 = .ok (.aload_n 0, 1) := by decide +kernel
theorem dX4_init_39 : decode cX4_init 39 = .ok (.iload_n 2, 1) := by decide +kernel
theorem dX4_init_40 : decode cX4_init 40 = .ok (.newarray .int, 2) := by decide +kernel
theorem dX4_init_42 : decode cX4_init 42 = .ok (.putfield 24, 3) := by decide +kernel
theorem dX4_init_45 : decode cX4_init 45 = .ok (.iconst 0, 1) := by decide +kernel
theorem dX4_init_46 : decode cX4_init 46 = .ok (.istore_n 3, 1) := by decide +kernel
theorem dX4_init_47 : decode cX4_init 47 = .ok (.iload_n 3, 1) := by decide +kernel
theorem dX4_init_48 : decode cX4_init 48 = .ok (.iload_n 2, 1) := by decide +kernel
theorem dX4_init_49 : decode cX4_init 49 = .ok (.if_icmp .ge 22, 3) := by decide +kernel
theorem dX4_init_52 : decode cX4_init 52 = .ok (.aload_n 0, 1) := by decide +kernel
theorem dX4_init_53 : decode cX4_init 53 = .ok (.getfield 20, 3) := by decide +kernel
theorem dX4_init_56 : decode cX4_init 56 = .ok (.iload_n 3, 1) := by decide +kernel
theorem dX4_init_57 : decode cX4_init 57 = .ok (.new 7, 3) := by decide +kernel
theorem dX4_init_60 : decode cX4_init 60 = .ok (.dup, 1) := by decide +kernel
theorem dX4_init_61 : decode cX4_init 61 = .ok (.invokespecial 9, 3) := by decide +kernel
theorem dX4_init_64 : decode cX4_init 64 = .ok (.aastore, 1) := by decide +kernel
theorem dX4_init_65 : decode cX4_init 65 = .ok (.iinc 3 1, 3) := by decide +kernel
theorem dX4_init_68 : decode cX4_init 68 = .ok (.goto (-21), 3) := by decide +kernel
theorem dX4_init_71 : decode cX4_init 71 = .ok (.return_, 1) := by decide +kernel
theorem dX4_has_0 : decode cX4_has 0 = .ok (.iload_n 1, 1) := by decide +kernel
theorem dX4_has_1 : decode cX4_has 1 = .ok (.ifCond .lt 24, 3) := by decide +kernel
theorem dX4_has_4 : decode cX4_has 4 = .ok (.iload_n 1, 1) := by decide +kernel
theorem dX4_has_5 : decode cX4_has 5 = .ok (.aload_n 0, 1) := by decide +kernel
theorem dX4_has_6 : decode cX4_has 6 = .ok (.getfield 16, 3) := by decide +kernel
theorem dX4_has_9 : decode cX4_has 9 = .ok (.if_icmp .ge 16, 3) := by decide +kernel
theorem dX4_has_12 : decode cX4_has 12 = .ok (.iload_n 1, 1) := by decide +kernel
theorem dX4_has_13 : decode cX4_has 13 = .ok (.aload_n 0, 1) := by decide +kernel
theorem dX4_has_14 : decode cX4_has 14 = .ok (.getfield 20, 3) := by decide +kernel
theorem dX4_has_17 : decode cX4_has 17 = .ok (.arraylength, 1) := by decide +kernel
theorem dX4_has_18 : decode cX4_has 18 = .ok (.if_icmp .ge 7, 3) := by decide +kernel
theorem dX4_has_21 : decode cX4_has 21 = .ok (.iconst 1, 1) := by decide +kernel
theorem dX4_has_22 : decode cX4_has 22 = .ok (.goto 4, 3) := by decide +kernel
theorem dX4_has_25 : decode cX4_has 25 = .ok (.iconst 0, 1) := by decide +kernel
theorem dX4_has_26 : decode cX4_has 26 = .ok (.ireturn, 1) := by decide +kernel
theorem dX4_hasEdge_0 : decode cX4_hasEdge 0 = .ok (.aload_n 0, 1) := by decide +kernel
theorem dX4_hasEdge_1 : decode cX4_hasEdge 1 = .ok (.iload_n 1, 1) := by decide +kernel
theorem dX4_hasEdge_2 : decode cX4_hasEdge 2 = .ok (.invokevirtual 28, 3) := by decide +kernel
theorem dX4_hasEdge_5 : decode cX4_hasEdge 5 = .ok (.ifCond .eq 20, 3) := by decide +kernel
theorem dX4_hasEdge_8 : decode cX4_hasEdge 8 = .ok (.aload_n 0, 1) := by decide +kernel
theorem dX4_hasEdge_9 : decode cX4_hasEdge 9 = .ok (.getfield 20, 3) := by decide +kernel
theorem dX4_hasEdge_12 : decode cX4_hasEdge 12 = .ok (.iload_n 1, 1) := by decide +kernel
theorem dX4_hasEdge_13 : decode cX4_hasEdge 13 = .ok (.aaload, 1) := by decide +kernel
theorem dX4_hasEdge_14 : decode cX4_hasEdge 14 = .ok (.iload_n 2, 1) := by decide +kernel
theorem dX4_hasEdge_15 : decode cX4_hasEdge 15 = .ok (.invokevirtual 32, 3) := by decide +kernel
theorem dX4_hasEdge_18 : decode cX4_hasEdge 18 = .ok (.ifCond .eq 7, 3) := by decide +kernel
theorem dX4_hasEdge_21 : decode cX4_hasEdge 21 = .ok (.iconst 1, 1) := by decide +kernel
theorem dX4_hasEdge_22 : decode cX4_hasEdge 22 = .ok (.goto 4, 3) := by decide +kernel
theorem dX4_hasEdge_25 : decode cX4_hasEdge 25 = .ok (.iconst 0, 1) := by decide +kernel
theorem dX4_hasEdge_26 : decode cX4_hasEdge 26 = .ok (.ireturn, 1) := by decide +kernel
theorem dX4_isFull_0 : decode cX4_isFull 0 = .ok (.aload_n 0, 1) := by decide +kernel
theorem dX4_isFull_1 : decode cX4_isFull 1 = .ok (.getfield 16, 3) := by decide +kernel
theorem dX4_isFull_4 : decode cX4_isFull 4 = .ok (.aload_n 0, 1) := by decide +kernel
theorem dX4_isFull_5 : decode cX4_isFull 5 = .ok (.getfield 20, 3) := by decide +kernel
theorem dX4_isFull_8 : decode cX4_isFull 8 = .ok (.arraylength, 1) := by decide +kernel
theorem dX4_isFull_9 : decode cX4_isFull 9 = .ok (.if_icmp .lt 7, 3) := by decide +kernel
theorem dX4_isFull_12 : decode cX4_isFull 12 = .ok (.iconst 1, 1) := by decide +kernel
theorem dX4_isFull_13 : decode cX4_isFull 13 = .ok (.goto 4, 3) := by decide +kernel
theorem dX4_isFull_16 : decode cX4_isFull 16 = .ok (.iconst 0, 1) := by decide +kernel
theorem dX4_isFull_17 : decode cX4_isFull 17 = .ok (.ireturn, 1) := by decide +kernel
theorem dX4_at_0 : decode cX4_at 0 = .ok (.aload_n 0, 1) := by decide +kernel
theorem dX4_at_1 : decode cX4_at 1 = .ok (.iload_n 1, 1) := by decide +kernel
theorem dX4_at_2 : decode cX4_at 2 = .ok (.invokevirtual 28, 3) := by decide +kernel
theorem dX4_at_5 : decode cX4_at 5 = .ok (.ifCond .eq 12, 3) := by decide +kernel
theorem dX4_at_8 : decode cX4_at 8 = .ok (.aload_n 0, 1) := by decide +kernel
theorem dX4_at_9 : decode cX4_at 9 = .ok (.getfield 20, 3) := by decide +kernel
theorem dX4_at_12 : decode cX4_at 12 = .ok (.iload_n 1, 1) := by decide +kernel
theorem dX4_at_13 : decode cX4_at 13 = .ok (.aaload, 1) := by decide +kernel
theorem dX4_at_14 : decode cX4_at 14 = .ok (.goto 7, 3) := by decide +kernel
theorem dX4_at_17 : decode cX4_at 17 = .ok (.aload_n 0, 1) := by decide +kernel
theorem dX4_at_18 : decode cX4_at 18 = .ok (.getfield 10, 3) := by decide +kernel
theorem dX4_at_21 : decode cX4_at 21 = .ok (.areturn, 1) := by decide +kernel
theorem dX4_grow_0 : decode cX4_grow 0 = .ok (.aload_n 0, 1) := by decide +kernel
theorem dX4_grow_1 : decode cX4_grow 1 = .ok (.getfield 16, 3) := by decide +kernel
theorem dX4_grow_4 : decode cX4_grow 4 = .ok (.ifCond .lt 10, 3) := by decide +kernel
theorem dX4_grow_7 : decode cX4_grow 7 = .ok (.aload_n 0, 1) := by decide +kernel
theorem dX4_grow_8 : decode cX4_grow 8 = .ok (.invokevirtual 35, 3) := by decide +kernel
theorem dX4_grow_11 : decode cX4_grow 11 = .ok (.ifCond .eq 8, 3) := by decide +kernel
theorem dX4_grow_14 : decode cX4_grow 14 = .ok (.aload_n 0, 1) := by decide +kernel
theorem dX4_grow_15 : decode cX4_grow 15 = .ok (.getfield 10, 3) := by decide +kernel
theorem dX4_grow_18 : decode cX4_grow 18 = .ok (.areturn, 1) := by decide +kernel
theorem dX4_grow_19 : decode cX4_grow 19 = .ok (.aload_n 0, 1) := by decide +kernel
theorem dX4_grow_20 : decode cX4_grow 20 = .ok (.getfield 20, 3) := by decide +kernel
theorem dX4_grow_23 : decode cX4_grow 23 = .ok (.aload_n 0, 1) := by decide +kernel
theorem dX4_grow_24 : decode cX4_grow 24 = .ok (.getfield 16, 3) := by decide +kernel
theorem dX4_grow_27 : decode cX4_grow 27 = .ok (.aaload, 1) := by decide +kernel
theorem dX4_grow_28 : decode cX4_grow 28 = .ok (.astore_n 1, 1) := by decide +kernel
theorem dX4_grow_29 : decode cX4_grow 29 = .ok (.aload_n 1, 1) := by decide +kernel
theorem dX4_grow_30 : decode cX4_grow 30 = .ok (.invokevirtual 39, 3) := by decide +kernel
theorem dX4_grow_33 : decode cX4_grow 33 = .ok (.aload_n 0, 1) := by decide +kernel
theorem dX4_grow_34 : decode cX4_grow 34 = .ok (.dup, 1) := by decide +kernel
theorem dX4_grow_35 : decode cX4_grow 35 = .ok (.getfield 16, 3) := by decide +kernel
theorem dX4_grow_38 : decode cX4_grow 38 = .ok (.iconst 1, 1) := by decide +kernel
theorem dX4_grow_39 : decode cX4_grow 39 = .ok (.iadd, 1) := by decide +kernel
theorem dX4_grow_40 : decode cX4_grow 40 = .ok (.putfield 16, 3) := by decide +kernel
theorem dX4_grow_43 : decode cX4_grow 43 = .ok (.aload_n 1, 1) := by decide +kernel
theorem dX4_grow_44 : decode cX4_grow 44 = .ok (.areturn, 1) := by decide +kernel
theorem dX4_copyFrom_0 : decode cX4_copyFrom 0 = .ok (.aload_n 0, 1) := by decide +kernel
theorem dX4_copyFrom_1 : decode cX4_copyFrom 1 = .ok (.iconst 0, 1) := by decide +kernel
theorem dX4_copyFrom_2 : decode cX4_copyFrom 2 = .ok (.putfield 16, 3) := by decide +kernel
theorem dX4_copyFrom_5 : decode cX4_copyFrom 5 = .ok (.iconst 0, 1) := by decide +kernel
theorem dX4_copyFrom_6 : decode cX4_copyFrom 6 = .ok (.istore_n 2, 1) := by decide +kernel
theorem dX4_copyFrom_7 : decode cX4_copyFrom 7 = .ok (.iload_n 2, 1) := by decide +kernel
theorem dX4_copyFrom_8 : decode cX4_copyFrom 8 = .ok (.aload_n 1, 1) := by decide +kernel
theorem dX4_copyFrom_9 : decode cX4_copyFrom 9 = .ok (.getfield 16, 3) := by decide +kernel
theorem dX4_copyFrom_12 : decode cX4_copyFrom 12 = .ok (.if_icmp .ge 42, 3) := by decide +kernel
theorem dX4_copyFrom_15 : decode cX4_copyFrom 15 = .ok (.iload_n 2, 1) := by decide +kernel
theorem dX4_copyFrom_16 : decode cX4_copyFrom 16 = .ok (.aload_n 0, 1) := by decide +kernel
theorem dX4_copyFrom_17 : decode cX4_copyFrom 17 = .ok (.getfield 20, 3) := by decide +kernel
theorem dX4_copyFrom_20 : decode cX4_copyFrom 20 = .ok (.arraylength, 1) := by decide +kernel
theorem dX4_copyFrom_21 : decode cX4_copyFrom 21 = .ok (.if_icmp .ge 33, 3) := by decide +kernel
theorem dX4_copyFrom_24 : decode cX4_copyFrom 24 = .ok (.aload_n 0, 1) := by decide +kernel
theorem dX4_copyFrom_25 : decode cX4_copyFrom 25 = .ok (.getfield 20, 3) := by decide +kernel
theorem dX4_copyFrom_28 : decode cX4_copyFrom 28 = .ok (.iload_n 2, 1) := by decide +kernel
theorem dX4_copyFrom_29 : decode cX4_copyFrom 29 = .ok (.aaload, 1) := by decide +kernel
theorem dX4_copyFrom_30 : decode cX4_copyFrom 30 = .ok (.aload_n 1, 1) := by decide +kernel
theorem dX4_copyFrom_31 : decode cX4_copyFrom 31 = .ok (.iload_n 2, 1) := by decide +kernel
theorem dX4_copyFrom_32 : decode cX4_copyFrom 32 = .ok (.invokevirtual 42, 3) := by decide +kernel
theorem dX4_copyFrom_35 : decode cX4_copyFrom 35 = .ok (.invokevirtual 46, 3) := by decide +kernel
theorem dX4_copyFrom_38 : decode cX4_copyFrom 38 = .ok (.aload_n 0, 1) := by decide +kernel
theorem dX4_copyFrom_39 : decode cX4_copyFrom 39 = .ok (.dup, 1) := by decide +kernel
theorem dX4_copyFrom_40 : decode cX4_copyFrom 40 = .ok (.getfield 16, 3) := by decide +kernel
theorem dX4_copyFrom_43 : decode cX4_copyFrom 43 = .ok (.iconst 1, 1) := by decide +kernel
theorem dX4_copyFrom_44 : decode cX4_copyFrom 44 = .ok (.iadd, 1) := by decide +kernel
theorem dX4_copyFrom_45 : decode cX4_copyFrom 45 = .ok (.putfield 16, 3) := by decide +kernel
theorem dX4_copyFrom_48 : decode cX4_copyFrom 48 = .ok (.iinc 2 1, 3) := by decide +kernel
theorem dX4_copyFrom_51 : decode cX4_copyFrom 51 = .ok (.goto (-44), 3) := by decide +kernel
theorem dX4_copyFrom_54 : decode cX4_copyFrom 54 = .ok (.return_, 1) := by decide +kernel
theorem dX4_setOrigins_0 : decode cX4_setOrigins 0 = .ok (.iconst 0, 1) := by decide +kernel
theorem dX4_setOrigins_1 : decode cX4_setOrigins 1 = .ok (.istore_n 1, 1) := by decide +kernel
theorem dX4_setOrigins_2 : decode cX4_setOrigins 2 = .ok (.iload_n 1, 1) := by decide +kernel
theorem dX4_setOrigins_3 : decode cX4_setOrigins 3 = .ok (.aload_n 0, 1) := by decide +kernel
theorem dX4_setOrigins_4 : decode cX4_setOrigins 4 = .ok (.getfield 16, 3) := by decide +kernel
theorem dX4_setOrigins_7 : decode cX4_setOrigins 7 = .ok (.if_icmp .ge 18, 3) := by decide +kernel
theorem dX4_setOrigins_10 : decode cX4_setOrigins 10 = .ok (.aload_n 0, 1) := by decide +kernel
theorem dX4_setOrigins_11 : decode cX4_setOrigins 11 = .ok (.iload_n 1, 1) := by decide +kernel
theorem dX4_setOrigins_12 : decode cX4_setOrigins 12 = .ok (.invokevirtual 42, 3) := by decide +kernel
theorem dX4_setOrigins_15 : decode cX4_setOrigins 15 = .ok (.iload_n 1, 1) := by decide +kernel
theorem dX4_setOrigins_16 : decode cX4_setOrigins 16 = .ok (.putfield 50, 3) := by decide +kernel
theorem dX4_setOrigins_19 : decode cX4_setOrigins 19 = .ok (.iinc 1 1, 3) := by decide +kernel
theorem dX4_setOrigins_22 : decode cX4_setOrigins 22 = .ok (.goto (-20), 3) := by decide +kernel
theorem dX4_setOrigins_25 : decode cX4_setOrigins 25 = .ok (.return_, 1) := by decide +kernel
theorem dX4_namesOnlyItsBlocks_0 : decode cX4_namesOnlyItsBlocks 0 = .ok (.iconst 0, 1) := by decide +kernel
theorem dX4_namesOnlyItsBlocks_1 : decode cX4_namesOnlyItsBlocks 1 = .ok (.istore_n 1, 1) := by decide +kernel
theorem dX4_namesOnlyItsBlocks_2 : decode cX4_namesOnlyItsBlocks 2 = .ok (.iload_n 1, 1) := by decide +kernel
theorem dX4_namesOnlyItsBlocks_3 : decode cX4_namesOnlyItsBlocks 3 = .ok (.aload_n 0, 1) := by decide +kernel
theorem dX4_namesOnlyItsBlocks_4 : decode cX4_namesOnlyItsBlocks 4 = .ok (.getfield 16, 3) := by decide +kernel
theorem dX4_namesOnlyItsBlocks_7 : decode cX4_namesOnlyItsBlocks 7 = .ok (.if_icmp .ge 45, 3) := by decide +kernel
theorem dX4_namesOnlyItsBlocks_10 : decode cX4_namesOnlyItsBlocks 10 = .ok (.aload_n 0, 1) := by decide +kernel
theorem dX4_namesOnlyItsBlocks_11 : decode cX4_namesOnlyItsBlocks 11 = .ok (.iload_n 1, 1) := by decide +kernel
theorem dX4_namesOnlyItsBlocks_12 : decode cX4_namesOnlyItsBlocks 12 = .ok (.invokevirtual 42, 3) := by decide +kernel
theorem dX4_namesOnlyItsBlocks_15 : decode cX4_namesOnlyItsBlocks 15 = .ok (.astore_n 2, 1) := by decide +kernel
theorem dX4_namesOnlyItsBlocks_16 : decode cX4_namesOnlyItsBlocks 16 = .ok (.iconst 0, 1) := by decide +kernel
theorem dX4_namesOnlyItsBlocks_17 : decode cX4_namesOnlyItsBlocks 17 = .ok (.istore_n 3, 1) := by decide +kernel
theorem dX4_namesOnlyItsBlocks_18 : decode cX4_namesOnlyItsBlocks 18 = .ok (.iload_n 3, 1) := by decide +kernel
theorem dX4_namesOnlyItsBlocks_19 : decode cX4_namesOnlyItsBlocks 19 = .ok (.aload_n 2, 1) := by decide +kernel
theorem dX4_namesOnlyItsBlocks_20 : decode cX4_namesOnlyItsBlocks 20 = .ok (.invokevirtual 53, 3) := by decide +kernel
theorem dX4_namesOnlyItsBlocks_23 : decode cX4_namesOnlyItsBlocks 23 = .ok (.if_icmp .ge 23, 3) := by decide +kernel
theorem dX4_namesOnlyItsBlocks_26 : decode cX4_namesOnlyItsBlocks 26 = .ok (.aload_n 0, 1) := by decide +kernel
theorem dX4_namesOnlyItsBlocks_27 : decode cX4_namesOnlyItsBlocks 27 = .ok (.aload_n 2, 1) := by decide +kernel
theorem dX4_namesOnlyItsBlocks_28 : decode cX4_namesOnlyItsBlocks 28 = .ok (.iload_n 3, 1) := by decide +kernel
theorem dX4_namesOnlyItsBlocks_29 : decode cX4_namesOnlyItsBlocks 29 = .ok (.invokevirtual 57, 3) := by decide +kernel
theorem dX4_namesOnlyItsBlocks_32 : decode cX4_namesOnlyItsBlocks 32 = .ok (.invokevirtual 28, 3) := by decide +kernel
theorem dX4_namesOnlyItsBlocks_35 : decode cX4_namesOnlyItsBlocks 35 = .ok (.ifCond .ne 5, 3) := by decide +kernel
theorem dX4_namesOnlyItsBlocks_38 : decode cX4_namesOnlyItsBlocks 38 = .ok (.iconst 0, 1) := by decide +kernel
theorem dX4_namesOnlyItsBlocks_39 : decode cX4_namesOnlyItsBlocks 39 = .ok (.ireturn, 1) := by decide +kernel
theorem dX4_namesOnlyItsBlocks_40 : decode cX4_namesOnlyItsBlocks 40 = .ok (.iinc 3 1, 3) := by decide +kernel
theorem dX4_namesOnlyItsBlocks_43 : decode cX4_namesOnlyItsBlocks 43 = .ok (.goto (-25), 3) := by decide +kernel
theorem dX4_namesOnlyItsBlocks_46 : decode cX4_namesOnlyItsBlocks 46 = .ok (.iinc 1 1, 3) := by decide +kernel
theorem dX4_namesOnlyItsBlocks_49 : decode cX4_namesOnlyItsBlocks 49 = .ok (.goto (-47), 3) := by decide +kernel
theorem dX4_namesOnlyItsBlocks_52 : decode cX4_namesOnlyItsBlocks 52 = .ok (.iconst 1, 1) := by decide +kernel
theorem dX4_namesOnlyItsBlocks_53 : decode cX4_namesOnlyItsBlocks 53 = .ok (.ireturn, 1) := by decide +kernel
theorem dX4_total_0 : decode cX4_total 0 = .ok (.iconst 0, 1) := by decide +kernel
theorem dX4_total_1 : decode cX4_total 1 = .ok (.istore_n 2, 1) := by decide +kernel
theorem dX4_total_2 : decode cX4_total 2 = .ok (.iconst 0, 1) := by decide +kernel
theorem dX4_total_3 : decode cX4_total 3 = .ok (.istore_n 3, 1) := by decide +kernel
theorem dX4_total_4 : decode cX4_total 4 = .ok (.iload_n 3, 1) := by decide +kernel
theorem dX4_total_5 : decode cX4_total 5 = .ok (.aload_n 0, 1) := by decide +kernel
theorem dX4_total_6 : decode cX4_total 6 = .ok (.getfield 16, 3) := by decide +kernel
theorem dX4_total_9 : decode cX4_total 9 = .ok (.if_icmp .ge 89, 3) := by decide +kernel
theorem dX4_total_12 : decode cX4_total 12 = .ok (.aload_n 0, 1) := by decide +kernel
theorem dX4_total_13 : decode cX4_total 13 = .ok (.iload_n 3, 1) := by decide +kernel
theorem dX4_total_14 : decode cX4_total 14 = .ok (.invokevirtual 42, 3) := by decide +kernel
theorem dX4_total_17 : decode cX4_total 17 = .ok (.astore 4, 2) := by decide +kernel
theorem dX4_total_19 : decode cX4_total 19 = .ok (.iload_n 1, 1) := by decide +kernel
theorem dX4_total_20 : decode cX4_total 20 = .ok (.tableswitch 64 0 2 #[28, 34, 45], 28) := by decide +kernel
theorem dX4_total_48 : decode cX4_total 48 = .ok (.iinc 2 1, 3) := by decide +kernel
theorem dX4_total_51 : decode cX4_total 51 = .ok (.goto 41, 3) := by decide +kernel
theorem dX4_total_54 : decode cX4_total 54 = .ok (.iload_n 2, 1) := by decide +kernel
theorem dX4_total_55 : decode cX4_total 55 = .ok (.aload 4, 2) := by decide +kernel
theorem dX4_total_57 : decode cX4_total 57 = .ok (.getfield 61, 3) := by decide +kernel
theorem dX4_total_60 : decode cX4_total 60 = .ok (.iadd, 1) := by decide +kernel
theorem dX4_total_61 : decode cX4_total 61 = .ok (.istore_n 2, 1) := by decide +kernel
theorem dX4_total_62 : decode cX4_total 62 = .ok (.goto 30, 3) := by decide +kernel
theorem dX4_total_65 : decode cX4_total 65 = .ok (.iload_n 2, 1) := by decide +kernel
theorem dX4_total_66 : decode cX4_total 66 = .ok (.aload 4, 2) := by decide +kernel
theorem dX4_total_68 : decode cX4_total 68 = .ok (.invokevirtual 64, 3) := by decide +kernel
theorem dX4_total_71 : decode cX4_total 71 = .ok (.ifCond .eq 7, 3) := by decide +kernel
theorem dX4_total_74 : decode cX4_total 74 = .ok (.iconst 1, 1) := by decide +kernel
theorem dX4_total_75 : decode cX4_total 75 = .ok (.goto 4, 3) := by decide +kernel
theorem dX4_total_78 : decode cX4_total 78 = .ok (.iconst 0, 1) := by decide +kernel
theorem dX4_total_79 : decode cX4_total 79 = .ok (.iadd, 1) := by decide +kernel
theorem dX4_total_80 : decode cX4_total 80 = .ok (.istore_n 2, 1) := by decide +kernel
theorem dX4_total_81 : decode cX4_total 81 = .ok (.goto 11, 3) := by decide +kernel
theorem dX4_total_84 : decode cX4_total 84 = .ok (.iload_n 2, 1) := by decide +kernel
theorem dX4_total_85 : decode cX4_total 85 = .ok (.aload 4, 2) := by decide +kernel
theorem dX4_total_87 : decode cX4_total 87 = .ok (.invokevirtual 53, 3) := by decide +kernel
theorem dX4_total_90 : decode cX4_total 90 = .ok (.iadd, 1) := by decide +kernel
theorem dX4_total_91 : decode cX4_total 91 = .ok (.istore_n 2, 1) := by decide +kernel
theorem dX4_total_92 : decode cX4_total 92 = .ok (.iinc 3 1, 3) := by decide +kernel
theorem dX4_total_95 : decode cX4_total 95 = .ok (.goto (-91), 3) := by decide +kernel
theorem dX4_total_98 : decode cX4_total 98 = .ok (.iload_n 2, 1) := by decide +kernel
theorem dX4_total_99 : decode cX4_total 99 = .ok (.ireturn, 1) := by decide +kernel
theorem dX4_keepOnly_0 : decode cX4_keepOnly 0 = .ok (.iconst 0, 1) := by decide +kernel
theorem dX4_keepOnly_1 : decode cX4_keepOnly 1 = .ok (.istore_n 2, 1) := by decide +kernel
theorem dX4_keepOnly_2 : decode cX4_keepOnly 2 = .ok (.iconst 0, 1) := by decide +kernel
theorem dX4_keepOnly_3 : decode cX4_keepOnly 3 = .ok (.istore_n 3, 1) := by decide +kernel
theorem dX4_keepOnly_4 : decode cX4_keepOnly 4 = .ok (.iload_n 3, 1) := by decide +kernel
theorem dX4_keepOnly_5 : decode cX4_keepOnly 5 = .ok (.aload_n 0, 1) := by decide +kernel
theorem dX4_keepOnly_6 : decode cX4_keepOnly 6 = .ok (.getfield 16, 3) := by decide +kernel
theorem dX4_keepOnly_9 : decode cX4_keepOnly 9 = .ok (.if_icmp .ge 56, 3) := by decide +kernel
theorem dX4_keepOnly_12 : decode cX4_keepOnly 12 = .ok (.iload_n 3, 1) := by decide +kernel
theorem dX4_keepOnly_13 : decode cX4_keepOnly 13 = .ok (.aload_n 0, 1) := by decide +kernel
theorem dX4_keepOnly_14 : decode cX4_keepOnly 14 = .ok (.getfield 20, 3) := by decide +kernel
theorem dX4_keepOnly_17 : decode cX4_keepOnly 17 = .ok (.arraylength, 1) := by decide +kernel
theorem dX4_keepOnly_18 : decode cX4_keepOnly 18 = .ok (.if_icmp .ge 47, 3) := by decide +kernel
theorem dX4_keepOnly_21 : decode cX4_keepOnly 21 = .ok (.aload_n 0, 1) := by decide +kernel
theorem dX4_keepOnly_22 : decode cX4_keepOnly 22 = .ok (.getfield 24, 3) := by decide +kernel
theorem dX4_keepOnly_25 : decode cX4_keepOnly 25 = .ok (.iload_n 3, 1) := by decide +kernel
theorem dX4_keepOnly_26 : decode cX4_keepOnly 26 = .ok (.iload_n 2, 1) := by decide +kernel
theorem dX4_keepOnly_27 : decode cX4_keepOnly 27 = .ok (.iastore, 1) := by decide +kernel
theorem dX4_keepOnly_28 : decode cX4_keepOnly 28 = .ok (.iload_n 1, 1) := by decide +kernel
theorem dX4_keepOnly_29 : decode cX4_keepOnly 29 = .ok (.iload_n 3, 1) := by decide +kernel
theorem dX4_keepOnly_30 : decode cX4_keepOnly 30 = .ok (.ishr, 1) := by decide +kernel
theorem dX4_keepOnly_31 : decode cX4_keepOnly 31 = .ok (.iconst 1, 1) := by decide +kernel
theorem dX4_keepOnly_32 : decode cX4_keepOnly 32 = .ok (.iand, 1) := by decide +kernel
theorem dX4_keepOnly_33 : decode cX4_keepOnly 33 = .ok (.ifCond .eq 26, 3) := by decide +kernel
theorem dX4_keepOnly_36 : decode cX4_keepOnly 36 = .ok (.iload_n 2, 1) := by decide +kernel
theorem dX4_keepOnly_37 : decode cX4_keepOnly 37 = .ok (.iload_n 3, 1) := by decide +kernel
theorem dX4_keepOnly_38 : decode cX4_keepOnly 38 = .ok (.if_icmp .eq 18, 3) := by decide +kernel
theorem dX4_keepOnly_41 : decode cX4_keepOnly 41 = .ok (.aload_n 0, 1) := by decide +kernel
theorem dX4_keepOnly_42 : decode cX4_keepOnly 42 = .ok (.getfield 20, 3) := by decide +kernel
theorem dX4_keepOnly_45 : decode cX4_keepOnly 45 = .ok (.iload_n 2, 1) := by decide +kernel
theorem dX4_keepOnly_46 : decode cX4_keepOnly 46 = .ok (.aaload, 1) := by decide +kernel
theorem dX4_keepOnly_47 : decode cX4_keepOnly 47 = .ok (.aload_n 0, 1) := by decide +kernel
theorem dX4_keepOnly_48 : decode cX4_keepOnly 48 = .ok (.getfield 20, 3) := by decide +kernel
theorem dX4_keepOnly_51 : decode cX4_keepOnly 51 = .ok (.iload_n 3, 1) := by decide +kernel
theorem dX4_keepOnly_52 : decode cX4_keepOnly 52 = .ok (.aaload, 1) := by decide +kernel
theorem dX4_keepOnly_53 : decode cX4_keepOnly 53 = .ok (.invokevirtual 46, 3) := by decide +kernel
theorem dX4_keepOnly_56 : decode cX4_keepOnly 56 = .ok (.iinc 2 1, 3) := by decide +kernel
theorem dX4_keepOnly_59 : decode cX4_keepOnly 59 = .ok (.iinc 3 1, 3) := by decide +kernel
theorem dX4_keepOnly_62 : decode cX4_keepOnly 62 = .ok (.goto (-58), 3) := by decide +kernel
theorem dX4_keepOnly_65 : decode cX4_keepOnly 65 = .ok (.aload_n 0, 1) := by decide +kernel
theorem dX4_keepOnly_66 : decode cX4_keepOnly 66 = .ok (.getfield 16, 3) := by decide +kernel
theorem dX4_keepOnly_69 : decode cX4_keepOnly 69 = .ok (.iload_n 2, 1) := by decide +kernel
theorem dX4_keepOnly_70 : decode cX4_keepOnly 70 = .ok (.isub, 1) := by decide +kernel
theorem dX4_keepOnly_71 : decode cX4_keepOnly 71 = .ok (.istore_n 3, 1) := by decide +kernel
theorem dX4_keepOnly_72 : decode cX4_keepOnly 72 = .ok (.iconst 0, 1) := by decide +kernel
theorem dX4_keepOnly_73 : decode cX4_keepOnly 73 = .ok (.istore 4, 2) := by decide +kernel
theorem dX4_keepOnly_75 : decode cX4_keepOnly 75 = .ok (.iload 4, 2) := by decide +kernel
theorem dX4_keepOnly_77 : decode cX4_keepOnly 77 = .ok (.iload_n 2, 1) := by decide +kernel
theorem dX4_keepOnly_78 : decode cX4_keepOnly 78 = .ok (.if_icmp .ge 20, 3) := by decide +kernel
theorem dX4_keepOnly_81 : decode cX4_keepOnly 81 = .ok (.aload_n 0, 1) := by decide +kernel
theorem dX4_keepOnly_82 : decode cX4_keepOnly 82 = .ok (.aload_n 0, 1) := by decide +kernel
theorem dX4_keepOnly_83 : decode cX4_keepOnly 83 = .ok (.getfield 20, 3) := by decide +kernel
theorem dX4_keepOnly_86 : decode cX4_keepOnly 86 = .ok (.iload 4, 2) := by decide +kernel
theorem dX4_keepOnly_88 : decode cX4_keepOnly 88 = .ok (.aaload, 1) := by decide +kernel
theorem dX4_keepOnly_89 : decode cX4_keepOnly 89 = .ok (.invokevirtual 67, 3) := by decide +kernel
theorem dX4_keepOnly_92 : decode cX4_keepOnly 92 = .ok (.iinc 4 1, 3) := by decide +kernel
theorem dX4_keepOnly_95 : decode cX4_keepOnly 95 = .ok (.goto (-20), 3) := by decide +kernel
theorem dX4_keepOnly_98 : decode cX4_keepOnly 98 = .ok (.aload_n 0, 1) := by decide +kernel
theorem dX4_keepOnly_99 : decode cX4_keepOnly 99 = .ok (.iload_n 2, 1) := by decide +kernel
theorem dX4_keepOnly_100 : decode cX4_keepOnly 100 = .ok (.putfield 16, 3) := by decide +kernel
theorem dX4_keepOnly_103 : decode cX4_keepOnly 103 = .ok (.iload_n 3, 1) := by decide +kernel
theorem dX4_keepOnly_104 : decode cX4_keepOnly 104 = .ok (.ireturn, 1) := by decide +kernel
theorem dX4_aimAnew_0 : decode cX4_aimAnew 0 = .ok (.iconst 0, 1) := by decide +kernel
theorem dX4_aimAnew_1 : decode cX4_aimAnew 1 = .ok (.istore_n 2, 1) := by decide +kernel
theorem dX4_aimAnew_2 : decode cX4_aimAnew 2 = .ok (.iload_n 2, 1) := by decide +kernel
theorem dX4_aimAnew_3 : decode cX4_aimAnew 3 = .ok (.aload_n 1, 1) := by decide +kernel
theorem dX4_aimAnew_4 : decode cX4_aimAnew 4 = .ok (.invokevirtual 53, 3) := by decide +kernel
theorem dX4_aimAnew_7 : decode cX4_aimAnew 7 = .ok (.if_icmp .ge 34, 3) := by decide +kernel
theorem dX4_aimAnew_10 : decode cX4_aimAnew 10 = .ok (.aload_n 1, 1) := by decide +kernel
theorem dX4_aimAnew_11 : decode cX4_aimAnew 11 = .ok (.iload_n 2, 1) := by decide +kernel
theorem dX4_aimAnew_12 : decode cX4_aimAnew 12 = .ok (.invokevirtual 57, 3) := by decide +kernel
theorem dX4_aimAnew_15 : decode cX4_aimAnew 15 = .ok (.istore_n 3, 1) := by decide +kernel
theorem dX4_aimAnew_16 : decode cX4_aimAnew 16 = .ok (.aload_n 0, 1) := by decide +kernel
theorem dX4_aimAnew_17 : decode cX4_aimAnew 17 = .ok (.iload_n 3, 1) := by decide +kernel
theorem dX4_aimAnew_18 : decode cX4_aimAnew 18 = .ok (.invokevirtual 28, 3) := by decide +kernel
theorem dX4_aimAnew_21 : decode cX4_aimAnew 21 = .ok (.ifCond .eq 14, 3) := by decide +kernel
theorem dX4_aimAnew_24 : decode cX4_aimAnew 24 = .ok (.aload_n 1, 1) := by decide +kernel
theorem dX4_aimAnew_25 : decode cX4_aimAnew 25 = .ok (.iload_n 2, 1) := by decide +kernel
theorem dX4_aimAnew_26 : decode cX4_aimAnew 26 = .ok (.aload_n 0, 1) := by decide +kernel
theorem dX4_aimAnew_27 : decode cX4_aimAnew 27 = .ok (.getfield 24, 3) := by decide +kernel
theorem dX4_aimAnew_30 : decode cX4_aimAnew 30 = .ok (.iload_n 3, 1) := by decide +kernel
theorem dX4_aimAnew_31 : decode cX4_aimAnew 31 = .ok (.iaload, 1) := by decide +kernel
theorem dX4_aimAnew_32 : decode cX4_aimAnew 32 = .ok (.invokevirtual 70, 3) := by decide +kernel
theorem dX4_aimAnew_35 : decode cX4_aimAnew 35 = .ok (.iinc 2 1, 3) := by decide +kernel
theorem dX4_aimAnew_38 : decode cX4_aimAnew 38 = .ok (.goto (-36), 3) := by decide +kernel
theorem dX4_aimAnew_41 : decode cX4_aimAnew 41 = .ok (.return_, 1) := by decide +kernel
theorem dX5_init_0 : decode cX5_init 0 = .ok (.aload_n 0, 1) := by decide +kernel
theorem dX5_init_1 : decode cX5_init 1 = .ok (.invokespecial 3, 3) := by decide +kernel
theorem dX5_init_4 : decode cX5_init 4 = .ok (.aload_n 0, 1) := by decide +kernel
theorem dX5_init_5 : decode cX5_init 5 = .ok (.iconst 4, 1) := by decide +kernel
theorem dX5_init_6 : decode cX5_init 6 = .ok (.newarray .int, 2) := by decide +kernel
theorem dX5_init_8 : decode cX5_init 8 = .ok (.putfield 9, 3) := by decide +kernel
theorem dX5_init_11 : decode cX5_init 11 = .ok (.aload_n 0, 1) := by decide +kernel
theorem dX5_init_12 : decode cX5_init 12 = .ok (.iconst 4, 1) := by decide +kernel
theorem dX5_init_13 : decode cX5_init 13 = .ok (.newarray .int, 2) := by decide +kernel
theorem dX5_init_15 : decode cX5_init 15 = .ok (.putfield 15, 3) := by decide +kernel
theorem dX5_init_18 : decode cX5_init 18 = .ok (.aload_n 0, 1) := by decide +kernel
theorem dX5_init_19 : decode cX5_init 19 = .ok (.iconst 4, 1) := by decide +kernel
theorem dX5_init_20 : decode cX5_init 20 = .ok (.newarray .boolean, 2) := by decide +kernel
theorem dX5_init_22 : decode cX5_init 22 = .ok (.putfield 18, 3) := by decide +kernel
theorem dX5_init_25 : decode cX5_init 25 = .ok (.return_, 1) := by decide +kernel
theorem dX5_setAll_0 : decode cX5_setAll 0 = .ok (.iconst 0, 1) := by decide +kernel
theorem dX5_setAll_1 : decode cX5_setAll 1 = .ok (.istore_n 2, 1) := by decide +kernel
theorem dX5_setAll_2 : decode cX5_setAll 2 = .ok (.iload_n 2, 1) := by decide +kernel
theorem dX5_setAll_3 : decode cX5_setAll 3 = .ok (.iconst 4, 1) := by decide +kernel
theorem dX5_setAll_4 : decode cX5_setAll 4 = .ok (.if_icmp .ge 24, 3) := by decide +kernel
theorem dX5_setAll_7 : decode cX5_setAll 7 = .ok (.aload_n 0, 1) := by decide +kernel
theorem dX5_setAll_8 : decode cX5_setAll 8 = .ok (.iload_n 2, 1) := by decide +kernel
theorem dX5_setAll_9 : decode cX5_setAll 9 = .ok (.bipush 51, 2) := by decide +kernel
theorem dX5_setAll_11 : decode cX5_setAll 11 = .ok (.iconst (-1), 1) := by decide +kernel
theorem dX5_setAll_12 : decode cX5_setAll 12 = .ok (.invokevirtual 22, 3) := by decide +kernel
theorem dX5_setAll_15 : decode cX5_setAll 15 = .ok (.aload_n 0, 1) := by decide +kernel
theorem dX5_setAll_16 : decode cX5_setAll 16 = .ok (.getfield 18, 3) := by decide +kernel
theorem dX5_setAll_19 : decode cX5_setAll 19 = .ok (.iload_n 2, 1) := by decide +kernel
theorem dX5_setAll_20 : decode cX5_setAll 20 = .ok (.iload_n 1, 1) := by decide +kernel
theorem dX5_setAll_21 : decode cX5_setAll 21 = .ok (.bastore, 1) := by decide +kernel
theorem dX5_setAll_22 : decode cX5_setAll 22 = .ok (.iinc 2 1, 3) := by decide +kernel
theorem dX5_setAll_25 : decode cX5_setAll 25 = .ok (.goto (-23), 3) := by decide +kernel
theorem dX5_setAll_28 : decode cX5_setAll 28 = .ok (.return_, 1) := by decide +kernel
theorem dX5_copyFrom_0 : decode cX5_copyFrom 0 = .ok (.iconst 0, 1) := by decide +kernel
theorem dX5_copyFrom_1 : decode cX5_copyFrom 1 = .ok (.istore_n 2, 1) := by decide +kernel
theorem dX5_copyFrom_2 : decode cX5_copyFrom 2 = .ok (.iload_n 2, 1) := by decide +kernel
theorem dX5_copyFrom_3 : decode cX5_copyFrom 3 = .ok (.iconst 4, 1) := by decide +kernel
theorem dX5_copyFrom_4 : decode cX5_copyFrom 4 = .ok (.if_icmp .ge 16, 3) := by decide +kernel
theorem dX5_copyFrom_7 : decode cX5_copyFrom 7 = .ok (.aload_n 0, 1) := by decide +kernel
theorem dX5_copyFrom_8 : decode cX5_copyFrom 8 = .ok (.iload_n 2, 1) := by decide +kernel
theorem dX5_copyFrom_9 : decode cX5_copyFrom 9 = .ok (.aload_n 1, 1) := by decide +kernel
theorem dX5_copyFrom_10 : decode cX5_copyFrom 10 = .ok (.iload_n 2, 1) := by decide +kernel
theorem dX5_copyFrom_11 : decode cX5_copyFrom 11 = .ok (.invokevirtual 26, 3) := by decide +kernel
theorem dX5_copyFrom_14 : decode cX5_copyFrom 14 = .ok (.iinc 2 1, 3) := by decide +kernel
theorem dX5_copyFrom_17 : decode cX5_copyFrom 17 = .ok (.goto (-15), 3) := by decide +kernel
theorem dX5_copyFrom_20 : decode cX5_copyFrom 20 = .ok (.return_, 1) := by decide +kernel
theorem dX5_join_0 : decode cX5_join 0 = .ok (.iconst 0, 1) := by decide +kernel
theorem dX5_join_1 : decode cX5_join 1 = .ok (.istore_n 2, 1) := by decide +kernel
theorem dX5_join_2 : decode cX5_join 2 = .ok (.iconst 0, 1) := by decide +kernel
theorem dX5_join_3 : decode cX5_join 3 = .ok (.istore_n 3, 1) := by decide +kernel
theorem dX5_join_4 : decode cX5_join 4 = .ok (.iload_n 3, 1) := by decide +kernel
theorem dX5_join_5 : decode cX5_join 5 = .ok (.iconst 4, 1) := by decide +kernel
theorem dX5_join_6 : decode cX5_join 6 = .ok (.if_icmp .ge 94, 3) := by decide +kernel
theorem dX5_join_9 : decode cX5_join 9 = .ok (.aload_n 1, 1) := by decide +kernel
theorem dX5_join_10 : decode cX5_join 10 = .ok (.getfield 9, 3) := by decide +kernel
theorem dX5_join_13 : decode cX5_join 13 = .ok (.iload_n 3, 1) := by decide +kernel
theorem dX5_join_14 : decode cX5_join 14 = .ok (.iaload, 1) := by decide +kernel
theorem dX5_join_15 : decode cX5_join 15 = .ok (.aload_n 0, 1) := by decide +kernel
theorem dX5_join_16 : decode cX5_join 16 = .ok (.getfield 9, 3) := by decide +kernel
theorem dX5_join_19 : decode cX5_join 19 = .ok (.iload_n 3, 1) := by decide +kernel
theorem dX5_join_20 : decode cX5_join 20 = .ok (.iaload, 1) := by decide +kernel
theorem dX5_join_21 : decode cX5_join 21 = .ok (.if_icmp .ge 17, 3) := by decide +kernel
theorem dX5_join_24 : decode cX5_join 24 = .ok (.aload_n 0, 1) := by decide +kernel
theorem dX5_join_25 : decode cX5_join 25 = .ok (.getfield 9, 3) := by decide +kernel
theorem dX5_join_28 : decode cX5_join 28 = .ok (.iload_n 3, 1) := by decide +kernel
theorem dX5_join_29 : decode cX5_join 29 = .ok (.aload_n 1, 1) := by decide +kernel
theorem dX5_join_30 : decode cX5_join 30 = .ok (.getfield 9, 3) := by decide +kernel
theorem dX5_join_33 : decode cX5_join 33 = .ok (.iload_n 3, 1) := by decide +kernel
theorem dX5_join_34 : decode cX5_join 34 = .ok (.iaload, 1) := by decide +kernel
theorem dX5_join_35 : decode cX5_join 35 = .ok (.iastore, 1) := by decide +kernel
theorem dX5_join_36 : decode cX5_join 36 = .ok (.iconst 1, 1) := by decide +kernel
theorem dX5_join_37 : decode cX5_join 37 = .ok (.istore_n 2, 1) := by decide +kernel
theorem dX5_join_38 : decode cX5_join 38 = .ok (.aload_n 1, 1) := by decide +kernel
theorem dX5_join_39 : decode cX5_join 39 = .ok (.getfield 15, 3) := by decide +kernel
theorem dX5_join_42 : decode cX5_join 42 = .ok (.iload_n 3, 1) := by decide +kernel
theorem dX5_join_43 : decode cX5_join 43 = .ok (.iaload, 1) := by decide +kernel
theorem dX5_join_44 : decode cX5_join 44 = .ok (.aload_n 0, 1) := by decide +kernel
theorem dX5_join_45 : decode cX5_join 45 = .ok (.getfield 15, 3) := by decide +kernel
theorem dX5_join_48 : decode cX5_join 48 = .ok (.iload_n 3, 1) := by decide +kernel
theorem dX5_join_49 : decode cX5_join 49 = .ok (.iaload, 1) := by decide +kernel
theorem dX5_join_50 : decode cX5_join 50 = .ok (.if_icmp .le 17, 3) := by decide +kernel
theorem dX5_join_53 : decode cX5_join 53 = .ok (.aload_n 0, 1) := by decide +kernel
theorem dX5_join_54 : decode cX5_join 54 = .ok (.getfield 15, 3) := by decide +kernel
theorem dX5_join_57 : decode cX5_join 57 = .ok (.iload_n 3, 1) := by decide +kernel
theorem dX5_join_58 : decode cX5_join 58 = .ok (.aload_n 1, 1) := by decide +kernel
theorem dX5_join_59 : decode cX5_join 59 = .ok (.getfield 15, 3) := by decide +kernel
theorem dX5_join_62 : decode cX5_join 62 = .ok (.iload_n 3, 1) := by decide +kernel
theorem dX5_join_63 : decode cX5_join 63 = .ok (.iaload, 1) := by decide +kernel
theorem dX5_join_64 : decode cX5_join 64 = .ok (.iastore, 1) := by decide +kernel
theorem dX5_join_65 : decode cX5_join 65 = .ok (.iconst 1, 1) := by decide +kernel
theorem dX5_join_66 : decode cX5_join 66 = .ok (.istore_n 2, 1) := by decide +kernel
theorem dX5_join_67 : decode cX5_join 67 = .ok (.aload_n 1, 1) := by decide +kernel
theorem dX5_join_68 : decode cX5_join 68 = .ok (.getfield 18, 3) := by decide +kernel
theorem dX5_join_71 : decode cX5_join 71 = .ok (.iload_n 3, 1) := by decide +kernel
theorem dX5_join_72 : decode cX5_join 72 = .ok (.baload, 1) := by decide +kernel
theorem dX5_join_73 : decode cX5_join 73 = .ok (.ifCond .eq 21, 3) := by decide +kernel
theorem dX5_join_76 : decode cX5_join 76 = .ok (.aload_n 0, 1) := by decide +kernel
theorem dX5_join_77 : decode cX5_join 77 = .ok (.getfield 18, 3) := by decide +kernel
theorem dX5_join_80 : decode cX5_join 80 = .ok (.iload_n 3, 1) := by decide +kernel
theorem dX5_join_81 : decode cX5_join 81 = .ok (.baload, 1) := by decide +kernel
theorem dX5_join_82 : decode cX5_join 82 = .ok (.ifCond .ne 12, 3) := by decide +kernel
theorem dX5_join_85 : decode cX5_join 85 = .ok (.aload_n 0, 1) := by decide +kernel
theorem dX5_join_86 : decode cX5_join 86 = .ok (.getfield 18, 3) := by decide +kernel
theorem dX5_join_89 : decode cX5_join 89 = .ok (.iload_n 3, 1) := by decide +kernel
theorem dX5_join_90 : decode cX5_join 90 = .ok (.iconst 1, 1) := by decide +kernel
theorem dX5_join_91 : decode cX5_join 91 = .ok (.bastore, 1) := by decide +kernel
theorem dX5_join_92 : decode cX5_join 92 = .ok (.iconst 1, 1) := by decide +kernel
theorem dX5_join_93 : decode cX5_join 93 = .ok (.istore_n 2, 1) := by decide +kernel
theorem dX5_join_94 : decode cX5_join 94 = .ok (.iinc 3 1, 3) := by decide +kernel
theorem dX5_join_97 : decode cX5_join 97 = .ok (.goto (-93), 3) := by decide +kernel
theorem dX5_join_100 : decode cX5_join 100 = .ok (.iload_n 2, 1) := by decide +kernel
theorem dX5_join_101 : decode cX5_join 101 = .ok (.ireturn, 1) := by decide +kernel
theorem dX5_leavesEachSomething_0 : decode cX5_leavesEachSomething 0 = .ok (.iconst 0, 1) := by decide +kernel
theorem dX5_leavesEachSomething_1 : decode cX5_leavesEachSomething 1 = .ok (.istore_n 1, 1) := by decide +kernel
theorem dX5_leavesEachSomething_2 : decode cX5_leavesEachSomething 2 = .ok (.iload_n 1, 1) := by decide +kernel
theorem dX5_leavesEachSomething_3 : decode cX5_leavesEachSomething 3 = .ok (.iconst 4, 1) := by decide +kernel
theorem dX5_leavesEachSomething_4 : decode cX5_leavesEachSomething 4 = .ok (.if_icmp .ge 35, 3) := by decide +kernel
theorem dX5_leavesEachSomething_7 : decode cX5_leavesEachSomething 7 = .ok (.aload_n 0, 1) := by decide +kernel
theorem dX5_leavesEachSomething_8 : decode cX5_leavesEachSomething 8 = .ok (.getfield 18, 3) := by decide +kernel
theorem dX5_leavesEachSomething_11 : decode cX5_leavesEachSomething 11 = .ok (.iload_n 1, 1) := by decide +kernel
theorem dX5_leavesEachSomething_12 : decode cX5_leavesEachSomething 12 = .ok (.baload, 1) := by decide +kernel
theorem dX5_leavesEachSomething_13 : decode cX5_leavesEachSomething 13 = .ok (.ifCond .ne 20, 3) := by decide +kernel
theorem dX5_leavesEachSomething_16 : decode cX5_leavesEachSomething 16 = .ok (.aload_n 0, 1) := by decide +kernel
theorem dX5_leavesEachSomething_17 : decode cX5_leavesEachSomething 17 = .ok (.getfield 9, 3) := by decide +kernel
theorem dX5_leavesEachSomething_20 : decode cX5_leavesEachSomething 20 = .ok (.iload_n 1, 1) := by decide +kernel
theorem dX5_leavesEachSomething_21 : decode cX5_leavesEachSomething 21 = .ok (.iaload, 1) := by decide +kernel
theorem dX5_leavesEachSomething_22 : decode cX5_leavesEachSomething 22 = .ok (.aload_n 0, 1) := by decide +kernel
theorem dX5_leavesEachSomething_23 : decode cX5_leavesEachSomething 23 = .ok (.getfield 15, 3) := by decide +kernel
theorem dX5_leavesEachSomething_26 : decode cX5_leavesEachSomething 26 = .ok (.iload_n 1, 1) := by decide +kernel
theorem dX5_leavesEachSomething_27 : decode cX5_leavesEachSomething 27 = .ok (.iaload, 1) := by decide +kernel
theorem dX5_leavesEachSomething_28 : decode cX5_leavesEachSomething 28 = .ok (.if_icmp .le 5, 3) := by decide +kernel
theorem dX5_leavesEachSomething_31 : decode cX5_leavesEachSomething 31 = .ok (.iconst 0, 1) := by decide +kernel
theorem dX5_leavesEachSomething_32 : decode cX5_leavesEachSomething 32 = .ok (.ireturn, 1) := by decide +kernel
theorem dX5_leavesEachSomething_33 : decode cX5_leavesEachSomething 33 = .ok (.iinc 1 1, 3) := by decide +kernel
theorem dX5_leavesEachSomething_36 : decode cX5_leavesEachSomething 36 = .ok (.goto (-34), 3) := by decide +kernel
theorem dX5_leavesEachSomething_39 : decode cX5_leavesEachSomething 39 = .ok (.iconst 1, 1) := by decide +kernel
theorem dX5_leavesEachSomething_40 : decode cX5_leavesEachSomething 40 = .ok (.ireturn, 1) := by decide +kernel
theorem dX5_property_0 : decode cX5_property 0 = .ok (.iload_n 1, 1) := by decide +kernel
theorem dX5_property_1 : decode cX5_property 1 = .ok (.invokestatic 30, 3) := by decide +kernel
theorem dX5_property_4 : decode cX5_property 4 = .ok (.ifCond .ne 6, 3) := by decide +kernel
theorem dX5_property_7 : decode cX5_property 7 = .ok (.bipush (-4), 2) := by decide +kernel
theorem dX5_property_9 : decode cX5_property 9 = .ok (.ireturn, 1) := by decide +kernel
theorem dX5_property_10 : decode cX5_property 10 = .ok (.iload_n 2, 1) := by decide +kernel
theorem dX5_property_11 : decode cX5_property 11 = .ok (.iconst 2, 1) := by decide +kernel
theorem dX5_property_12 : decode cX5_property 12 = .ok (.if_icmp .ne 18, 3) := by decide +kernel
theorem dX5_property_15 : decode cX5_property 15 = .ok (.aload_n 0, 1) := by decide +kernel
theorem dX5_property_16 : decode cX5_property 16 = .ok (.getfield 18, 3) := by decide +kernel
theorem dX5_property_19 : decode cX5_property 19 = .ok (.iload_n 1, 1) := by decide +kernel
theorem dX5_property_20 : decode cX5_property 20 = .ok (.baload, 1) := by decide +kernel
theorem dX5_property_21 : decode cX5_property 21 = .ok (.ifCond .eq 7, 3) := by decide +kernel
theorem dX5_property_24 : decode cX5_property 24 = .ok (.iconst 1, 1) := by decide +kernel
theorem dX5_property_25 : decode cX5_property 25 = .ok (.goto 4, 3) := by decide +kernel
theorem dX5_property_28 : decode cX5_property 28 = .ok (.iconst 0, 1) := by decide +kernel
theorem dX5_property_29 : decode cX5_property 29 = .ok (.ireturn, 1) := by decide +kernel
theorem dX5_property_30 : decode cX5_property 30 = .ok (.aload_n 0, 1) := by decide +kernel
theorem dX5_property_31 : decode cX5_property 31 = .ok (.getfield 9, 3) := by decide +kernel
theorem dX5_property_34 : decode cX5_property 34 = .ok (.iload_n 1, 1) := by decide +kernel
theorem dX5_property_35 : decode cX5_property 35 = .ok (.iaload, 1) := by decide +kernel
theorem dX5_property_36 : decode cX5_property 36 = .ok (.aload_n 0, 1) := by decide +kernel
theorem dX5_property_37 : decode cX5_property 37 = .ok (.getfield 15, 3) := by decide +kernel
theorem dX5_property_40 : decode cX5_property 40 = .ok (.iload_n 1, 1) := by decide +kernel
theorem dX5_property_41 : decode cX5_property 41 = .ok (.iaload, 1) := by decide +kernel
theorem dX5_property_42 : decode cX5_property 42 = .ok (.if_icmp .le 6, 3) := by decide +kernel
theorem dX5_property_45 : decode cX5_property 45 = .ok (.bipush (-4), 2) := by decide +kernel
theorem dX5_property_47 : decode cX5_property 47 = .ok (.ireturn, 1) := by decide +kernel
theorem dX5_property_48 : decode cX5_property 48 = .ok (.iload_n 2, 1) := by decide +kernel
theorem dX5_property_49 : decode cX5_property 49 = .ok (.ifCond .ne 12, 3) := by decide +kernel
theorem dX5_property_52 : decode cX5_property 52 = .ok (.aload_n 0, 1) := by decide +kernel
theorem dX5_property_53 : decode cX5_property 53 = .ok (.getfield 9, 3) := by decide +kernel
theorem dX5_property_56 : decode cX5_property 56 = .ok (.iload_n 1, 1) := by decide +kernel
theorem dX5_property_57 : decode cX5_property 57 = .ok (.iaload, 1) := by decide +kernel
theorem dX5_property_58 : decode cX5_property 58 = .ok (.goto 9, 3) := by decide +kernel
theorem dX5_property_61 : decode cX5_property 61 = .ok (.aload_n 0, 1) := by decide +kernel
theorem dX5_property_62 : decode cX5_property 62 = .ok (.getfield 15, 3) := by decide +kernel
theorem dX5_property_65 : decode cX5_property 65 = .ok (.iload_n 1, 1) := by decide +kernel
theorem dX5_property_66 : decode cX5_property 66 = .ok (.iaload, 1) := by decide +kernel
theorem dX5_property_67 : decode cX5_property 67 = .ok (.ireturn, 1) := by decide +kernel
theorem dX5_applyActs_0 : decode cX5_applyActs 0 = .ok (.iconst 0, 1) := by decide +kernel
theorem dX5_applyActs_1 : decode cX5_applyActs 1 = .ok (.istore_n 2, 1) := by decide +kernel
theorem dX5_applyActs_2 : decode cX5_applyActs 2 = .ok (.iload_n 2, 1) := by decide +kernel
theorem dX5_applyActs_3 : decode cX5_applyActs 3 = .ok (.aload_n 1, 1) := by decide +kernel
theorem dX5_applyActs_4 : decode cX5_applyActs 4 = .ok (.getfield 34, 3) := by decide +kernel
theorem dX5_applyActs_7 : decode cX5_applyActs 7 = .ok (.if_icmp .ge 48, 3) := by decide +kernel
theorem dX5_applyActs_10 : decode cX5_applyActs 10 = .ok (.iload_n 2, 1) := by decide +kernel
theorem dX5_applyActs_11 : decode cX5_applyActs 11 = .ok (.iconst 4, 1) := by decide +kernel
theorem dX5_applyActs_12 : decode cX5_applyActs 12 = .ok (.if_icmp .ge 43, 3) := by decide +kernel
theorem dX5_applyActs_15 : decode cX5_applyActs 15 = .ok (.aload_n 1, 1) := by decide +kernel
theorem dX5_applyActs_16 : decode cX5_applyActs 16 = .ok (.getfield 40, 3) := by decide +kernel
theorem dX5_applyActs_19 : decode cX5_applyActs 19 = .ok (.iload_n 2, 1) := by decide +kernel
theorem dX5_applyActs_20 : decode cX5_applyActs 20 = .ok (.iaload, 1) := by decide +kernel
theorem dX5_applyActs_21 : decode cX5_applyActs 21 = .ok (.invokestatic 30, 3) := by decide +kernel
theorem dX5_applyActs_24 : decode cX5_applyActs 24 = .ok (.ifCond .eq 25, 3) := by decide +kernel
theorem dX5_applyActs_27 : decode cX5_applyActs 27 = .ok (.aload_n 0, 1) := by decide +kernel
theorem dX5_applyActs_28 : decode cX5_applyActs 28 = .ok (.aload_n 1, 1) := by decide +kernel
theorem dX5_applyActs_29 : decode cX5_applyActs 29 = .ok (.getfield 43, 3) := by decide +kernel
theorem dX5_applyActs_32 : decode cX5_applyActs 32 = .ok (.iload_n 2, 1) := by decide +kernel
theorem dX5_applyActs_33 : decode cX5_applyActs 33 = .ok (.iaload, 1) := by decide +kernel
theorem dX5_applyActs_34 : decode cX5_applyActs 34 = .ok (.aload_n 1, 1) := by decide +kernel
theorem dX5_applyActs_35 : decode cX5_applyActs 35 = .ok (.getfield 40, 3) := by decide +kernel
theorem dX5_applyActs_38 : decode cX5_applyActs 38 = .ok (.iload_n 2, 1) := by decide +kernel
theorem dX5_applyActs_39 : decode cX5_applyActs 39 = .ok (.iaload, 1) := by decide +kernel
theorem dX5_applyActs_40 : decode cX5_applyActs 40 = .ok (.aload_n 1, 1) := by decide +kernel
theorem dX5_applyActs_41 : decode cX5_applyActs 41 = .ok (.getfield 46, 3) := by decide +kernel
theorem dX5_applyActs_44 : decode cX5_applyActs 44 = .ok (.iload_n 2, 1) := by decide +kernel
theorem dX5_applyActs_45 : decode cX5_applyActs 45 = .ok (.iaload, 1) := by decide +kernel
theorem dX5_applyActs_46 : decode cX5_applyActs 46 = .ok (.invokevirtual 49, 3) := by decide +kernel
theorem dX5_applyActs_49 : decode cX5_applyActs 49 = .ok (.iinc 2 1, 3) := by decide +kernel
theorem dX5_applyActs_52 : decode cX5_applyActs 52 = .ok (.goto (-50), 3) := by decide +kernel
theorem dX5_applyActs_55 : decode cX5_applyActs 55 = .ok (.return_, 1) := by decide +kernel
theorem dX5_applyAct_0 : decode cX5_applyAct 0 = .ok (.iload_n 1, 1) := by decide +kernel
theorem dX5_applyAct_1 : decode cX5_applyAct 1 = .ok (.tableswitch 106 0 4 #[35, 52, 61, 71, 88], 35) := by decide +kernel
theorem dX5_applyAct_36 : decode cX5_applyAct 36 = .ok (.aload_n 0, 1) := by decide +kernel
theorem dX5_applyAct_37 : decode cX5_applyAct 37 = .ok (.iload_n 2, 1) := by decide +kernel
theorem dX5_applyAct_38 : decode cX5_applyAct 38 = .ok (.iload_n 3, 1) := by decide +kernel
theorem dX5_applyAct_39 : decode cX5_applyAct 39 = .ok (.iload_n 3, 1) := by decide +kernel
theorem dX5_applyAct_40 : decode cX5_applyAct 40 = .ok (.invokevirtual 22, 3) := by decide +kernel
theorem dX5_applyAct_43 : decode cX5_applyAct 43 = .ok (.aload_n 0, 1) := by decide +kernel
theorem dX5_applyAct_44 : decode cX5_applyAct 44 = .ok (.getfield 18, 3) := by decide +kernel
theorem dX5_applyAct_47 : decode cX5_applyAct 47 = .ok (.iload_n 2, 1) := by decide +kernel
theorem dX5_applyAct_48 : decode cX5_applyAct 48 = .ok (.iconst 0, 1) := by decide +kernel
theorem dX5_applyAct_49 : decode cX5_applyAct 49 = .ok (.bastore, 1) := by decide +kernel
theorem dX5_applyAct_50 : decode cX5_applyAct 50 = .ok (.goto 57, 3) := by decide +kernel
theorem dX5_applyAct_53 : decode cX5_applyAct 53 = .ok (.aload_n 0, 1) := by decide +kernel
theorem dX5_applyAct_54 : decode cX5_applyAct 54 = .ok (.iload_n 2, 1) := by decide +kernel
theorem dX5_applyAct_55 : decode cX5_applyAct 55 = .ok (.iload_n 3, 1) := by decide +kernel
theorem dX5_applyAct_56 : decode cX5_applyAct 56 = .ok (.invokevirtual 52, 3) := by decide +kernel
theorem dX5_applyAct_59 : decode cX5_applyAct 59 = .ok (.goto 48, 3) := by decide +kernel
theorem dX5_applyAct_62 : decode cX5_applyAct 62 = .ok (.aload_n 0, 1) := by decide +kernel
theorem dX5_applyAct_63 : decode cX5_applyAct 63 = .ok (.iload_n 2, 1) := by decide +kernel
theorem dX5_applyAct_64 : decode cX5_applyAct 64 = .ok (.iload_n 3, 1) := by decide +kernel
theorem dX5_applyAct_65 : decode cX5_applyAct 65 = .ok (.ineg, 1) := by decide +kernel
theorem dX5_applyAct_66 : decode cX5_applyAct 66 = .ok (.invokevirtual 52, 3) := by decide +kernel
theorem dX5_applyAct_69 : decode cX5_applyAct 69 = .ok (.goto 38, 3) := by decide +kernel
theorem dX5_applyAct_72 : decode cX5_applyAct 72 = .ok (.iload_n 3, 1) := by decide +kernel
theorem dX5_applyAct_73 : decode cX5_applyAct 73 = .ok (.invokestatic 30, 3) := by decide +kernel
theorem dX5_applyAct_76 : decode cX5_applyAct 76 = .ok (.ifCond .eq 31, 3) := by decide +kernel
theorem dX5_applyAct_79 : decode cX5_applyAct 79 = .ok (.aload_n 0, 1) := by decide +kernel
theorem dX5_applyAct_80 : decode cX5_applyAct 80 = .ok (.iload_n 2, 1) := by decide +kernel
theorem dX5_applyAct_81 : decode cX5_applyAct 81 = .ok (.aload_n 0, 1) := by decide +kernel
theorem dX5_applyAct_82 : decode cX5_applyAct 82 = .ok (.iload_n 3, 1) := by decide +kernel
theorem dX5_applyAct_83 : decode cX5_applyAct 83 = .ok (.invokevirtual 26, 3) := by decide +kernel
theorem dX5_applyAct_86 : decode cX5_applyAct 86 = .ok (.goto 21, 3) := by decide +kernel
theorem dX5_applyAct_89 : decode cX5_applyAct 89 = .ok (.aload_n 0, 1) := by decide +kernel
theorem dX5_applyAct_90 : decode cX5_applyAct 90 = .ok (.iload_n 2, 1) := by decide +kernel
theorem dX5_applyAct_91 : decode cX5_applyAct 91 = .ok (.iconst 0, 1) := by decide +kernel
theorem dX5_applyAct_92 : decode cX5_applyAct 92 = .ok (.bipush 50, 2) := by decide +kernel
theorem dX5_applyAct_94 : decode cX5_applyAct 94 = .ok (.invokevirtual 22, 3) := by decide +kernel
theorem dX5_applyAct_97 : decode cX5_applyAct 97 = .ok (.aload_n 0, 1) := by decide +kernel
theorem dX5_applyAct_98 : decode cX5_applyAct 98 = .ok (.getfield 18, 3) := by decide +kernel
theorem dX5_applyAct_101 : decode cX5_applyAct 101 = .ok (.iload_n 2, 1) := by decide +kernel
theorem dX5_applyAct_102 : decode cX5_applyAct 102 = .ok (.iconst 1, 1) := by decide +kernel
theorem dX5_applyAct_103 : decode cX5_applyAct 103 = .ok (.bastore, 1) := by decide +kernel
theorem dX5_applyAct_104 : decode cX5_applyAct 104 = .ok (.goto 3, 3) := by decide +kernel
theorem dX5_applyAct_107 : decode cX5_applyAct 107 = .ok (.return_, 1) := by decide +kernel
