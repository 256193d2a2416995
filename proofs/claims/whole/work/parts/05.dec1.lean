theorem d_Mk_pack_30 : decode b_Mk_pack 30 = .ok (.iconst 4, 1) := by decide +kernel
theorem d_Mk_pack_31 : decode b_Mk_pack 31 = .ok (.iadd, 1) := by decide +kernel
theorem d_Mk_pack_32 : decode b_Mk_pack 32 = .ok (.aload_n 0, 1) := by decide +kernel
theorem d_Mk_pack_33 : decode b_Mk_pack 33 = .ok (.getfield 19, 3) := by decide +kernel
theorem d_Mk_pack_36 : decode b_Mk_pack 36 = .ok (.iastore, 1) := by decide +kernel
theorem d_Mk_pack_37 : decode b_Mk_pack 37 = .ok (.aload_n 0, 1) := by decide +kernel
theorem d_Mk_pack_38 : decode b_Mk_pack 38 = .ok (.aload_n 1, 1) := by decide +kernel
theorem d_Mk_pack_39 : decode b_Mk_pack 39 = .ok (.iload_n 2, 1) := by decide +kernel
theorem d_Mk_pack_40 : decode b_Mk_pack 40 = .ok (.invokevirtual 36, 3) := by decide +kernel
theorem d_Mk_pack_43 : decode b_Mk_pack 43 = .ok (.aload_n 0, 1) := by decide +kernel
theorem d_Mk_pack_44 : decode b_Mk_pack 44 = .ok (.aload_n 1, 1) := by decide +kernel
theorem d_Mk_pack_45 : decode b_Mk_pack 45 = .ok (.iload_n 2, 1) := by decide +kernel
theorem d_Mk_pack_46 : decode b_Mk_pack 46 = .ok (.invokevirtual 40, 3) := by decide +kernel
theorem d_Mk_pack_49 : decode b_Mk_pack 49 = .ok (.aload_n 0, 1) := by decide +kernel
theorem d_Mk_pack_50 : decode b_Mk_pack 50 = .ok (.dup, 1) := by decide +kernel
theorem d_Mk_pack_51 : decode b_Mk_pack 51 = .ok (.getfield 19, 3) := by decide +kernel
theorem d_Mk_pack_54 : decode b_Mk_pack 54 = .ok (.iconst 1, 1) := by decide +kernel
theorem d_Mk_pack_55 : decode b_Mk_pack 55 = .ok (.iadd, 1) := by decide +kernel
theorem d_Mk_pack_56 : decode b_Mk_pack 56 = .ok (.putfield 19, 3) := by decide +kernel
theorem d_Mk_pack_59 : decode b_Mk_pack 59 = .ok (.return_, 1) := by decide +kernel
theorem d_Mk_putChains_0 : decode b_Mk_putChains 0 = .ok (.aload_n 1, 1) := by decide +kernel
theorem d_Mk_putChains_1 : decode b_Mk_putChains 1 = .ok (.iload_n 2, 1) := by decide +kernel
theorem d_Mk_putChains_2 : decode b_Mk_putChains 2 = .ok (.invokestatic 43, 3) := by decide +kernel
theorem d_Mk_putChains_5 : decode b_Mk_putChains 5 = .ok (.istore_n 3, 1) := by decide +kernel
theorem d_Mk_putChains_6 : decode b_Mk_putChains 6 = .ok (.iconst 0, 1) := by decide +kernel
theorem d_Mk_putChains_7 : decode b_Mk_putChains 7 = .ok (.istore 4, 2) := by decide +kernel
theorem d_Mk_putChains_9 : decode b_Mk_putChains 9 = .ok (.iload 4, 2) := by decide +kernel
theorem d_Mk_putChains_11 : decode b_Mk_putChains 11 = .ok (.bipush 6, 2) := by decide +kernel
theorem d_Mk_putChains_13 : decode b_Mk_putChains 13 = .ok (.if_icmp .ge (46), 3) := by decide +kernel
theorem d_Mk_putChains_16 : decode b_Mk_putChains 16 = .ok (.aload_n 0, 1) := by decide +kernel
theorem d_Mk_putChains_17 : decode b_Mk_putChains 17 = .ok (.getfield 7, 3) := by decide +kernel
theorem d_Mk_putChains_20 : decode b_Mk_putChains 20 = .ok (.aload_n 0, 1) := by decide +kernel
theorem d_Mk_putChains_21 : decode b_Mk_putChains 21 = .ok (.getfield 19, 3) := by decide +kernel
theorem d_Mk_putChains_24 : decode b_Mk_putChains 24 = .ok (.iload 4, 2) := by decide +kernel
theorem d_Mk_putChains_26 : decode b_Mk_putChains 26 = .ok (.invokestatic 47, 3) := by decide +kernel
theorem d_Mk_putChains_29 : decode b_Mk_putChains 29 = .ok (.istore 5, 2) := by decide +kernel
theorem d_Mk_putChains_31 : decode b_Mk_putChains 31 = .ok (.aload_n 1, 1) := by decide +kernel
theorem d_Mk_putChains_32 : decode b_Mk_putChains 32 = .ok (.iload_n 2, 1) := by decide +kernel
theorem d_Mk_putChains_33 : decode b_Mk_putChains 33 = .ok (.iconst 5, 1) := by decide +kernel
theorem d_Mk_putChains_34 : decode b_Mk_putChains 34 = .ok (.iadd, 1) := by decide +kernel
theorem d_Mk_putChains_35 : decode b_Mk_putChains 35 = .ok (.iload 4, 2) := by decide +kernel
theorem d_Mk_putChains_37 : decode b_Mk_putChains 37 = .ok (.iadd, 1) := by decide +kernel
theorem d_Mk_putChains_38 : decode b_Mk_putChains 38 = .ok (.iload 5, 2) := by decide +kernel
theorem d_Mk_putChains_40 : decode b_Mk_putChains 40 = .ok (.iload 4, 2) := by decide +kernel
theorem d_Mk_putChains_42 : decode b_Mk_putChains 42 = .ok (.iconst 0, 1) := by decide +kernel
theorem d_Mk_putChains_43 : decode b_Mk_putChains 43 = .ok (.iload_n 3, 1) := by decide +kernel
theorem d_Mk_putChains_44 : decode b_Mk_putChains 44 = .ok (.iload 4, 2) := by decide +kernel
theorem d_Mk_putChains_46 : decode b_Mk_putChains 46 = .ok (.invokestatic 50, 3) := by decide +kernel
theorem d_Mk_putChains_49 : decode b_Mk_putChains 49 = .ok (.invokestatic 53, 3) := by decide +kernel
theorem d_Mk_putChains_52 : decode b_Mk_putChains 52 = .ok (.iastore, 1) := by decide +kernel
theorem d_Mk_putChains_53 : decode b_Mk_putChains 53 = .ok (.iinc 4 (1), 3) := by decide +kernel
theorem d_Mk_putChains_56 : decode b_Mk_putChains 56 = .ok (.goto (-47), 3) := by decide +kernel
theorem d_Mk_putChains_59 : decode b_Mk_putChains 59 = .ok (.return_, 1) := by decide +kernel
theorem d_Mk_putPath_0 : decode b_Mk_putPath 0 = .ok (.bipush 8, 2) := by decide +kernel
theorem d_Mk_putPath_2 : decode b_Mk_putPath 2 = .ok (.aload_n 0, 1) := by decide +kernel
theorem d_Mk_putPath_3 : decode b_Mk_putPath 3 = .ok (.getfield 19, 3) := by decide +kernel
theorem d_Mk_putPath_6 : decode b_Mk_putPath 6 = .ok (.iadd, 1) := by decide +kernel
theorem d_Mk_putPath_7 : decode b_Mk_putPath 7 = .ok (.istore_n 3, 1) := by decide +kernel
theorem d_Mk_putPath_8 : decode b_Mk_putPath 8 = .ok (.iconst 0, 1) := by decide +kernel
theorem d_Mk_putPath_9 : decode b_Mk_putPath 9 = .ok (.istore 4, 2) := by decide +kernel
theorem d_Mk_putPath_11 : decode b_Mk_putPath 11 = .ok (.iload 4, 2) := by decide +kernel
theorem d_Mk_putPath_13 : decode b_Mk_putPath 13 = .ok (.iconst 3, 1) := by decide +kernel
theorem d_Mk_putPath_14 : decode b_Mk_putPath 14 = .ok (.if_icmp .ge (30), 3) := by decide +kernel
theorem d_Mk_putPath_17 : decode b_Mk_putPath 17 = .ok (.aload_n 1, 1) := by decide +kernel
theorem d_Mk_putPath_18 : decode b_Mk_putPath 18 = .ok (.iload_n 2, 1) := by decide +kernel
theorem d_Mk_putPath_19 : decode b_Mk_putPath 19 = .ok (.bipush 11, 2) := by decide +kernel
theorem d_Mk_putPath_21 : decode b_Mk_putPath 21 = .ok (.iadd, 1) := by decide +kernel
theorem d_Mk_putPath_22 : decode b_Mk_putPath 22 = .ok (.iload 4, 2) := by decide +kernel
theorem d_Mk_putPath_24 : decode b_Mk_putPath 24 = .ok (.iadd, 1) := by decide +kernel
theorem d_Mk_putPath_25 : decode b_Mk_putPath 25 = .ok (.aload_n 0, 1) := by decide +kernel
theorem d_Mk_putPath_26 : decode b_Mk_putPath 26 = .ok (.getfield 15, 3) := by decide +kernel
theorem d_Mk_putPath_29 : decode b_Mk_putPath 29 = .ok (.iload_n 3, 1) := by decide +kernel
theorem d_Mk_putPath_30 : decode b_Mk_putPath 30 = .ok (.iconst 1, 1) := by decide +kernel
theorem d_Mk_putPath_31 : decode b_Mk_putPath 31 = .ok (.ixor, 1) := by decide +kernel
theorem d_Mk_putPath_32 : decode b_Mk_putPath 32 = .ok (.iaload, 1) := by decide +kernel
theorem d_Mk_putPath_33 : decode b_Mk_putPath 33 = .ok (.iastore, 1) := by decide +kernel
theorem d_Mk_putPath_34 : decode b_Mk_putPath 34 = .ok (.iload_n 3, 1) := by decide +kernel
theorem d_Mk_putPath_35 : decode b_Mk_putPath 35 = .ok (.iconst 2, 1) := by decide +kernel
theorem d_Mk_putPath_36 : decode b_Mk_putPath 36 = .ok (.idiv, 1) := by decide +kernel
theorem d_Mk_putPath_37 : decode b_Mk_putPath 37 = .ok (.istore_n 3, 1) := by decide +kernel
theorem d_Mk_putPath_38 : decode b_Mk_putPath 38 = .ok (.iinc 4 (1), 3) := by decide +kernel
theorem d_Mk_putPath_41 : decode b_Mk_putPath 41 = .ok (.goto (-30), 3) := by decide +kernel
theorem d_Mk_putPath_44 : decode b_Mk_putPath 44 = .ok (.return_, 1) := by decide +kernel
theorem d_Mk_leaf_0 : decode b_Mk_leaf 0 = .ok (.iload_n 1, 1) := by decide +kernel
theorem d_Mk_leaf_1 : decode b_Mk_leaf 1 = .ok (.istore_n 2, 1) := by decide +kernel
theorem d_Mk_leaf_2 : decode b_Mk_leaf 2 = .ok (.iconst 0, 1) := by decide +kernel
theorem d_Mk_leaf_3 : decode b_Mk_leaf 3 = .ok (.istore_n 3, 1) := by decide +kernel
theorem d_Mk_leaf_4 : decode b_Mk_leaf 4 = .ok (.iload_n 3, 1) := by decide +kernel
theorem d_Mk_leaf_5 : decode b_Mk_leaf 5 = .ok (.bipush 6, 2) := by decide +kernel
theorem d_Mk_leaf_7 : decode b_Mk_leaf 7 = .ok (.if_icmp .ge (27), 3) := by decide +kernel
theorem d_Mk_leaf_10 : decode b_Mk_leaf 10 = .ok (.iload_n 2, 1) := by decide +kernel
theorem d_Mk_leaf_11 : decode b_Mk_leaf 11 = .ok (.iload_n 0, 1) := by decide +kernel
theorem d_Mk_leaf_12 : decode b_Mk_leaf 12 = .ok (.iload_n 1, 1) := by decide +kernel
theorem d_Mk_leaf_13 : decode b_Mk_leaf 13 = .ok (.iload_n 3, 1) := by decide +kernel
theorem d_Mk_leaf_14 : decode b_Mk_leaf 14 = .ok (.invokestatic 47, 3) := by decide +kernel
theorem d_Mk_leaf_17 : decode b_Mk_leaf 17 = .ok (.iload_n 3, 1) := by decide +kernel
theorem d_Mk_leaf_18 : decode b_Mk_leaf 18 = .ok (.iconst 0, 1) := by decide +kernel
theorem d_Mk_leaf_19 : decode b_Mk_leaf 19 = .ok (.bipush 15, 2) := by decide +kernel
theorem d_Mk_leaf_21 : decode b_Mk_leaf 21 = .ok (.invokestatic 53, 3) := by decide +kernel
theorem d_Mk_leaf_24 : decode b_Mk_leaf 24 = .ok (.invokestatic 57, 3) := by decide +kernel
theorem d_Mk_leaf_27 : decode b_Mk_leaf 27 = .ok (.istore_n 2, 1) := by decide +kernel
theorem d_Mk_leaf_28 : decode b_Mk_leaf 28 = .ok (.iinc 3 (1), 3) := by decide +kernel
theorem d_Mk_leaf_31 : decode b_Mk_leaf 31 = .ok (.goto (-27), 3) := by decide +kernel
theorem d_Mk_leaf_34 : decode b_Mk_leaf 34 = .ok (.iload_n 2, 1) := by decide +kernel
theorem d_Mk_leaf_35 : decode b_Mk_leaf 35 = .ok (.ireturn, 1) := by decide +kernel
theorem d_Mk_chainStart_0 : decode b_Mk_chainStart 0 = .ok (.iload_n 0, 1) := by decide +kernel
theorem d_Mk_chainStart_1 : decode b_Mk_chainStart 1 = .ok (.iload_n 1, 1) := by decide +kernel
theorem d_Mk_chainStart_2 : decode b_Mk_chainStart 2 = .ok (.invokestatic 57, 3) := by decide +kernel
theorem d_Mk_chainStart_5 : decode b_Mk_chainStart 5 = .ok (.iload_n 2, 1) := by decide +kernel
theorem d_Mk_chainStart_6 : decode b_Mk_chainStart 6 = .ok (.invokestatic 57, 3) := by decide +kernel
theorem d_Mk_chainStart_9 : decode b_Mk_chainStart 9 = .ok (.ireturn, 1) := by decide +kernel
theorem d_PW_isVersion_0 : decode b_PW_isVersion 0 = .ok (.iload_n 0, 1) := by decide +kernel
theorem d_PW_isVersion_1 : decode b_PW_isVersion 1 = .ok (.iconst 1, 1) := by decide +kernel
theorem d_PW_isVersion_2 : decode b_PW_isVersion 2 = .ok (.if_icmp .lt (13), 3) := by decide +kernel
theorem d_PW_isVersion_5 : decode b_PW_isVersion 5 = .ok (.iload_n 0, 1) := by decide +kernel
theorem d_PW_isVersion_6 : decode b_PW_isVersion 6 = .ok (.bipush 32, 2) := by decide +kernel
theorem d_PW_isVersion_8 : decode b_PW_isVersion 8 = .ok (.if_icmp .gt (7), 3) := by decide +kernel
theorem d_PW_isVersion_11 : decode b_PW_isVersion 11 = .ok (.iconst 1, 1) := by decide +kernel
theorem d_PW_isVersion_12 : decode b_PW_isVersion 12 = .ok (.goto (4), 3) := by decide +kernel
theorem d_PW_isVersion_15 : decode b_PW_isVersion 15 = .ok (.iconst 0, 1) := by decide +kernel
theorem d_PW_isVersion_16 : decode b_PW_isVersion 16 = .ok (.ireturn, 1) := by decide +kernel
theorem d_PW_putStage_0 : decode b_PW_putStage 0 = .ok (.aload_n 0, 1) := by decide +kernel
theorem d_PW_putStage_1 : decode b_PW_putStage 1 = .ok (.iload_n 1, 1) := by decide +kernel
theorem d_PW_putStage_2 : decode b_PW_putStage 2 = .ok (.iconst 1, 1) := by decide +kernel
theorem d_PW_putStage_3 : decode b_PW_putStage 3 = .ok (.iadd, 1) := by decide +kernel
theorem d_PW_putStage_4 : decode b_PW_putStage 4 = .ok (.iload_n 2, 1) := by decide +kernel
theorem d_PW_putStage_5 : decode b_PW_putStage 5 = .ok (.iadd, 1) := by decide +kernel
theorem d_PW_putStage_6 : decode b_PW_putStage 6 = .ok (.iload_n 3, 1) := by decide +kernel
theorem d_PW_putStage_7 : decode b_PW_putStage 7 = .ok (.iload_n 2, 1) := by decide +kernel
theorem d_PW_putStage_8 : decode b_PW_putStage 8 = .ok (.invokestatic 11, 3) := by decide +kernel
theorem d_PW_putStage_11 : decode b_PW_putStage 11 = .ok (.iastore, 1) := by decide +kernel
theorem d_PW_putStage_12 : decode b_PW_putStage 12 = .ok (.aload_n 0, 1) := by decide +kernel
theorem d_PW_putStage_13 : decode b_PW_putStage 13 = .ok (.iload_n 1, 1) := by decide +kernel
theorem d_PW_putStage_14 : decode b_PW_putStage 14 = .ok (.bipush 14, 2) := by decide +kernel
theorem d_PW_putStage_16 : decode b_PW_putStage 16 = .ok (.iadd, 1) := by decide +kernel
theorem d_PW_putStage_17 : decode b_PW_putStage 17 = .ok (.iload_n 2, 1) := by decide +kernel
theorem d_PW_putStage_18 : decode b_PW_putStage 18 = .ok (.iadd, 1) := by decide +kernel
theorem d_PW_putStage_19 : decode b_PW_putStage 19 = .ok (.iload_n 3, 1) := by decide +kernel
theorem d_PW_putStage_20 : decode b_PW_putStage 20 = .ok (.iastore, 1) := by decide +kernel
theorem d_PW_putStage_21 : decode b_PW_putStage 21 = .ok (.return_, 1) := by decide +kernel
theorem d_PW_isStageWhole_0 : decode b_PW_isStageWhole 0 = .ok (.aload_n 0, 1) := by decide +kernel
theorem d_PW_isStageWhole_1 : decode b_PW_isStageWhole 1 = .ok (.iload_n 1, 1) := by decide +kernel
theorem d_PW_isStageWhole_2 : decode b_PW_isStageWhole 2 = .ok (.iconst 1, 1) := by decide +kernel
theorem d_PW_isStageWhole_3 : decode b_PW_isStageWhole 3 = .ok (.iadd, 1) := by decide +kernel
theorem d_PW_isStageWhole_4 : decode b_PW_isStageWhole 4 = .ok (.iload_n 2, 1) := by decide +kernel
theorem d_PW_isStageWhole_5 : decode b_PW_isStageWhole 5 = .ok (.iadd, 1) := by decide +kernel
theorem d_PW_isStageWhole_6 : decode b_PW_isStageWhole 6 = .ok (.iaload, 1) := by decide +kernel
theorem d_PW_isStageWhole_7 : decode b_PW_isStageWhole 7 = .ok (.aload_n 0, 1) := by decide +kernel
theorem d_PW_isStageWhole_8 : decode b_PW_isStageWhole 8 = .ok (.iload_n 1, 1) := by decide +kernel
theorem d_PW_isStageWhole_9 : decode b_PW_isStageWhole 9 = .ok (.bipush 14, 2) := by decide +kernel
theorem d_PW_isStageWhole_11 : decode b_PW_isStageWhole 11 = .ok (.iadd, 1) := by decide +kernel
theorem d_PW_isStageWhole_12 : decode b_PW_isStageWhole 12 = .ok (.iload_n 2, 1) := by decide +kernel
theorem d_PW_isStageWhole_13 : decode b_PW_isStageWhole 13 = .ok (.iadd, 1) := by decide +kernel
theorem d_PW_isStageWhole_14 : decode b_PW_isStageWhole 14 = .ok (.iaload, 1) := by decide +kernel
theorem d_PW_isStageWhole_15 : decode b_PW_isStageWhole 15 = .ok (.iload_n 2, 1) := by decide +kernel
theorem d_PW_isStageWhole_16 : decode b_PW_isStageWhole 16 = .ok (.invokestatic 11, 3) := by decide +kernel
theorem d_PW_isStageWhole_19 : decode b_PW_isStageWhole 19 = .ok (.if_icmp .ne (7), 3) := by decide +kernel
theorem d_PW_isStageWhole_22 : decode b_PW_isStageWhole 22 = .ok (.iconst 1, 1) := by decide +kernel
theorem d_PW_isStageWhole_23 : decode b_PW_isStageWhole 23 = .ok (.goto (4), 3) := by decide +kernel
theorem d_PW_isStageWhole_26 : decode b_PW_isStageWhole 26 = .ok (.iconst 0, 1) := by decide +kernel
theorem d_PW_isStageWhole_27 : decode b_PW_isStageWhole 27 = .ok (.ireturn, 1) := by decide +kernel
theorem d_PW_whatIsWrong_0 : decode b_PW_whatIsWrong 0 = .ok (.aload_n 0, 1) := by decide +kernel
theorem d_PW_whatIsWrong_1 : decode b_PW_whatIsWrong 1 = .ok (.iload_n 1, 1) := by decide +kernel
theorem d_PW_whatIsWrong_2 : decode b_PW_whatIsWrong 2 = .ok (.iaload, 1) := by decide +kernel
theorem d_PW_whatIsWrong_3 : decode b_PW_whatIsWrong 3 = .ok (.invokestatic 15, 3) := by decide +kernel
theorem d_PW_whatIsWrong_6 : decode b_PW_whatIsWrong 6 = .ok (.ifCond .ne (5), 3) := by decide +kernel
theorem d_PW_whatIsWrong_9 : decode b_PW_whatIsWrong 9 = .ok (.iconst 1, 1) := by decide +kernel
theorem d_PW_whatIsWrong_10 : decode b_PW_whatIsWrong 10 = .ok (.ireturn, 1) := by decide +kernel
theorem d_PW_whatIsWrong_11 : decode b_PW_whatIsWrong 11 = .ok (.aload_n 0, 1) := by decide +kernel
theorem d_PW_whatIsWrong_12 : decode b_PW_whatIsWrong 12 = .ok (.iload_n 1, 1) := by decide +kernel
theorem d_PW_whatIsWrong_13 : decode b_PW_whatIsWrong 13 = .ok (.iload_n 2, 1) := by decide +kernel
theorem d_PW_whatIsWrong_14 : decode b_PW_whatIsWrong 14 = .ok (.invokestatic 19, 3) := by decide +kernel
theorem d_PW_whatIsWrong_17 : decode b_PW_whatIsWrong 17 = .ok (.ifCond .ne (5), 3) := by decide +kernel
theorem d_PW_whatIsWrong_20 : decode b_PW_whatIsWrong 20 = .ok (.iconst 2, 1) := by decide +kernel
theorem d_PW_whatIsWrong_21 : decode b_PW_whatIsWrong 21 = .ok (.ireturn, 1) := by decide +kernel
theorem d_PW_whatIsWrong_22 : decode b_PW_whatIsWrong 22 = .ok (.iconst 0, 1) := by decide +kernel
theorem d_PW_whatIsWrong_23 : decode b_PW_whatIsWrong 23 = .ok (.istore_n 3, 1) := by decide +kernel
theorem d_PW_whatIsWrong_24 : decode b_PW_whatIsWrong 24 = .ok (.iload_n 3, 1) := by decide +kernel
theorem d_PW_whatIsWrong_25 : decode b_PW_whatIsWrong 25 = .ok (.iconst 3, 1) := by decide +kernel
theorem d_PW_whatIsWrong_26 : decode b_PW_whatIsWrong 26 = .ok (.if_icmp .ge (22), 3) := by decide +kernel
theorem d_PW_whatIsWrong_29 : decode b_PW_whatIsWrong 29 = .ok (.aload_n 0, 1) := by decide +kernel
theorem d_PW_whatIsWrong_30 : decode b_PW_whatIsWrong 30 = .ok (.iload_n 1, 1) := by decide +kernel
theorem d_PW_whatIsWrong_31 : decode b_PW_whatIsWrong 31 = .ok (.iload_n 3, 1) := by decide +kernel
theorem d_PW_whatIsWrong_32 : decode b_PW_whatIsWrong 32 = .ok (.invokestatic 25, 3) := by decide +kernel
theorem d_PW_whatIsWrong_35 : decode b_PW_whatIsWrong 35 = .ok (.ifCond .ne (7), 3) := by decide +kernel
theorem d_PW_whatIsWrong_38 : decode b_PW_whatIsWrong 38 = .ok (.iconst 3, 1) := by decide +kernel
theorem d_PW_whatIsWrong_39 : decode b_PW_whatIsWrong 39 = .ok (.iload_n 3, 1) := by decide +kernel
theorem d_PW_whatIsWrong_40 : decode b_PW_whatIsWrong 40 = .ok (.iadd, 1) := by decide +kernel
theorem d_PW_whatIsWrong_41 : decode b_PW_whatIsWrong 41 = .ok (.ireturn, 1) := by decide +kernel
theorem d_PW_whatIsWrong_42 : decode b_PW_whatIsWrong 42 = .ok (.iinc 3 (1), 3) := by decide +kernel
theorem d_PW_whatIsWrong_45 : decode b_PW_whatIsWrong 45 = .ok (.goto (-21), 3) := by decide +kernel
theorem d_PW_whatIsWrong_48 : decode b_PW_whatIsWrong 48 = .ok (.iconst 0, 1) := by decide +kernel
theorem d_PW_whatIsWrong_49 : decode b_PW_whatIsWrong 49 = .ok (.ireturn, 1) := by decide +kernel
theorem d_PW_digest_0 : decode b_PW_digest 0 = .ok (.iload_n 0, 1) := by decide +kernel
theorem d_PW_digest_1 : decode b_PW_digest 1 = .ok (.iload_n 1, 1) := by decide +kernel
theorem d_PW_digest_2 : decode b_PW_digest 2 = .ok (.invokestatic 28, 3) := by decide +kernel
theorem d_PW_digest_5 : decode b_PW_digest 5 = .ok (.ireturn, 1) := by decide +kernel
theorem d_Sg_walk_0 : decode b_Sg_walk 0 = .ok (.iload_n 0, 1) := by decide +kernel
theorem d_Sg_walk_1 : decode b_Sg_walk 1 = .ok (.istore 4, 2) := by decide +kernel
theorem d_Sg_walk_3 : decode b_Sg_walk 3 = .ok (.iload_n 2, 1) := by decide +kernel
theorem d_Sg_walk_4 : decode b_Sg_walk 4 = .ok (.istore 5, 2) := by decide +kernel
theorem d_Sg_walk_6 : decode b_Sg_walk 6 = .ok (.iload 5, 2) := by decide +kernel
theorem d_Sg_walk_8 : decode b_Sg_walk 8 = .ok (.iload_n 3, 1) := by decide +kernel
theorem d_Sg_walk_9 : decode b_Sg_walk 9 = .ok (.if_icmp .ge (23), 3) := by decide +kernel
theorem d_Sg_walk_12 : decode b_Sg_walk 12 = .ok (.iload 4, 2) := by decide +kernel
theorem d_Sg_walk_14 : decode b_Sg_walk 14 = .ok (.bipush 16, 2) := by decide +kernel
theorem d_Sg_walk_16 : decode b_Sg_walk 16 = .ok (.iload_n 1, 1) := by decide +kernel
theorem d_Sg_walk_17 : decode b_Sg_walk 17 = .ok (.imul, 1) := by decide +kernel
theorem d_Sg_walk_18 : decode b_Sg_walk 18 = .ok (.iload 5, 2) := by decide +kernel
theorem d_Sg_walk_20 : decode b_Sg_walk 20 = .ok (.iadd, 1) := by decide +kernel
theorem d_Sg_walk_21 : decode b_Sg_walk 21 = .ok (.invokestatic 7, 3) := by decide +kernel
theorem d_Sg_walk_24 : decode b_Sg_walk 24 = .ok (.istore 4, 2) := by decide +kernel
theorem d_Sg_walk_26 : decode b_Sg_walk 26 = .ok (.iinc 5 (1), 3) := by decide +kernel
theorem d_Sg_walk_29 : decode b_Sg_walk 29 = .ok (.goto (-23), 3) := by decide +kernel
theorem d_Sg_walk_32 : decode b_Sg_walk 32 = .ok (.iload 4, 2) := by decide +kernel
theorem d_Sg_walk_34 : decode b_Sg_walk 34 = .ok (.ireturn, 1) := by decide +kernel
theorem d_Sg_message_0 : decode b_Sg_message 0 = .ok (.bipush 17, 2) := by decide +kernel
theorem d_Sg_message_2 : decode b_Sg_message 2 = .ok (.istore_n 2, 1) := by decide +kernel
theorem d_Sg_message_3 : decode b_Sg_message 3 = .ok (.iconst 0, 1) := by decide +kernel
theorem d_Sg_message_4 : decode b_Sg_message 4 = .ok (.istore_n 3, 1) := by decide +kernel
theorem d_Sg_message_5 : decode b_Sg_message 5 = .ok (.iload_n 3, 1) := by decide +kernel
theorem d_Sg_message_6 : decode b_Sg_message 6 = .ok (.iconst 4, 1) := by decide +kernel
theorem d_Sg_message_7 : decode b_Sg_message 7 = .ok (.if_icmp .ge (19), 3) := by decide +kernel
theorem d_Sg_message_10 : decode b_Sg_message 10 = .ok (.iload_n 2, 1) := by decide +kernel
theorem d_Sg_message_11 : decode b_Sg_message 11 = .ok (.aload_n 0, 1) := by decide +kernel
theorem d_Sg_message_12 : decode b_Sg_message 12 = .ok (.iload_n 1, 1) := by decide +kernel
theorem d_Sg_message_13 : decode b_Sg_message 13 = .ok (.iload_n 3, 1) := by decide +kernel
theorem d_Sg_message_14 : decode b_Sg_message 14 = .ok (.iadd, 1) := by decide +kernel
theorem d_Sg_message_15 : decode b_Sg_message 15 = .ok (.iaload, 1) := by decide +kernel
theorem d_Sg_message_16 : decode b_Sg_message 16 = .ok (.invokestatic 7, 3) := by decide +kernel
theorem d_Sg_message_19 : decode b_Sg_message 19 = .ok (.istore_n 2, 1) := by decide +kernel
theorem d_Sg_message_20 : decode b_Sg_message 20 = .ok (.iinc 3 (1), 3) := by decide +kernel
theorem d_Sg_message_23 : decode b_Sg_message 23 = .ok (.goto (-18), 3) := by decide +kernel
theorem d_Sg_message_26 : decode b_Sg_message 26 = .ok (.iload_n 2, 1) := by decide +kernel
theorem d_Sg_message_27 : decode b_Sg_message 27 = .ok (.ireturn, 1) := by decide +kernel
theorem d_Sg_digit_0 : decode b_Sg_digit 0 = .ok (.iload_n 1, 1) := by decide +kernel
theorem d_Sg_digit_1 : decode b_Sg_digit 1 = .ok (.iconst 4, 1) := by decide +kernel
theorem d_Sg_digit_2 : decode b_Sg_digit 2 = .ok (.if_icmp .ge (12), 3) := by decide +kernel
theorem d_Sg_digit_5 : decode b_Sg_digit 5 = .ok (.iload_n 0, 1) := by decide +kernel
theorem d_Sg_digit_6 : decode b_Sg_digit 6 = .ok (.iconst 4, 1) := by decide +kernel
theorem d_Sg_digit_7 : decode b_Sg_digit 7 = .ok (.iload_n 1, 1) := by decide +kernel
theorem d_Sg_digit_8 : decode b_Sg_digit 8 = .ok (.imul, 1) := by decide +kernel
theorem d_Sg_digit_9 : decode b_Sg_digit 9 = .ok (.iushr, 1) := by decide +kernel
theorem d_Sg_digit_10 : decode b_Sg_digit 10 = .ok (.bipush 15, 2) := by decide +kernel
theorem d_Sg_digit_12 : decode b_Sg_digit 12 = .ok (.iand, 1) := by decide +kernel
theorem d_Sg_digit_13 : decode b_Sg_digit 13 = .ok (.ireturn, 1) := by decide +kernel
theorem d_Sg_digit_14 : decode b_Sg_digit 14 = .ok (.bipush 60, 2) := by decide +kernel
theorem d_Sg_digit_16 : decode b_Sg_digit 16 = .ok (.istore_n 2, 1) := by decide +kernel
theorem d_Sg_digit_17 : decode b_Sg_digit 17 = .ok (.iconst 0, 1) := by decide +kernel
theorem d_Sg_digit_18 : decode b_Sg_digit 18 = .ok (.istore_n 3, 1) := by decide +kernel
theorem d_Sg_digit_19 : decode b_Sg_digit 19 = .ok (.iload_n 3, 1) := by decide +kernel
theorem d_Sg_digit_20 : decode b_Sg_digit 20 = .ok (.iconst 4, 1) := by decide +kernel
theorem d_Sg_digit_21 : decode b_Sg_digit 21 = .ok (.if_icmp .ge (20), 3) := by decide +kernel
theorem d_Sg_digit_24 : decode b_Sg_digit 24 = .ok (.iload_n 2, 1) := by decide +kernel
theorem d_Sg_digit_25 : decode b_Sg_digit 25 = .ok (.iload_n 0, 1) := by decide +kernel
theorem d_Sg_digit_26 : decode b_Sg_digit 26 = .ok (.iconst 4, 1) := by decide +kernel
theorem d_Sg_digit_27 : decode b_Sg_digit 27 = .ok (.iload_n 3, 1) := by decide +kernel
theorem d_Sg_digit_28 : decode b_Sg_digit 28 = .ok (.imul, 1) := by decide +kernel
theorem d_Sg_digit_29 : decode b_Sg_digit 29 = .ok (.iushr, 1) := by decide +kernel
theorem d_Sg_digit_30 : decode b_Sg_digit 30 = .ok (.bipush 15, 2) := by decide +kernel
theorem d_Sg_digit_32 : decode b_Sg_digit 32 = .ok (.iand, 1) := by decide +kernel
theorem d_Sg_digit_33 : decode b_Sg_digit 33 = .ok (.isub, 1) := by decide +kernel
theorem d_Sg_digit_34 : decode b_Sg_digit 34 = .ok (.istore_n 2, 1) := by decide +kernel
theorem d_Sg_digit_35 : decode b_Sg_digit 35 = .ok (.iinc 3 (1), 3) := by decide +kernel
theorem d_Sg_digit_38 : decode b_Sg_digit 38 = .ok (.goto (-19), 3) := by decide +kernel
theorem d_Sg_digit_41 : decode b_Sg_digit 41 = .ok (.iload_n 1, 1) := by decide +kernel
theorem d_Sg_digit_42 : decode b_Sg_digit 42 = .ok (.iconst 4, 1) := by decide +kernel
theorem d_Sg_digit_43 : decode b_Sg_digit 43 = .ok (.if_icmp .ne (10), 3) := by decide +kernel
theorem d_Sg_digit_46 : decode b_Sg_digit 46 = .ok (.iload_n 2, 1) := by decide +kernel
theorem d_Sg_digit_47 : decode b_Sg_digit 47 = .ok (.bipush 15, 2) := by decide +kernel
theorem d_Sg_digit_49 : decode b_Sg_digit 49 = .ok (.iand, 1) := by decide +kernel
theorem d_Sg_digit_50 : decode b_Sg_digit 50 = .ok (.goto (6), 3) := by decide +kernel
theorem d_Sg_digit_53 : decode b_Sg_digit 53 = .ok (.iload_n 2, 1) := by decide +kernel
theorem d_Sg_digit_54 : decode b_Sg_digit 54 = .ok (.iconst 4, 1) := by decide +kernel
theorem d_Sg_digit_55 : decode b_Sg_digit 55 = .ok (.iushr, 1) := by decide +kernel
theorem d_Sg_digit_56 : decode b_Sg_digit 56 = .ok (.ireturn, 1) := by decide +kernel
theorem d_Sg_above_0 : decode b_Sg_above 0 = .ok (.iload_n 0, 1) := by decide +kernel
theorem d_Sg_above_1 : decode b_Sg_above 1 = .ok (.iload_n 1, 1) := by decide +kernel
theorem d_Sg_above_2 : decode b_Sg_above 2 = .ok (.invokestatic 7, 3) := by decide +kernel
theorem d_Sg_above_5 : decode b_Sg_above 5 = .ok (.iload_n 2, 1) := by decide +kernel
theorem d_Sg_above_6 : decode b_Sg_above 6 = .ok (.invokestatic 7, 3) := by decide +kernel
theorem d_Sg_above_9 : decode b_Sg_above 9 = .ok (.ireturn, 1) := by decide +kernel
theorem d_Sg_isSigned_0 : decode b_Sg_isSigned 0 = .ok (.aload_n 0, 1) := by decide +kernel
theorem d_Sg_isSigned_1 : decode b_Sg_isSigned 1 = .ok (.iload_n 1, 1) := by decide +kernel
theorem d_Sg_isSigned_2 : decode b_Sg_isSigned 2 = .ok (.iconst 4, 1) := by decide +kernel
theorem d_Sg_isSigned_3 : decode b_Sg_isSigned 3 = .ok (.iadd, 1) := by decide +kernel
theorem d_Sg_isSigned_4 : decode b_Sg_isSigned 4 = .ok (.iaload, 1) := by decide +kernel
theorem d_Sg_isSigned_5 : decode b_Sg_isSigned 5 = .ok (.istore_n 3, 1) := by decide +kernel
theorem d_Sg_isSigned_6 : decode b_Sg_isSigned 6 = .ok (.iload_n 3, 1) := by decide +kernel
theorem d_Sg_isSigned_7 : decode b_Sg_isSigned 7 = .ok (.ifCond .lt (28), 3) := by decide +kernel
theorem d_Sg_isSigned_10 : decode b_Sg_isSigned 10 = .ok (.iload_n 3, 1) := by decide +kernel
theorem d_Sg_isSigned_11 : decode b_Sg_isSigned 11 = .ok (.bipush 8, 2) := by decide +kernel
theorem d_Sg_isSigned_13 : decode b_Sg_isSigned 13 = .ok (.if_icmp .ge (22), 3) := by decide +kernel
theorem d_Sg_isSigned_16 : decode b_Sg_isSigned 16 = .ok (.aload_n 0, 1) := by decide +kernel
theorem d_Sg_isSigned_17 : decode b_Sg_isSigned 17 = .ok (.iload_n 1, 1) := by decide +kernel
theorem d_Sg_isSigned_18 : decode b_Sg_isSigned 18 = .ok (.aload_n 0, 1) := by decide +kernel
theorem d_Sg_isSigned_19 : decode b_Sg_isSigned 19 = .ok (.iload_n 1, 1) := by decide +kernel
theorem d_Sg_isSigned_20 : decode b_Sg_isSigned 20 = .ok (.iload_n 3, 1) := by decide +kernel
theorem d_Sg_isSigned_21 : decode b_Sg_isSigned 21 = .ok (.invokestatic 17, 3) := by decide +kernel
theorem d_Sg_isSigned_24 : decode b_Sg_isSigned 24 = .ok (.invokestatic 21, 3) := by decide +kernel
theorem d_Sg_isSigned_27 : decode b_Sg_isSigned 27 = .ok (.iload_n 2, 1) := by decide +kernel
theorem d_Sg_isSigned_28 : decode b_Sg_isSigned 28 = .ok (.if_icmp .ne (7), 3) := by decide +kernel
theorem d_Sg_isSigned_31 : decode b_Sg_isSigned 31 = .ok (.iconst 1, 1) := by decide +kernel
theorem d_Sg_isSigned_32 : decode b_Sg_isSigned 32 = .ok (.goto (4), 3) := by decide +kernel
theorem d_Sg_isSigned_35 : decode b_Sg_isSigned 35 = .ok (.iconst 0, 1) := by decide +kernel
theorem d_Sg_isSigned_36 : decode b_Sg_isSigned 36 = .ok (.ireturn, 1) := by decide +kernel
theorem d_Sg_top_0 : decode b_Sg_top 0 = .ok (.bipush 8, 2) := by decide +kernel
theorem d_Sg_top_2 : decode b_Sg_top 2 = .ok (.aload_n 0, 1) := by decide +kernel
theorem d_Sg_top_3 : decode b_Sg_top 3 = .ok (.iload_n 1, 1) := by decide +kernel
theorem d_Sg_top_4 : decode b_Sg_top 4 = .ok (.iconst 4, 1) := by decide +kernel
theorem d_Sg_top_5 : decode b_Sg_top 5 = .ok (.iadd, 1) := by decide +kernel
theorem d_Sg_top_6 : decode b_Sg_top 6 = .ok (.iaload, 1) := by decide +kernel
theorem d_Sg_top_7 : decode b_Sg_top 7 = .ok (.iadd, 1) := by decide +kernel
theorem d_Sg_top_8 : decode b_Sg_top 8 = .ok (.istore_n 3, 1) := by decide +kernel
theorem d_Sg_top_9 : decode b_Sg_top 9 = .ok (.iload_n 2, 1) := by decide +kernel
theorem d_Sg_top_10 : decode b_Sg_top 10 = .ok (.istore 4, 2) := by decide +kernel
theorem d_Sg_top_12 : decode b_Sg_top 12 = .ok (.iconst 0, 1) := by decide +kernel
theorem d_Sg_top_13 : decode b_Sg_top 13 = .ok (.istore 5, 2) := by decide +kernel
theorem d_Sg_top_15 : decode b_Sg_top 15 = .ok (.iload 5, 2) := by decide +kernel
theorem d_Sg_top_17 : decode b_Sg_top 17 = .ok (.iconst 3, 1) := by decide +kernel
theorem d_Sg_top_18 : decode b_Sg_top 18 = .ok (.if_icmp .ge (63), 3) := by decide +kernel
theorem d_Sg_top_21 : decode b_Sg_top 21 = .ok (.aload_n 0, 1) := by decide +kernel
theorem d_Sg_top_22 : decode b_Sg_top 22 = .ok (.iload_n 1, 1) := by decide +kernel
theorem d_Sg_top_23 : decode b_Sg_top 23 = .ok (.bipush 11, 2) := by decide +kernel
theorem d_Sg_top_25 : decode b_Sg_top 25 = .ok (.iadd, 1) := by decide +kernel
theorem d_Sg_top_26 : decode b_Sg_top 26 = .ok (.iload 5, 2) := by decide +kernel
theorem d_Sg_top_28 : decode b_Sg_top 28 = .ok (.iadd, 1) := by decide +kernel
theorem d_Sg_top_29 : decode b_Sg_top 29 = .ok (.iaload, 1) := by decide +kernel
theorem d_Sg_top_30 : decode b_Sg_top 30 = .ok (.istore 6, 2) := by decide +kernel
theorem d_Sg_top_32 : decode b_Sg_top 32 = .ok (.iload_n 3, 1) := by decide +kernel
theorem d_Sg_top_33 : decode b_Sg_top 33 = .ok (.iconst 2, 1) := by decide +kernel
theorem d_Sg_top_34 : decode b_Sg_top 34 = .ok (.irem, 1) := by decide +kernel
theorem d_Sg_top_35 : decode b_Sg_top 35 = .ok (.ifCond .ne (7), 3) := by decide +kernel
theorem d_Sg_top_38 : decode b_Sg_top 38 = .ok (.iconst 1, 1) := by decide +kernel
theorem d_Sg_top_39 : decode b_Sg_top 39 = .ok (.goto (4), 3) := by decide +kernel
theorem d_Sg_top_42 : decode b_Sg_top 42 = .ok (.iconst 0, 1) := by decide +kernel
theorem d_Sg_top_43 : decode b_Sg_top 43 = .ok (.istore 7, 2) := by decide +kernel
theorem d_Sg_top_45 : decode b_Sg_top 45 = .ok (.iload_n 3, 1) := by decide +kernel
theorem d_Sg_top_46 : decode b_Sg_top 46 = .ok (.iconst 2, 1) := by decide +kernel
theorem d_Sg_top_47 : decode b_Sg_top 47 = .ok (.idiv, 1) := by decide +kernel
theorem d_Sg_top_48 : decode b_Sg_top 48 = .ok (.istore_n 3, 1) := by decide +kernel
theorem d_Sg_top_49 : decode b_Sg_top 49 = .ok (.iload 7, 2) := by decide +kernel
theorem d_Sg_top_51 : decode b_Sg_top 51 = .ok (.ifCond .eq (14), 3) := by decide +kernel
theorem d_Sg_top_54 : decode b_Sg_top 54 = .ok (.iload 4, 2) := by decide +kernel
theorem d_Sg_top_56 : decode b_Sg_top 56 = .ok (.iload 6, 2) := by decide +kernel
theorem d_Sg_top_58 : decode b_Sg_top 58 = .ok (.iload_n 3, 1) := by decide +kernel
theorem d_Sg_top_59 : decode b_Sg_top 59 = .ok (.invokestatic 24, 3) := by decide +kernel
theorem d_Sg_top_62 : decode b_Sg_top 62 = .ok (.goto (11), 3) := by decide +kernel
theorem d_Sg_top_65 : decode b_Sg_top 65 = .ok (.iload 6, 2) := by decide +kernel
theorem d_Sg_top_67 : decode b_Sg_top 67 = .ok (.iload 4, 2) := by decide +kernel
theorem d_Sg_top_69 : decode b_Sg_top 69 = .ok (.iload_n 3, 1) := by decide +kernel
theorem d_Sg_top_70 : decode b_Sg_top 70 = .ok (.invokestatic 24, 3) := by decide +kernel
theorem d_Sg_top_73 : decode b_Sg_top 73 = .ok (.istore 4, 2) := by decide +kernel
theorem d_Sg_top_75 : decode b_Sg_top 75 = .ok (.iinc 5 (1), 3) := by decide +kernel
theorem d_Sg_top_78 : decode b_Sg_top 78 = .ok (.goto (-63), 3) := by decide +kernel
theorem d_Sg_top_81 : decode b_Sg_top 81 = .ok (.iload 4, 2) := by decide +kernel
theorem d_Sg_top_83 : decode b_Sg_top 83 = .ok (.ireturn, 1) := by decide +kernel
theorem d_Sg_leaf_0 : decode b_Sg_leaf 0 = .ok (.aload_n 0, 1) := by decide +kernel
theorem d_Sg_leaf_1 : decode b_Sg_leaf 1 = .ok (.iload_n 1, 1) := by decide +kernel
theorem d_Sg_leaf_2 : decode b_Sg_leaf 2 = .ok (.invokestatic 28, 3) := by decide +kernel
theorem d_Sg_leaf_5 : decode b_Sg_leaf 5 = .ok (.istore_n 3, 1) := by decide +kernel
theorem d_Sg_leaf_6 : decode b_Sg_leaf 6 = .ok (.iload_n 2, 1) := by decide +kernel
theorem d_Sg_leaf_7 : decode b_Sg_leaf 7 = .ok (.istore 4, 2) := by decide +kernel
theorem d_Sg_leaf_9 : decode b_Sg_leaf 9 = .ok (.iconst 0, 1) := by decide +kernel
theorem d_Sg_leaf_10 : decode b_Sg_leaf 10 = .ok (.istore 5, 2) := by decide +kernel
theorem d_Sg_leaf_12 : decode b_Sg_leaf 12 = .ok (.iload 5, 2) := by decide +kernel
theorem d_Sg_leaf_14 : decode b_Sg_leaf 14 = .ok (.bipush 6, 2) := by decide +kernel
theorem d_Sg_leaf_16 : decode b_Sg_leaf 16 = .ok (.if_icmp .ge (37), 3) := by decide +kernel
theorem d_Sg_leaf_19 : decode b_Sg_leaf 19 = .ok (.iload 4, 2) := by decide +kernel
theorem d_Sg_leaf_21 : decode b_Sg_leaf 21 = .ok (.aload_n 0, 1) := by decide +kernel
theorem d_Sg_leaf_22 : decode b_Sg_leaf 22 = .ok (.iload_n 1, 1) := by decide +kernel
theorem d_Sg_leaf_23 : decode b_Sg_leaf 23 = .ok (.iconst 5, 1) := by decide +kernel
theorem d_Sg_leaf_24 : decode b_Sg_leaf 24 = .ok (.iadd, 1) := by decide +kernel
theorem d_Sg_leaf_25 : decode b_Sg_leaf 25 = .ok (.iload 5, 2) := by decide +kernel
theorem d_Sg_leaf_27 : decode b_Sg_leaf 27 = .ok (.iadd, 1) := by decide +kernel
theorem d_Sg_leaf_28 : decode b_Sg_leaf 28 = .ok (.iaload, 1) := by decide +kernel
theorem d_Sg_leaf_29 : decode b_Sg_leaf 29 = .ok (.iload 5, 2) := by decide +kernel
theorem d_Sg_leaf_31 : decode b_Sg_leaf 31 = .ok (.iload_n 3, 1) := by decide +kernel
theorem d_Sg_leaf_32 : decode b_Sg_leaf 32 = .ok (.iload 5, 2) := by decide +kernel
theorem d_Sg_leaf_34 : decode b_Sg_leaf 34 = .ok (.invokestatic 32, 3) := by decide +kernel
theorem d_Sg_leaf_37 : decode b_Sg_leaf 37 = .ok (.bipush 15, 2) := by decide +kernel
theorem d_Sg_leaf_39 : decode b_Sg_leaf 39 = .ok (.invokestatic 35, 3) := by decide +kernel
theorem d_Sg_leaf_42 : decode b_Sg_leaf 42 = .ok (.invokestatic 7, 3) := by decide +kernel
theorem d_Sg_leaf_45 : decode b_Sg_leaf 45 = .ok (.istore 4, 2) := by decide +kernel
theorem d_Sg_leaf_47 : decode b_Sg_leaf 47 = .ok (.iinc 5 (1), 3) := by decide +kernel
theorem d_Sg_leaf_50 : decode b_Sg_leaf 50 = .ok (.goto (-38), 3) := by decide +kernel
theorem d_Sg_leaf_53 : decode b_Sg_leaf 53 = .ok (.iload 4, 2) := by decide +kernel
theorem d_Sg_leaf_55 : decode b_Sg_leaf 55 = .ok (.ireturn, 1) := by decide +kernel
theorem d_Tb_homeIn_0 : decode b_Tb_homeIn 0 = .ok (.iload_n 0, 1) := by decide +kernel
theorem d_Tb_homeIn_1 : decode b_Tb_homeIn 1 = .ok (.iconst 1, 1) := by decide +kernel
theorem d_Tb_homeIn_2 : decode b_Tb_homeIn 2 = .ok (.iand, 1) := by decide +kernel
theorem d_Tb_homeIn_3 : decode b_Tb_homeIn 3 = .ok (.ireturn, 1) := by decide +kernel
theorem d_Tb_stateIn_0 : decode b_Tb_stateIn 0 = .ok (.iload_n 0, 1) := by decide +kernel
theorem d_Tb_stateIn_1 : decode b_Tb_stateIn 1 = .ok (.iload_n 1, 1) := by decide +kernel
theorem d_Tb_stateIn_2 : decode b_Tb_stateIn 2 = .ok (.invokestatic 9, 3) := by decide +kernel
theorem d_Tb_stateIn_5 : decode b_Tb_stateIn 5 = .ok (.iushr, 1) := by decide +kernel
theorem d_Tb_stateIn_6 : decode b_Tb_stateIn 6 = .ok (.iconst 3, 1) := by decide +kernel
theorem d_Tb_stateIn_7 : decode b_Tb_stateIn 7 = .ok (.iand, 1) := by decide +kernel
theorem d_Tb_stateIn_8 : decode b_Tb_stateIn 8 = .ok (.ireturn, 1) := by decide +kernel
theorem d_Tb_withHome_0 : decode b_Tb_withHome 0 = .ok (.iload_n 0, 1) := by decide +kernel
theorem d_Tb_withHome_1 : decode b_Tb_withHome 1 = .ok (.bipush (-2), 2) := by decide +kernel
theorem d_Tb_withHome_3 : decode b_Tb_withHome 3 = .ok (.iand, 1) := by decide +kernel
theorem d_Tb_withHome_4 : decode b_Tb_withHome 4 = .ok (.iload_n 1, 1) := by decide +kernel
theorem d_Tb_withHome_5 : decode b_Tb_withHome 5 = .ok (.ior, 1) := by decide +kernel
theorem d_Tb_withHome_6 : decode b_Tb_withHome 6 = .ok (.ireturn, 1) := by decide +kernel
theorem d_Tb_withState_0 : decode b_Tb_withState 0 = .ok (.iload_n 0, 1) := by decide +kernel
theorem d_Tb_withState_1 : decode b_Tb_withState 1 = .ok (.iconst 3, 1) := by decide +kernel
theorem d_Tb_withState_2 : decode b_Tb_withState 2 = .ok (.iload_n 1, 1) := by decide +kernel
theorem d_Tb_withState_3 : decode b_Tb_withState 3 = .ok (.invokestatic 9, 3) := by decide +kernel
theorem d_Tb_withState_6 : decode b_Tb_withState 6 = .ok (.ishl, 1) := by decide +kernel
theorem d_Tb_withState_7 : decode b_Tb_withState 7 = .ok (.iconst (-1), 1) := by decide +kernel
theorem d_Tb_withState_8 : decode b_Tb_withState 8 = .ok (.ixor, 1) := by decide +kernel
theorem d_Tb_withState_9 : decode b_Tb_withState 9 = .ok (.iand, 1) := by decide +kernel
theorem d_Tb_withState_10 : decode b_Tb_withState 10 = .ok (.iload_n 2, 1) := by decide +kernel
theorem d_Tb_withState_11 : decode b_Tb_withState 11 = .ok (.iload_n 1, 1) := by decide +kernel
theorem d_Tb_withState_12 : decode b_Tb_withState 12 = .ok (.invokestatic 9, 3) := by decide +kernel
theorem d_Tb_withState_15 : decode b_Tb_withState 15 = .ok (.ishl, 1) := by decide +kernel
theorem d_Tb_withState_16 : decode b_Tb_withState 16 = .ok (.ior, 1) := by decide +kernel
theorem d_Tb_withState_17 : decode b_Tb_withState 17 = .ok (.ireturn, 1) := by decide +kernel
theorem d_Tb_trialIn_0 : decode b_Tb_trialIn 0 = .ok (.iload_n 0, 1) := by decide +kernel
theorem d_Tb_trialIn_1 : decode b_Tb_trialIn 1 = .ok (.invokestatic 15, 3) := by decide +kernel
theorem d_Tb_trialIn_4 : decode b_Tb_trialIn 4 = .ok (.istore_n 1, 1) := by decide +kernel
theorem d_Tb_trialIn_5 : decode b_Tb_trialIn 5 = .ok (.iload_n 0, 1) := by decide +kernel
theorem d_Tb_trialIn_6 : decode b_Tb_trialIn 6 = .ok (.iconst 1, 1) := by decide +kernel
theorem d_Tb_trialIn_7 : decode b_Tb_trialIn 7 = .ok (.iload_n 1, 1) := by decide +kernel
theorem d_Tb_trialIn_8 : decode b_Tb_trialIn 8 = .ok (.isub, 1) := by decide +kernel
theorem d_Tb_trialIn_9 : decode b_Tb_trialIn 9 = .ok (.invokestatic 18, 3) := by decide +kernel
theorem d_Tb_trialIn_12 : decode b_Tb_trialIn 12 = .ok (.iconst 2, 1) := by decide +kernel
theorem d_Tb_trialIn_13 : decode b_Tb_trialIn 13 = .ok (.if_icmp .ne (7), 3) := by decide +kernel
theorem d_Tb_trialIn_16 : decode b_Tb_trialIn 16 = .ok (.iconst 1, 1) := by decide +kernel
theorem d_Tb_trialIn_17 : decode b_Tb_trialIn 17 = .ok (.iload_n 1, 1) := by decide +kernel
theorem d_Tb_trialIn_18 : decode b_Tb_trialIn 18 = .ok (.isub, 1) := by decide +kernel
theorem d_Tb_trialIn_19 : decode b_Tb_trialIn 19 = .ok (.ireturn, 1) := by decide +kernel
theorem d_Tb_trialIn_20 : decode b_Tb_trialIn 20 = .ok (.iload_n 0, 1) := by decide +kernel
theorem d_Tb_trialIn_21 : decode b_Tb_trialIn 21 = .ok (.iload_n 1, 1) := by decide +kernel
theorem d_Tb_trialIn_22 : decode b_Tb_trialIn 22 = .ok (.invokestatic 18, 3) := by decide +kernel
theorem d_Tb_trialIn_25 : decode b_Tb_trialIn 25 = .ok (.iconst 2, 1) := by decide +kernel
theorem d_Tb_trialIn_26 : decode b_Tb_trialIn 26 = .ok (.if_icmp .ne (7), 3) := by decide +kernel
theorem d_Tb_trialIn_29 : decode b_Tb_trialIn 29 = .ok (.iload_n 1, 1) := by decide +kernel
theorem d_Tb_trialIn_30 : decode b_Tb_trialIn 30 = .ok (.goto (4), 3) := by decide +kernel
theorem d_Tb_trialIn_33 : decode b_Tb_trialIn 33 = .ok (.iconst (-1), 1) := by decide +kernel
theorem d_Tb_trialIn_34 : decode b_Tb_trialIn 34 = .ok (.ireturn, 1) := by decide +kernel
theorem d_Tb_shift_0 : decode b_Tb_shift 0 = .ok (.iconst 1, 1) := by decide +kernel
theorem d_Tb_shift_1 : decode b_Tb_shift 1 = .ok (.iconst 2, 1) := by decide +kernel
theorem d_Tb_shift_2 : decode b_Tb_shift 2 = .ok (.iload_n 0, 1) := by decide +kernel
theorem d_Tb_shift_3 : decode b_Tb_shift 3 = .ok (.imul, 1) := by decide +kernel
theorem d_Tb_shift_4 : decode b_Tb_shift 4 = .ok (.iadd, 1) := by decide +kernel
theorem d_Tb_shift_5 : decode b_Tb_shift 5 = .ok (.ireturn, 1) := by decide +kernel
theorem d_St_init_0 : decode b_St_init 0 = .ok (.aload_n 0, 1) := by decide +kernel
theorem d_St_init_1 : decode b_St_init 1 = .ok (.invokespecial 3, 3) := by decide +kernel
theorem d_St_init_4 : decode b_St_init 4 = .ok (.aload_n 0, 1) := by decide +kernel
theorem d_St_init_5 : decode b_St_init 5 = .ok (.bipush 40, 2) := by decide +kernel
theorem d_St_init_7 : decode b_St_init 7 = .ok (.newarray .int, 2) := by decide +kernel
theorem d_St_init_9 : decode b_St_init 9 = .ok (.putfield 11, 3) := by decide +kernel
theorem d_St_init_12 : decode b_St_init 12 = .ok (.aload_n 1, 1) := by decide +kernel
theorem d_St_init_13 : decode b_St_init 13 = .ok (.iconst 0, 1) := by decide +kernel
theorem d_St_init_14 : decode b_St_init 14 = .ok (.aload_n 0, 1) := by decide +kernel
theorem d_St_init_15 : decode b_St_init 15 = .ok (.getfield 11, 3) := by decide +kernel
theorem d_St_init_18 : decode b_St_init 18 = .ok (.iconst 0, 1) := by decide +kernel
theorem d_St_init_19 : decode b_St_init 19 = .ok (.bipush 17, 2) := by decide +kernel
theorem d_St_init_21 : decode b_St_init 21 = .ok (.invokestatic 17, 3) := by decide +kernel
theorem d_St_init_24 : decode b_St_init 24 = .ok (.aload_n 0, 1) := by decide +kernel
theorem d_St_init_25 : decode b_St_init 25 = .ok (.getfield 11, 3) := by decide +kernel
theorem d_St_init_28 : decode b_St_init 28 = .ok (.bipush 34, 2) := by decide +kernel
theorem d_St_init_30 : decode b_St_init 30 = .ok (.iconst 1, 1) := by decide +kernel
theorem d_St_init_31 : decode b_St_init 31 = .ok (.iastore, 1) := by decide +kernel
theorem d_St_init_32 : decode b_St_init 32 = .ok (.aload_n 0, 1) := by decide +kernel
theorem d_St_init_33 : decode b_St_init 33 = .ok (.getfield 11, 3) := by decide +kernel
theorem d_St_init_36 : decode b_St_init 36 = .ok (.bipush 35, 2) := by decide +kernel
theorem d_St_init_38 : decode b_St_init 38 = .ok (.bipush 6, 2) := by decide +kernel
theorem d_St_init_40 : decode b_St_init 40 = .ok (.iastore, 1) := by decide +kernel
theorem d_St_init_41 : decode b_St_init 41 = .ok (.aload_n 0, 1) := by decide +kernel
theorem d_St_init_42 : decode b_St_init 42 = .ok (.getfield 11, 3) := by decide +kernel
theorem d_St_init_45 : decode b_St_init 45 = .ok (.bipush 36, 2) := by decide +kernel
theorem d_St_init_47 : decode b_St_init 47 = .ok (.iconst 1, 1) := by decide +kernel
theorem d_St_init_48 : decode b_St_init 48 = .ok (.bipush 6, 2) := by decide +kernel
theorem d_St_init_50 : decode b_St_init 50 = .ok (.invokestatic 23, 3) := by decide +kernel
theorem d_St_init_53 : decode b_St_init 53 = .ok (.iastore, 1) := by decide +kernel
theorem d_St_init_54 : decode b_St_init 54 = .ok (.aload_n 0, 1) := by decide +kernel
theorem d_St_init_55 : decode b_St_init 55 = .ok (.iconst 1, 1) := by decide +kernel
theorem d_St_init_56 : decode b_St_init 56 = .ok (.putfield 27, 3) := by decide +kernel
theorem d_St_init_59 : decode b_St_init 59 = .ok (.aload_n 0, 1) := by decide +kernel
theorem d_St_init_60 : decode b_St_init 60 = .ok (.iconst 0, 1) := by decide +kernel
theorem d_St_init_61 : decode b_St_init 61 = .ok (.putfield 31, 3) := by decide +kernel
theorem d_St_init_64 : decode b_St_init 64 = .ok (.aload_n 0, 1) := by decide +kernel
theorem d_St_init_65 : decode b_St_init 65 = .ok (.iconst (-1), 1) := by decide +kernel
theorem d_St_init_66 : decode b_St_init 66 = .ok (.putfield 34, 3) := by decide +kernel
theorem d_St_init_69 : decode b_St_init 69 = .ok (.return_, 1) := by decide +kernel
theorem d_St_isPlace_0 : decode b_St_isPlace 0 = .ok (.iload_n 0, 1) := by decide +kernel
theorem d_St_isPlace_1 : decode b_St_isPlace 1 = .ok (.ifCond .lt (13), 3) := by decide +kernel
theorem d_St_isPlace_4 : decode b_St_isPlace 4 = .ok (.iload_n 0, 1) := by decide +kernel
theorem d_St_isPlace_5 : decode b_St_isPlace 5 = .ok (.bipush 40, 2) := by decide +kernel
theorem d_St_isPlace_7 : decode b_St_isPlace 7 = .ok (.if_icmp .ge (7), 3) := by decide +kernel
theorem d_St_isPlace_10 : decode b_St_isPlace 10 = .ok (.iconst 1, 1) := by decide +kernel
theorem d_St_isPlace_11 : decode b_St_isPlace 11 = .ok (.goto (4), 3) := by decide +kernel
theorem d_St_isPlace_14 : decode b_St_isPlace 14 = .ok (.iconst 0, 1) := by decide +kernel
theorem d_St_isPlace_15 : decode b_St_isPlace 15 = .ok (.ireturn, 1) := by decide +kernel
theorem d_St_slotPlace_0 : decode b_St_slotPlace 0 = .ok (.iload_n 0, 1) := by decide +kernel
theorem d_St_slotPlace_1 : decode b_St_slotPlace 1 = .ok (.bipush 17, 2) := by decide +kernel
theorem d_St_slotPlace_3 : decode b_St_slotPlace 3 = .ok (.imul, 1) := by decide +kernel
theorem d_St_slotPlace_4 : decode b_St_slotPlace 4 = .ok (.ireturn, 1) := by decide +kernel
theorem d_St_versionIn_0 : decode b_St_versionIn 0 = .ok (.aload_n 0, 1) := by decide +kernel
theorem d_St_versionIn_1 : decode b_St_versionIn 1 = .ok (.getfield 11, 3) := by decide +kernel
theorem d_St_versionIn_4 : decode b_St_versionIn 4 = .ok (.iload_n 1, 1) := by decide +kernel
theorem d_St_versionIn_5 : decode b_St_versionIn 5 = .ok (.invokestatic 37, 3) := by decide +kernel
theorem d_St_versionIn_8 : decode b_St_versionIn 8 = .ok (.iaload, 1) := by decide +kernel
theorem d_St_versionIn_9 : decode b_St_versionIn 9 = .ok (.ireturn, 1) := by decide +kernel
theorem d_St_entry_0 : decode b_St_entry 0 = .ok (.aload_n 0, 1) := by decide +kernel
theorem d_St_entry_1 : decode b_St_entry 1 = .ok (.invokevirtual 41, 3) := by decide +kernel
theorem d_St_entry_4 : decode b_St_entry 4 = .ok (.istore_n 1, 1) := by decide +kernel
theorem d_St_entry_5 : decode b_St_entry 5 = .ok (.iload_n 1, 1) := by decide +kernel
theorem d_St_entry_6 : decode b_St_entry 6 = .ok (.iconst (-1), 1) := by decide +kernel
theorem d_St_entry_7 : decode b_St_entry 7 = .ok (.if_icmp .ne (7), 3) := by decide +kernel
theorem d_St_entry_10 : decode b_St_entry 10 = .ok (.iconst 0, 1) := by decide +kernel
theorem d_St_entry_11 : decode b_St_entry 11 = .ok (.goto (14), 3) := by decide +kernel
theorem d_St_entry_14 : decode b_St_entry 14 = .ok (.aload_n 0, 1) := by decide +kernel
theorem d_St_entry_15 : decode b_St_entry 15 = .ok (.getfield 11, 3) := by decide +kernel
theorem d_St_entry_18 : decode b_St_entry 18 = .ok (.iload_n 1, 1) := by decide +kernel
theorem d_St_entry_19 : decode b_St_entry 19 = .ok (.invokestatic 45, 3) := by decide +kernel
theorem d_St_entry_22 : decode b_St_entry 22 = .ok (.iconst 1, 1) := by decide +kernel
theorem d_St_entry_23 : decode b_St_entry 23 = .ok (.iadd, 1) := by decide +kernel
theorem d_St_entry_24 : decode b_St_entry 24 = .ok (.iaload, 1) := by decide +kernel
theorem d_St_entry_25 : decode b_St_entry 25 = .ok (.ireturn, 1) := by decide +kernel
theorem d_St_writeTable_0 : decode b_St_writeTable 0 = .ok (.aload_n 0, 1) := by decide +kernel
theorem d_St_writeTable_1 : decode b_St_writeTable 1 = .ok (.invokevirtual 41, 3) := by decide +kernel
theorem d_St_writeTable_4 : decode b_St_writeTable 4 = .ok (.istore_n 2, 1) := by decide +kernel
theorem d_St_writeTable_5 : decode b_St_writeTable 5 = .ok (.iload_n 2, 1) := by decide +kernel
theorem d_St_writeTable_6 : decode b_St_writeTable 6 = .ok (.iconst (-1), 1) := by decide +kernel
theorem d_St_writeTable_7 : decode b_St_writeTable 7 = .ok (.if_icmp .ne (7), 3) := by decide +kernel
theorem d_St_writeTable_10 : decode b_St_writeTable 10 = .ok (.iconst 1, 1) := by decide +kernel
theorem d_St_writeTable_11 : decode b_St_writeTable 11 = .ok (.goto (14), 3) := by decide +kernel
theorem d_St_writeTable_14 : decode b_St_writeTable 14 = .ok (.aload_n 0, 1) := by decide +kernel
theorem d_St_writeTable_15 : decode b_St_writeTable 15 = .ok (.getfield 11, 3) := by decide +kernel
theorem d_St_writeTable_18 : decode b_St_writeTable 18 = .ok (.iload_n 2, 1) := by decide +kernel
theorem d_St_writeTable_19 : decode b_St_writeTable 19 = .ok (.invokestatic 45, 3) := by decide +kernel
theorem d_St_writeTable_22 : decode b_St_writeTable 22 = .ok (.iaload, 1) := by decide +kernel
theorem d_St_writeTable_23 : decode b_St_writeTable 23 = .ok (.iconst 1, 1) := by decide +kernel
theorem d_St_writeTable_24 : decode b_St_writeTable 24 = .ok (.iadd, 1) := by decide +kernel
theorem d_St_writeTable_25 : decode b_St_writeTable 25 = .ok (.istore_n 3, 1) := by decide +kernel
theorem d_St_writeTable_26 : decode b_St_writeTable 26 = .ok (.iload_n 2, 1) := by decide +kernel
theorem d_St_writeTable_27 : decode b_St_writeTable 27 = .ok (.ifCond .ne (7), 3) := by decide +kernel
theorem d_St_writeTable_30 : decode b_St_writeTable 30 = .ok (.iconst 1, 1) := by decide +kernel
theorem d_St_writeTable_31 : decode b_St_writeTable 31 = .ok (.goto (4), 3) := by decide +kernel
theorem d_St_writeTable_34 : decode b_St_writeTable 34 = .ok (.iconst 0, 1) := by decide +kernel
theorem d_St_writeTable_35 : decode b_St_writeTable 35 = .ok (.invokestatic 45, 3) := by decide +kernel
theorem d_St_writeTable_38 : decode b_St_writeTable 38 = .ok (.istore 4, 2) := by decide +kernel
theorem d_St_writeTable_40 : decode b_St_writeTable 40 = .ok (.iload_n 1, 1) := by decide +kernel
theorem d_St_writeTable_41 : decode b_St_writeTable 41 = .ok (.bipush 31, 2) := by decide +kernel
theorem d_St_writeTable_43 : decode b_St_writeTable 43 = .ok (.iand, 1) := by decide +kernel
theorem d_St_writeTable_44 : decode b_St_writeTable 44 = .ok (.istore 5, 2) := by decide +kernel
theorem d_St_writeTable_46 : decode b_St_writeTable 46 = .ok (.aload_n 0, 1) := by decide +kernel
theorem d_St_writeTable_47 : decode b_St_writeTable 47 = .ok (.iload 4, 2) := by decide +kernel
theorem d_St_writeTable_49 : decode b_St_writeTable 49 = .ok (.iload_n 3, 1) := by decide +kernel
theorem d_St_writeTable_50 : decode b_St_writeTable 50 = .ok (.invokevirtual 50, 3) := by decide +kernel
theorem d_St_writeTable_53 : decode b_St_writeTable 53 = .ok (.ifCond .eq (37), 3) := by decide +kernel
theorem d_St_writeTable_56 : decode b_St_writeTable 56 = .ok (.aload_n 0, 1) := by decide +kernel
theorem d_St_writeTable_57 : decode b_St_writeTable 57 = .ok (.iload 4, 2) := by decide +kernel
theorem d_St_writeTable_59 : decode b_St_writeTable 59 = .ok (.iconst 1, 1) := by decide +kernel
theorem d_St_writeTable_60 : decode b_St_writeTable 60 = .ok (.iadd, 1) := by decide +kernel
theorem d_St_writeTable_61 : decode b_St_writeTable 61 = .ok (.iload 5, 2) := by decide +kernel
theorem d_St_writeTable_63 : decode b_St_writeTable 63 = .ok (.invokevirtual 50, 3) := by decide +kernel
theorem d_St_writeTable_66 : decode b_St_writeTable 66 = .ok (.ifCond .eq (24), 3) := by decide +kernel
theorem d_St_writeTable_69 : decode b_St_writeTable 69 = .ok (.aload_n 0, 1) := by decide +kernel
theorem d_St_writeTable_70 : decode b_St_writeTable 70 = .ok (.iload 4, 2) := by decide +kernel
theorem d_St_writeTable_72 : decode b_St_writeTable 72 = .ok (.iconst 2, 1) := by decide +kernel
theorem d_St_writeTable_73 : decode b_St_writeTable 73 = .ok (.iadd, 1) := by decide +kernel
theorem d_St_writeTable_74 : decode b_St_writeTable 74 = .ok (.iload_n 3, 1) := by decide +kernel
theorem d_St_writeTable_75 : decode b_St_writeTable 75 = .ok (.iload 5, 2) := by decide +kernel
theorem d_St_writeTable_77 : decode b_St_writeTable 77 = .ok (.invokestatic 23, 3) := by decide +kernel
theorem d_St_writeTable_80 : decode b_St_writeTable 80 = .ok (.invokevirtual 50, 3) := by decide +kernel
theorem d_St_writeTable_83 : decode b_St_writeTable 83 = .ok (.ifCond .eq (7), 3) := by decide +kernel
theorem d_St_writeTable_86 : decode b_St_writeTable 86 = .ok (.iconst 1, 1) := by decide +kernel
theorem d_St_writeTable_87 : decode b_St_writeTable 87 = .ok (.goto (4), 3) := by decide +kernel
theorem d_St_writeTable_90 : decode b_St_writeTable 90 = .ok (.iconst 0, 1) := by decide +kernel
theorem d_St_writeTable_91 : decode b_St_writeTable 91 = .ok (.ireturn, 1) := by decide +kernel
theorem d_St_writePackage_0 : decode b_St_writePackage 0 = .ok (.iload_n 1, 1) := by decide +kernel
theorem d_St_writePackage_1 : decode b_St_writePackage 1 = .ok (.invokestatic 37, 3) := by decide +kernel
theorem d_St_writePackage_4 : decode b_St_writePackage 4 = .ok (.istore 4, 2) := by decide +kernel
theorem d_St_writePackage_6 : decode b_St_writePackage 6 = .ok (.iconst 0, 1) := by decide +kernel
theorem d_St_writePackage_7 : decode b_St_writePackage 7 = .ok (.istore 5, 2) := by decide +kernel
theorem d_St_writePackage_9 : decode b_St_writePackage 9 = .ok (.iload 5, 2) := by decide +kernel
theorem d_St_writePackage_11 : decode b_St_writePackage 11 = .ok (.bipush 17, 2) := by decide +kernel
theorem d_St_writePackage_13 : decode b_St_writePackage 13 = .ok (.if_icmp .ge (29), 3) := by decide +kernel
theorem d_St_writePackage_16 : decode b_St_writePackage 16 = .ok (.aload_n 0, 1) := by decide +kernel
theorem d_St_writePackage_17 : decode b_St_writePackage 17 = .ok (.iload 4, 2) := by decide +kernel
theorem d_St_writePackage_19 : decode b_St_writePackage 19 = .ok (.iload 5, 2) := by decide +kernel
theorem d_St_writePackage_21 : decode b_St_writePackage 21 = .ok (.iadd, 1) := by decide +kernel
theorem d_St_writePackage_22 : decode b_St_writePackage 22 = .ok (.aload_n 2, 1) := by decide +kernel
theorem d_St_writePackage_23 : decode b_St_writePackage 23 = .ok (.iload_n 3, 1) := by decide +kernel
theorem d_St_writePackage_24 : decode b_St_writePackage 24 = .ok (.iload 5, 2) := by decide +kernel
theorem d_St_writePackage_26 : decode b_St_writePackage 26 = .ok (.iadd, 1) := by decide +kernel
theorem d_St_writePackage_27 : decode b_St_writePackage 27 = .ok (.iaload, 1) := by decide +kernel
theorem d_St_writePackage_28 : decode b_St_writePackage 28 = .ok (.invokevirtual 50, 3) := by decide +kernel
theorem d_St_writePackage_31 : decode b_St_writePackage 31 = .ok (.ifCond .ne (5), 3) := by decide +kernel
theorem d_St_writePackage_34 : decode b_St_writePackage 34 = .ok (.iconst 0, 1) := by decide +kernel
theorem d_St_writePackage_35 : decode b_St_writePackage 35 = .ok (.ireturn, 1) := by decide +kernel
theorem d_St_writePackage_36 : decode b_St_writePackage 36 = .ok (.iinc 5 (1), 3) := by decide +kernel
theorem d_St_writePackage_39 : decode b_St_writePackage 39 = .ok (.goto (-30), 3) := by decide +kernel
theorem d_St_writePackage_42 : decode b_St_writePackage 42 = .ok (.iconst 1, 1) := by decide +kernel
theorem d_St_writePackage_43 : decode b_St_writePackage 43 = .ok (.ireturn, 1) := by decide +kernel
theorem d_St_blowUpTo_0 : decode b_St_blowUpTo 0 = .ok (.iload_n 1, 1) := by decide +kernel
theorem d_St_blowUpTo_1 : decode b_St_blowUpTo 1 = .ok (.bipush 32, 2) := by decide +kernel
theorem d_St_blowUpTo_3 : decode b_St_blowUpTo 3 = .ok (.invokestatic 54, 3) := by decide +kernel
theorem d_St_blowUpTo_6 : decode b_St_blowUpTo 6 = .ok (.istore_n 2, 1) := by decide +kernel
theorem d_St_blowUpTo_7 : decode b_St_blowUpTo 7 = .ok (.aload_n 0, 1) := by decide +kernel
theorem d_St_blowUpTo_8 : decode b_St_blowUpTo 8 = .ok (.getfield 27, 3) := by decide +kernel
theorem d_St_blowUpTo_11 : decode b_St_blowUpTo 11 = .ok (.istore_n 3, 1) := by decide +kernel
theorem d_St_blowUpTo_12 : decode b_St_blowUpTo 12 = .ok (.iload_n 3, 1) := by decide +kernel
theorem d_St_blowUpTo_13 : decode b_St_blowUpTo 13 = .ok (.iload_n 2, 1) := by decide +kernel
theorem d_St_blowUpTo_14 : decode b_St_blowUpTo 14 = .ok (.if_icmp .ge (28), 3) := by decide +kernel
theorem d_St_blowUpTo_17 : decode b_St_blowUpTo 17 = .ok (.aload_n 0, 1) := by decide +kernel
theorem d_St_blowUpTo_18 : decode b_St_blowUpTo 18 = .ok (.invokevirtual 59, 3) := by decide +kernel
theorem d_St_blowUpTo_21 : decode b_St_blowUpTo 21 = .ok (.ifCond .ne (5), 3) := by decide +kernel
theorem d_St_blowUpTo_24 : decode b_St_blowUpTo 24 = .ok (.iconst 0, 1) := by decide +kernel
theorem d_St_blowUpTo_25 : decode b_St_blowUpTo 25 = .ok (.ireturn, 1) := by decide +kernel
theorem d_St_blowUpTo_26 : decode b_St_blowUpTo 26 = .ok (.aload_n 0, 1) := by decide +kernel
theorem d_St_blowUpTo_27 : decode b_St_blowUpTo 27 = .ok (.dup, 1) := by decide +kernel
theorem d_St_blowUpTo_28 : decode b_St_blowUpTo 28 = .ok (.getfield 27, 3) := by decide +kernel
theorem d_St_blowUpTo_31 : decode b_St_blowUpTo 31 = .ok (.iconst 1, 1) := by decide +kernel
theorem d_St_blowUpTo_32 : decode b_St_blowUpTo 32 = .ok (.iadd, 1) := by decide +kernel
theorem d_St_blowUpTo_33 : decode b_St_blowUpTo 33 = .ok (.putfield 27, 3) := by decide +kernel
theorem d_St_blowUpTo_36 : decode b_St_blowUpTo 36 = .ok (.iinc 3 (1), 3) := by decide +kernel
theorem d_St_blowUpTo_39 : decode b_St_blowUpTo 39 = .ok (.goto (-27), 3) := by decide +kernel
theorem d_St_blowUpTo_42 : decode b_St_blowUpTo 42 = .ok (.iconst 1, 1) := by decide +kernel
theorem d_St_blowUpTo_43 : decode b_St_blowUpTo 43 = .ok (.ireturn, 1) := by decide +kernel
theorem d_St_put_0 : decode b_St_put 0 = .ok (.aload_n 0, 1) := by decide +kernel
theorem d_St_put_1 : decode b_St_put 1 = .ok (.invokevirtual 59, 3) := by decide +kernel
theorem d_St_put_4 : decode b_St_put 4 = .ok (.ifCond .ne (5), 3) := by decide +kernel
theorem d_St_put_7 : decode b_St_put 7 = .ok (.iconst 0, 1) := by decide +kernel
theorem d_St_put_8 : decode b_St_put 8 = .ok (.ireturn, 1) := by decide +kernel
theorem d_St_put_9 : decode b_St_put 9 = .ok (.aload_n 0, 1) := by decide +kernel
theorem d_St_put_10 : decode b_St_put 10 = .ok (.getfield 11, 3) := by decide +kernel
theorem d_St_put_13 : decode b_St_put 13 = .ok (.iload_n 1, 1) := by decide +kernel
theorem d_St_put_14 : decode b_St_put 14 = .ok (.iload_n 2, 1) := by decide +kernel
theorem d_St_put_15 : decode b_St_put 15 = .ok (.iastore, 1) := by decide +kernel
theorem d_St_put_16 : decode b_St_put 16 = .ok (.iconst 1, 1) := by decide +kernel
theorem d_St_put_17 : decode b_St_put 17 = .ok (.ireturn, 1) := by decide +kernel
theorem d_St_mayWrite_0 : decode b_St_mayWrite 0 = .ok (.aload_n 0, 1) := by decide +kernel
theorem d_St_mayWrite_1 : decode b_St_mayWrite 1 = .ok (.getfield 34, 3) := by decide +kernel
theorem d_St_mayWrite_4 : decode b_St_mayWrite 4 = .ok (.ifCond .ne (10), 3) := by decide +kernel
theorem d_St_mayWrite_7 : decode b_St_mayWrite 7 = .ok (.aload_n 0, 1) := by decide +kernel
theorem d_St_mayWrite_8 : decode b_St_mayWrite 8 = .ok (.iconst (-1), 1) := by decide +kernel
theorem d_St_mayWrite_9 : decode b_St_mayWrite 9 = .ok (.putfield 34, 3) := by decide +kernel
theorem d_St_mayWrite_12 : decode b_St_mayWrite 12 = .ok (.iconst 0, 1) := by decide +kernel
theorem d_St_mayWrite_13 : decode b_St_mayWrite 13 = .ok (.ireturn, 1) := by decide +kernel
theorem d_St_mayWrite_14 : decode b_St_mayWrite 14 = .ok (.aload_n 0, 1) := by decide +kernel
theorem d_St_mayWrite_15 : decode b_St_mayWrite 15 = .ok (.getfield 34, 3) := by decide +kernel
theorem d_St_mayWrite_18 : decode b_St_mayWrite 18 = .ok (.ifCond .le (13), 3) := by decide +kernel
theorem d_St_mayWrite_21 : decode b_St_mayWrite 21 = .ok (.aload_n 0, 1) := by decide +kernel
theorem d_St_mayWrite_22 : decode b_St_mayWrite 22 = .ok (.dup, 1) := by decide +kernel
theorem d_St_mayWrite_23 : decode b_St_mayWrite 23 = .ok (.getfield 34, 3) := by decide +kernel
theorem d_St_mayWrite_26 : decode b_St_mayWrite 26 = .ok (.iconst 1, 1) := by decide +kernel
theorem d_St_mayWrite_27 : decode b_St_mayWrite 27 = .ok (.isub, 1) := by decide +kernel
theorem d_St_mayWrite_28 : decode b_St_mayWrite 28 = .ok (.putfield 34, 3) := by decide +kernel
theorem d_St_mayWrite_31 : decode b_St_mayWrite 31 = .ok (.aload_n 0, 1) := by decide +kernel
theorem d_St_mayWrite_32 : decode b_St_mayWrite 32 = .ok (.dup, 1) := by decide +kernel
theorem d_St_mayWrite_33 : decode b_St_mayWrite 33 = .ok (.getfield 31, 3) := by decide +kernel
theorem d_St_mayWrite_36 : decode b_St_mayWrite 36 = .ok (.iconst 1, 1) := by decide +kernel
theorem d_St_mayWrite_37 : decode b_St_mayWrite 37 = .ok (.iadd, 1) := by decide +kernel
theorem d_St_mayWrite_38 : decode b_St_mayWrite 38 = .ok (.putfield 31, 3) := by decide +kernel
theorem d_St_mayWrite_41 : decode b_St_mayWrite 41 = .ok (.iconst 1, 1) := by decide +kernel
theorem d_St_mayWrite_42 : decode b_St_mayWrite 42 = .ok (.ireturn, 1) := by decide +kernel
theorem d_St_currentRecord_0 : decode b_St_currentRecord 0 = .ok (.aload_n 0, 1) := by decide +kernel
theorem d_St_currentRecord_1 : decode b_St_currentRecord 1 = .ok (.iconst 0, 1) := by decide +kernel
theorem d_St_currentRecord_2 : decode b_St_currentRecord 2 = .ok (.invokevirtual 63, 3) := by decide +kernel
theorem d_St_currentRecord_5 : decode b_St_currentRecord 5 = .ok (.istore_n 1, 1) := by decide +kernel
theorem d_St_currentRecord_6 : decode b_St_currentRecord 6 = .ok (.aload_n 0, 1) := by decide +kernel
theorem d_St_currentRecord_7 : decode b_St_currentRecord 7 = .ok (.iconst 1, 1) := by decide +kernel
theorem d_St_currentRecord_8 : decode b_St_currentRecord 8 = .ok (.invokevirtual 63, 3) := by decide +kernel
theorem d_St_currentRecord_11 : decode b_St_currentRecord 11 = .ok (.istore_n 2, 1) := by decide +kernel
theorem d_St_currentRecord_12 : decode b_St_currentRecord 12 = .ok (.iload_n 1, 1) := by decide +kernel
theorem d_St_currentRecord_13 : decode b_St_currentRecord 13 = .ok (.ifCond .eq (34), 3) := by decide +kernel
theorem d_St_currentRecord_16 : decode b_St_currentRecord 16 = .ok (.iload_n 2, 1) := by decide +kernel
theorem d_St_currentRecord_17 : decode b_St_currentRecord 17 = .ok (.ifCond .eq (30), 3) := by decide +kernel
theorem d_St_currentRecord_20 : decode b_St_currentRecord 20 = .ok (.aload_n 0, 1) := by decide +kernel
theorem d_St_currentRecord_21 : decode b_St_currentRecord 21 = .ok (.getfield 11, 3) := by decide +kernel
theorem d_St_currentRecord_24 : decode b_St_currentRecord 24 = .ok (.iconst 1, 1) := by decide +kernel
theorem d_St_currentRecord_25 : decode b_St_currentRecord 25 = .ok (.invokestatic 45, 3) := by decide +kernel
theorem d_St_currentRecord_28 : decode b_St_currentRecord 28 = .ok (.iaload, 1) := by decide +kernel
theorem d_St_currentRecord_29 : decode b_St_currentRecord 29 = .ok (.aload_n 0, 1) := by decide +kernel
theorem d_St_currentRecord_30 : decode b_St_currentRecord 30 = .ok (.getfield 11, 3) := by decide +kernel
theorem d_St_currentRecord_33 : decode b_St_currentRecord 33 = .ok (.iconst 0, 1) := by decide +kernel
theorem d_St_currentRecord_34 : decode b_St_currentRecord 34 = .ok (.invokestatic 45, 3) := by decide +kernel
theorem d_St_currentRecord_37 : decode b_St_currentRecord 37 = .ok (.iaload, 1) := by decide +kernel
theorem d_St_currentRecord_38 : decode b_St_currentRecord 38 = .ok (.if_icmp .le (7), 3) := by decide +kernel
theorem d_St_currentRecord_41 : decode b_St_currentRecord 41 = .ok (.iconst 1, 1) := by decide +kernel
theorem d_St_currentRecord_42 : decode b_St_currentRecord 42 = .ok (.goto (4), 3) := by decide +kernel
theorem d_St_currentRecord_45 : decode b_St_currentRecord 45 = .ok (.iconst 0, 1) := by decide +kernel
theorem d_St_currentRecord_46 : decode b_St_currentRecord 46 = .ok (.ireturn, 1) := by decide +kernel
theorem d_St_currentRecord_47 : decode b_St_currentRecord 47 = .ok (.iload_n 1, 1) := by decide +kernel
theorem d_St_currentRecord_48 : decode b_St_currentRecord 48 = .ok (.ifCond .eq (5), 3) := by decide +kernel
theorem d_St_currentRecord_51 : decode b_St_currentRecord 51 = .ok (.iconst 0, 1) := by decide +kernel
theorem d_St_currentRecord_52 : decode b_St_currentRecord 52 = .ok (.ireturn, 1) := by decide +kernel
theorem d_St_currentRecord_53 : decode b_St_currentRecord 53 = .ok (.iload_n 2, 1) := by decide +kernel
theorem d_St_currentRecord_54 : decode b_St_currentRecord 54 = .ok (.ifCond .eq (7), 3) := by decide +kernel
theorem d_St_currentRecord_57 : decode b_St_currentRecord 57 = .ok (.iconst 1, 1) := by decide +kernel
theorem d_St_currentRecord_58 : decode b_St_currentRecord 58 = .ok (.goto (4), 3) := by decide +kernel
theorem d_St_currentRecord_61 : decode b_St_currentRecord 61 = .ok (.iconst (-1), 1) := by decide +kernel
theorem d_St_currentRecord_62 : decode b_St_currentRecord 62 = .ok (.ireturn, 1) := by decide +kernel
theorem d_St_isGood_0 : decode b_St_isGood 0 = .ok (.iload_n 1, 1) := by decide +kernel
