theorem d_St_isGood_1 : decode b_St_isGood 1 = .ok (.invokestatic 45, 3) := by decide +kernel
theorem d_St_isGood_4 : decode b_St_isGood 4 = .ok (.istore_n 2, 1) := by decide +kernel
theorem d_St_isGood_5 : decode b_St_isGood 5 = .ok (.aload_n 0, 1) := by decide +kernel
theorem d_St_isGood_6 : decode b_St_isGood 6 = .ok (.getfield 11, 3) := by decide +kernel
theorem d_St_isGood_9 : decode b_St_isGood 9 = .ok (.iload_n 2, 1) := by decide +kernel
theorem d_St_isGood_10 : decode b_St_isGood 10 = .ok (.iconst 2, 1) := by decide +kernel
theorem d_St_isGood_11 : decode b_St_isGood 11 = .ok (.iadd, 1) := by decide +kernel
theorem d_St_isGood_12 : decode b_St_isGood 12 = .ok (.iaload, 1) := by decide +kernel
theorem d_St_isGood_13 : decode b_St_isGood 13 = .ok (.aload_n 0, 1) := by decide +kernel
theorem d_St_isGood_14 : decode b_St_isGood 14 = .ok (.getfield 11, 3) := by decide +kernel
theorem d_St_isGood_17 : decode b_St_isGood 17 = .ok (.iload_n 2, 1) := by decide +kernel
theorem d_St_isGood_18 : decode b_St_isGood 18 = .ok (.iaload, 1) := by decide +kernel
theorem d_St_isGood_19 : decode b_St_isGood 19 = .ok (.aload_n 0, 1) := by decide +kernel
theorem d_St_isGood_20 : decode b_St_isGood 20 = .ok (.getfield 11, 3) := by decide +kernel
theorem d_St_isGood_23 : decode b_St_isGood 23 = .ok (.iload_n 2, 1) := by decide +kernel
theorem d_St_isGood_24 : decode b_St_isGood 24 = .ok (.iconst 1, 1) := by decide +kernel
theorem d_St_isGood_25 : decode b_St_isGood 25 = .ok (.iadd, 1) := by decide +kernel
theorem d_St_isGood_26 : decode b_St_isGood 26 = .ok (.iaload, 1) := by decide +kernel
theorem d_St_isGood_27 : decode b_St_isGood 27 = .ok (.invokestatic 23, 3) := by decide +kernel
theorem d_St_isGood_30 : decode b_St_isGood 30 = .ok (.if_icmp .ne (7), 3) := by decide +kernel
theorem d_St_isGood_33 : decode b_St_isGood 33 = .ok (.iconst 1, 1) := by decide +kernel
theorem d_St_isGood_34 : decode b_St_isGood 34 = .ok (.goto (4), 3) := by decide +kernel
theorem d_St_isGood_37 : decode b_St_isGood 37 = .ok (.iconst 0, 1) := by decide +kernel
theorem d_St_isGood_38 : decode b_St_isGood 38 = .ok (.ireturn, 1) := by decide +kernel
theorem d_St_recordPlace_0 : decode b_St_recordPlace 0 = .ok (.bipush 34, 2) := by decide +kernel
theorem d_St_recordPlace_2 : decode b_St_recordPlace 2 = .ok (.iconst 3, 1) := by decide +kernel
theorem d_St_recordPlace_3 : decode b_St_recordPlace 3 = .ok (.iload_n 0, 1) := by decide +kernel
theorem d_St_recordPlace_4 : decode b_St_recordPlace 4 = .ok (.imul, 1) := by decide +kernel
theorem d_St_recordPlace_5 : decode b_St_recordPlace 5 = .ok (.iadd, 1) := by decide +kernel
theorem d_St_recordPlace_6 : decode b_St_recordPlace 6 = .ok (.ireturn, 1) := by decide +kernel
theorem d_St_check_0 : decode b_St_check 0 = .ok (.iload_n 0, 1) := by decide +kernel
theorem d_St_check_1 : decode b_St_check 1 = .ok (.iload_n 1, 1) := by decide +kernel
theorem d_St_check_2 : decode b_St_check 2 = .ok (.invokestatic 67, 3) := by decide +kernel
theorem d_St_check_5 : decode b_St_check 5 = .ok (.iconst 5, 1) := by decide +kernel
theorem d_St_check_6 : decode b_St_check 6 = .ok (.invokestatic 67, 3) := by decide +kernel
theorem d_St_check_9 : decode b_St_check 9 = .ok (.ireturn, 1) := by decide +kernel
theorem d_Mo_init_0 : decode b_Mo_init 0 = .ok (.aload_n 0, 1) := by decide +kernel
theorem d_Mo_init_1 : decode b_Mo_init 1 = .ok (.invokespecial 1, 3) := by decide +kernel
theorem d_Mo_init_4 : decode b_Mo_init 4 = .ok (.aload_n 0, 1) := by decide +kernel
theorem d_Mo_init_5 : decode b_Mo_init 5 = .ok (.sipush 160, 3) := by decide +kernel
theorem d_Mo_init_8 : decode b_Mo_init 8 = .ok (.newarray .int, 2) := by decide +kernel
theorem d_Mo_init_10 : decode b_Mo_init 10 = .ok (.putfield 7, 3) := by decide +kernel
theorem d_Mo_init_13 : decode b_Mo_init 13 = .ok (.aload_n 0, 1) := by decide +kernel
theorem d_Mo_init_14 : decode b_Mo_init 14 = .ok (.iconst (-1), 1) := by decide +kernel
theorem d_Mo_init_15 : decode b_Mo_init 15 = .ok (.putfield 13, 3) := by decide +kernel
theorem d_Mo_init_18 : decode b_Mo_init 18 = .ok (.aload_n 0, 1) := by decide +kernel
theorem d_Mo_init_19 : decode b_Mo_init 19 = .ok (.iconst (-1), 1) := by decide +kernel
theorem d_Mo_init_20 : decode b_Mo_init 20 = .ok (.putfield 17, 3) := by decide +kernel
theorem d_Mo_init_23 : decode b_Mo_init 23 = .ok (.aload_n 0, 1) := by decide +kernel
theorem d_Mo_init_24 : decode b_Mo_init 24 = .ok (.iconst 3, 1) := by decide +kernel
theorem d_Mo_init_25 : decode b_Mo_init 25 = .ok (.newarray .int, 2) := by decide +kernel
theorem d_Mo_init_27 : decode b_Mo_init 27 = .ok (.putfield 20, 3) := by decide +kernel
theorem d_Mo_init_30 : decode b_Mo_init 30 = .ok (.aload_n 0, 1) := by decide +kernel
theorem d_Mo_init_31 : decode b_Mo_init 31 = .ok (.bipush 6, 2) := by decide +kernel
theorem d_Mo_init_33 : decode b_Mo_init 33 = .ok (.newarray .int, 2) := by decide +kernel
theorem d_Mo_init_35 : decode b_Mo_init 35 = .ok (.putfield 23, 3) := by decide +kernel
theorem d_Mo_init_38 : decode b_Mo_init 38 = .ok (.aload_n 0, 1) := by decide +kernel
theorem d_Mo_init_39 : decode b_Mo_init 39 = .ok (.bipush 6, 2) := by decide +kernel
theorem d_Mo_init_41 : decode b_Mo_init 41 = .ok (.newarray .int, 2) := by decide +kernel
theorem d_Mo_init_43 : decode b_Mo_init 43 = .ok (.putfield 26, 3) := by decide +kernel
theorem d_Mo_init_46 : decode b_Mo_init 46 = .ok (.aload_n 0, 1) := by decide +kernel
theorem d_Mo_init_47 : decode b_Mo_init 47 = .ok (.bipush 16, 2) := by decide +kernel
theorem d_Mo_init_49 : decode b_Mo_init 49 = .ok (.newarray .int, 2) := by decide +kernel
theorem d_Mo_init_51 : decode b_Mo_init 51 = .ok (.putfield 29, 3) := by decide +kernel
theorem d_Mo_init_54 : decode b_Mo_init 54 = .ok (.aload_n 0, 1) := by decide +kernel
theorem d_Mo_init_55 : decode b_Mo_init 55 = .ok (.iload_n 1, 1) := by decide +kernel
theorem d_Mo_init_56 : decode b_Mo_init 56 = .ok (.putfield 32, 3) := by decide +kernel
theorem d_Mo_init_59 : decode b_Mo_init 59 = .ok (.aload_n 0, 1) := by decide +kernel
theorem d_Mo_init_60 : decode b_Mo_init 60 = .ok (.iconst 1, 1) := by decide +kernel
theorem d_Mo_init_61 : decode b_Mo_init 61 = .ok (.putfield 35, 3) := by decide +kernel
theorem d_Mo_init_64 : decode b_Mo_init 64 = .ok (.aload_n 0, 1) := by decide +kernel
theorem d_Mo_init_65 : decode b_Mo_init 65 = .ok (.iconst 0, 1) := by decide +kernel
theorem d_Mo_init_66 : decode b_Mo_init 66 = .ok (.iconst 0, 1) := by decide +kernel
theorem d_Mo_init_67 : decode b_Mo_init 67 = .ok (.iconst 1, 1) := by decide +kernel
theorem d_Mo_init_68 : decode b_Mo_init 68 = .ok (.iload_n 2, 1) := by decide +kernel
theorem d_Mo_init_69 : decode b_Mo_init 69 = .ok (.invokevirtual 38, 3) := by decide +kernel
theorem d_Mo_init_72 : decode b_Mo_init 72 = .ok (.aload_n 0, 1) := by decide +kernel
theorem d_Mo_init_73 : decode b_Mo_init 73 = .ok (.getfield 7, 3) := by decide +kernel
theorem d_Mo_init_76 : decode b_Mo_init 76 = .ok (.bipush 15, 2) := by decide +kernel
theorem d_Mo_init_78 : decode b_Mo_init 78 = .ok (.iload_n 2, 1) := by decide +kernel
theorem d_Mo_init_79 : decode b_Mo_init 79 = .ok (.iconst 1, 1) := by decide +kernel
theorem d_Mo_init_80 : decode b_Mo_init 80 = .ok (.iadd, 1) := by decide +kernel
theorem d_Mo_init_81 : decode b_Mo_init 81 = .ok (.iastore, 1) := by decide +kernel
theorem d_Mo_init_82 : decode b_Mo_init 82 = .ok (.aload_n 0, 1) := by decide +kernel
theorem d_Mo_init_83 : decode b_Mo_init 83 = .ok (.getfield 7, 3) := by decide +kernel
theorem d_Mo_init_86 : decode b_Mo_init 86 = .ok (.bipush 16, 2) := by decide +kernel
theorem d_Mo_init_88 : decode b_Mo_init 88 = .ok (.iload_n 2, 1) := by decide +kernel
theorem d_Mo_init_89 : decode b_Mo_init 89 = .ok (.iconst 2, 1) := by decide +kernel
theorem d_Mo_init_90 : decode b_Mo_init 90 = .ok (.iadd, 1) := by decide +kernel
theorem d_Mo_init_91 : decode b_Mo_init 91 = .ok (.iastore, 1) := by decide +kernel
theorem d_Mo_init_92 : decode b_Mo_init 92 = .ok (.aload_n 0, 1) := by decide +kernel
theorem d_Mo_init_93 : decode b_Mo_init 93 = .ok (.iconst 0, 1) := by decide +kernel
theorem d_Mo_init_94 : decode b_Mo_init 94 = .ok (.iconst 0, 1) := by decide +kernel
theorem d_Mo_init_95 : decode b_Mo_init 95 = .ok (.invokevirtual 42, 3) := by decide +kernel
theorem d_Mo_init_98 : decode b_Mo_init 98 = .ok (.aload_n 0, 1) := by decide +kernel
theorem d_Mo_init_99 : decode b_Mo_init 99 = .ok (.getfield 7, 3) := by decide +kernel
theorem d_Mo_init_102 : decode b_Mo_init 102 = .ok (.bipush 34, 2) := by decide +kernel
theorem d_Mo_init_104 : decode b_Mo_init 104 = .ok (.iconst 1, 1) := by decide +kernel
theorem d_Mo_init_105 : decode b_Mo_init 105 = .ok (.iastore, 1) := by decide +kernel
theorem d_Mo_init_106 : decode b_Mo_init 106 = .ok (.aload_n 0, 1) := by decide +kernel
theorem d_Mo_init_107 : decode b_Mo_init 107 = .ok (.getfield 7, 3) := by decide +kernel
theorem d_Mo_init_110 : decode b_Mo_init 110 = .ok (.bipush 35, 2) := by decide +kernel
theorem d_Mo_init_112 : decode b_Mo_init 112 = .ok (.bipush 6, 2) := by decide +kernel
theorem d_Mo_init_114 : decode b_Mo_init 114 = .ok (.iastore, 1) := by decide +kernel
theorem d_Mo_init_115 : decode b_Mo_init 115 = .ok (.aload_n 0, 1) := by decide +kernel
theorem d_Mo_init_116 : decode b_Mo_init 116 = .ok (.getfield 7, 3) := by decide +kernel
theorem d_Mo_init_119 : decode b_Mo_init 119 = .ok (.bipush 36, 2) := by decide +kernel
theorem d_Mo_init_121 : decode b_Mo_init 121 = .ok (.iconst 1, 1) := by decide +kernel
theorem d_Mo_init_122 : decode b_Mo_init 122 = .ok (.bipush 6, 2) := by decide +kernel
theorem d_Mo_init_124 : decode b_Mo_init 124 = .ok (.invokestatic 46, 3) := by decide +kernel
theorem d_Mo_init_127 : decode b_Mo_init 127 = .ok (.iastore, 1) := by decide +kernel
theorem d_Mo_init_128 : decode b_Mo_init 128 = .ok (.return_, 1) := by decide +kernel
theorem d_Mo_h_0 : decode b_Mo_h 0 = .ok (.iload_n 0, 1) := by decide +kernel
theorem d_Mo_h_1 : decode b_Mo_h 1 = .ok (.ldc 50, 2) := by decide +kernel
theorem d_Mo_h_3 : decode b_Mo_h 3 = .ok (.ixor, 1) := by decide +kernel
theorem d_Mo_h_4 : decode b_Mo_h 4 = .ok (.ldc 51, 2) := by decide +kernel
theorem d_Mo_h_6 : decode b_Mo_h 6 = .ok (.imul, 1) := by decide +kernel
theorem d_Mo_h_7 : decode b_Mo_h 7 = .ok (.iload_n 1, 1) := by decide +kernel
theorem d_Mo_h_8 : decode b_Mo_h 8 = .ok (.iadd, 1) := by decide +kernel
theorem d_Mo_h_9 : decode b_Mo_h 9 = .ok (.istore_n 2, 1) := by decide +kernel
theorem d_Mo_h_10 : decode b_Mo_h 10 = .ok (.iload_n 2, 1) := by decide +kernel
theorem d_Mo_h_11 : decode b_Mo_h 11 = .ok (.iload_n 2, 1) := by decide +kernel
theorem d_Mo_h_12 : decode b_Mo_h 12 = .ok (.bipush 13, 2) := by decide +kernel
theorem d_Mo_h_14 : decode b_Mo_h 14 = .ok (.iushr, 1) := by decide +kernel
theorem d_Mo_h_15 : decode b_Mo_h 15 = .ok (.ixor, 1) := by decide +kernel
theorem d_Mo_h_16 : decode b_Mo_h 16 = .ok (.istore_n 2, 1) := by decide +kernel
theorem d_Mo_h_17 : decode b_Mo_h 17 = .ok (.iload_n 2, 1) := by decide +kernel
theorem d_Mo_h_18 : decode b_Mo_h 18 = .ok (.ldc 50, 2) := by decide +kernel
theorem d_Mo_h_20 : decode b_Mo_h 20 = .ok (.imul, 1) := by decide +kernel
theorem d_Mo_h_21 : decode b_Mo_h 21 = .ok (.istore_n 2, 1) := by decide +kernel
theorem d_Mo_h_22 : decode b_Mo_h 22 = .ok (.iload_n 2, 1) := by decide +kernel
theorem d_Mo_h_23 : decode b_Mo_h 23 = .ok (.iload_n 2, 1) := by decide +kernel
theorem d_Mo_h_24 : decode b_Mo_h 24 = .ok (.bipush 16, 2) := by decide +kernel
theorem d_Mo_h_26 : decode b_Mo_h 26 = .ok (.iushr, 1) := by decide +kernel
theorem d_Mo_h_27 : decode b_Mo_h 27 = .ok (.ixor, 1) := by decide +kernel
theorem d_Mo_h_28 : decode b_Mo_h 28 = .ok (.ireturn, 1) := by decide +kernel
theorem d_Mo_check_0 : decode b_Mo_check 0 = .ok (.iload_n 0, 1) := by decide +kernel
theorem d_Mo_check_1 : decode b_Mo_check 1 = .ok (.iload_n 1, 1) := by decide +kernel
theorem d_Mo_check_2 : decode b_Mo_check 2 = .ok (.invokestatic 52, 3) := by decide +kernel
theorem d_Mo_check_5 : decode b_Mo_check 5 = .ok (.istore_n 2, 1) := by decide +kernel
theorem d_Mo_check_6 : decode b_Mo_check 6 = .ok (.iload_n 2, 1) := by decide +kernel
theorem d_Mo_check_7 : decode b_Mo_check 7 = .ok (.iconst 5, 1) := by decide +kernel
theorem d_Mo_check_8 : decode b_Mo_check 8 = .ok (.invokestatic 52, 3) := by decide +kernel
theorem d_Mo_check_11 : decode b_Mo_check 11 = .ok (.ireturn, 1) := by decide +kernel
theorem d_Mo_along_0 : decode b_Mo_along 0 = .ok (.iload_n 0, 1) := by decide +kernel
theorem d_Mo_along_1 : decode b_Mo_along 1 = .ok (.istore 4, 2) := by decide +kernel
theorem d_Mo_along_3 : decode b_Mo_along 3 = .ok (.iload_n 2, 1) := by decide +kernel
theorem d_Mo_along_4 : decode b_Mo_along 4 = .ok (.istore 5, 2) := by decide +kernel
theorem d_Mo_along_6 : decode b_Mo_along 6 = .ok (.iload 5, 2) := by decide +kernel
theorem d_Mo_along_8 : decode b_Mo_along 8 = .ok (.iload_n 3, 1) := by decide +kernel
theorem d_Mo_along_9 : decode b_Mo_along 9 = .ok (.if_icmp .ge (23), 3) := by decide +kernel
theorem d_Mo_along_12 : decode b_Mo_along 12 = .ok (.iload 4, 2) := by decide +kernel
theorem d_Mo_along_14 : decode b_Mo_along 14 = .ok (.bipush 16, 2) := by decide +kernel
theorem d_Mo_along_16 : decode b_Mo_along 16 = .ok (.iload_n 1, 1) := by decide +kernel
theorem d_Mo_along_17 : decode b_Mo_along 17 = .ok (.imul, 1) := by decide +kernel
theorem d_Mo_along_18 : decode b_Mo_along 18 = .ok (.iload 5, 2) := by decide +kernel
theorem d_Mo_along_20 : decode b_Mo_along 20 = .ok (.iadd, 1) := by decide +kernel
theorem d_Mo_along_21 : decode b_Mo_along 21 = .ok (.invokestatic 52, 3) := by decide +kernel
theorem d_Mo_along_24 : decode b_Mo_along 24 = .ok (.istore 4, 2) := by decide +kernel
theorem d_Mo_along_26 : decode b_Mo_along 26 = .ok (.iinc 5 (1), 3) := by decide +kernel
theorem d_Mo_along_29 : decode b_Mo_along 29 = .ok (.goto (-23), 3) := by decide +kernel
theorem d_Mo_along_32 : decode b_Mo_along 32 = .ok (.iload 4, 2) := by decide +kernel
theorem d_Mo_along_34 : decode b_Mo_along 34 = .ok (.ireturn, 1) := by decide +kernel
theorem d_Mo_chain_0 : decode b_Mo_chain 0 = .ok (.aload_n 0, 1) := by decide +kernel
theorem d_Mo_chain_1 : decode b_Mo_chain 1 = .ok (.getfield 32, 3) := by decide +kernel
theorem d_Mo_chain_4 : decode b_Mo_chain 4 = .ok (.iload_n 1, 1) := by decide +kernel
theorem d_Mo_chain_5 : decode b_Mo_chain 5 = .ok (.invokestatic 52, 3) := by decide +kernel
theorem d_Mo_chain_8 : decode b_Mo_chain 8 = .ok (.istore 4, 2) := by decide +kernel
theorem d_Mo_chain_10 : decode b_Mo_chain 10 = .ok (.iload 4, 2) := by decide +kernel
theorem d_Mo_chain_12 : decode b_Mo_chain 12 = .ok (.iload_n 2, 1) := by decide +kernel
theorem d_Mo_chain_13 : decode b_Mo_chain 13 = .ok (.invokestatic 52, 3) := by decide +kernel
theorem d_Mo_chain_16 : decode b_Mo_chain 16 = .ok (.istore 4, 2) := by decide +kernel
theorem d_Mo_chain_18 : decode b_Mo_chain 18 = .ok (.iload 4, 2) := by decide +kernel
theorem d_Mo_chain_20 : decode b_Mo_chain 20 = .ok (.iload_n 2, 1) := by decide +kernel
theorem d_Mo_chain_21 : decode b_Mo_chain 21 = .ok (.iconst 0, 1) := by decide +kernel
theorem d_Mo_chain_22 : decode b_Mo_chain 22 = .ok (.iload_n 3, 1) := by decide +kernel
theorem d_Mo_chain_23 : decode b_Mo_chain 23 = .ok (.invokestatic 55, 3) := by decide +kernel
theorem d_Mo_chain_26 : decode b_Mo_chain 26 = .ok (.ireturn, 1) := by decide +kernel
theorem d_Mo_leaf_0 : decode b_Mo_leaf 0 = .ok (.iload_n 1, 1) := by decide +kernel
theorem d_Mo_leaf_1 : decode b_Mo_leaf 1 = .ok (.istore_n 2, 1) := by decide +kernel
theorem d_Mo_leaf_2 : decode b_Mo_leaf 2 = .ok (.iconst 0, 1) := by decide +kernel
theorem d_Mo_leaf_3 : decode b_Mo_leaf 3 = .ok (.istore_n 3, 1) := by decide +kernel
theorem d_Mo_leaf_4 : decode b_Mo_leaf 4 = .ok (.iload_n 3, 1) := by decide +kernel
theorem d_Mo_leaf_5 : decode b_Mo_leaf 5 = .ok (.bipush 6, 2) := by decide +kernel
theorem d_Mo_leaf_7 : decode b_Mo_leaf 7 = .ok (.if_icmp .ge (20), 3) := by decide +kernel
theorem d_Mo_leaf_10 : decode b_Mo_leaf 10 = .ok (.iload_n 2, 1) := by decide +kernel
theorem d_Mo_leaf_11 : decode b_Mo_leaf 11 = .ok (.aload_n 0, 1) := by decide +kernel
theorem d_Mo_leaf_12 : decode b_Mo_leaf 12 = .ok (.getfield 26, 3) := by decide +kernel
theorem d_Mo_leaf_15 : decode b_Mo_leaf 15 = .ok (.iload_n 3, 1) := by decide +kernel
theorem d_Mo_leaf_16 : decode b_Mo_leaf 16 = .ok (.iaload, 1) := by decide +kernel
theorem d_Mo_leaf_17 : decode b_Mo_leaf 17 = .ok (.invokestatic 52, 3) := by decide +kernel
theorem d_Mo_leaf_20 : decode b_Mo_leaf 20 = .ok (.istore_n 2, 1) := by decide +kernel
theorem d_Mo_leaf_21 : decode b_Mo_leaf 21 = .ok (.iinc 3 (1), 3) := by decide +kernel
theorem d_Mo_leaf_24 : decode b_Mo_leaf 24 = .ok (.goto (-20), 3) := by decide +kernel
theorem d_Mo_leaf_27 : decode b_Mo_leaf 27 = .ok (.iload_n 2, 1) := by decide +kernel
theorem d_Mo_leaf_28 : decode b_Mo_leaf 28 = .ok (.ireturn, 1) := by decide +kernel
theorem d_Mo_join_0 : decode b_Mo_join 0 = .ok (.iload_n 0, 1) := by decide +kernel
theorem d_Mo_join_1 : decode b_Mo_join 1 = .ok (.iload_n 1, 1) := by decide +kernel
theorem d_Mo_join_2 : decode b_Mo_join 2 = .ok (.invokestatic 52, 3) := by decide +kernel
theorem d_Mo_join_5 : decode b_Mo_join 5 = .ok (.istore_n 3, 1) := by decide +kernel
theorem d_Mo_join_6 : decode b_Mo_join 6 = .ok (.iload_n 3, 1) := by decide +kernel
theorem d_Mo_join_7 : decode b_Mo_join 7 = .ok (.iload_n 2, 1) := by decide +kernel
theorem d_Mo_join_8 : decode b_Mo_join 8 = .ok (.invokestatic 52, 3) := by decide +kernel
theorem d_Mo_join_11 : decode b_Mo_join 11 = .ok (.ireturn, 1) := by decide +kernel
theorem d_Mo_tree_0 : decode b_Mo_tree 0 = .ok (.iconst 0, 1) := by decide +kernel
theorem d_Mo_tree_1 : decode b_Mo_tree 1 = .ok (.istore_n 1, 1) := by decide +kernel
theorem d_Mo_tree_2 : decode b_Mo_tree 2 = .ok (.iload_n 1, 1) := by decide +kernel
theorem d_Mo_tree_3 : decode b_Mo_tree 3 = .ok (.bipush 8, 2) := by decide +kernel
theorem d_Mo_tree_5 : decode b_Mo_tree 5 = .ok (.if_icmp .ge (51), 3) := by decide +kernel
theorem d_Mo_tree_8 : decode b_Mo_tree 8 = .ok (.iconst 0, 1) := by decide +kernel
theorem d_Mo_tree_9 : decode b_Mo_tree 9 = .ok (.istore_n 2, 1) := by decide +kernel
theorem d_Mo_tree_10 : decode b_Mo_tree 10 = .ok (.iload_n 2, 1) := by decide +kernel
theorem d_Mo_tree_11 : decode b_Mo_tree 11 = .ok (.bipush 6, 2) := by decide +kernel
theorem d_Mo_tree_13 : decode b_Mo_tree 13 = .ok (.if_icmp .ge (23), 3) := by decide +kernel
theorem d_Mo_tree_16 : decode b_Mo_tree 16 = .ok (.aload_n 0, 1) := by decide +kernel
theorem d_Mo_tree_17 : decode b_Mo_tree 17 = .ok (.getfield 26, 3) := by decide +kernel
theorem d_Mo_tree_20 : decode b_Mo_tree 20 = .ok (.iload_n 2, 1) := by decide +kernel
theorem d_Mo_tree_21 : decode b_Mo_tree 21 = .ok (.aload_n 0, 1) := by decide +kernel
theorem d_Mo_tree_22 : decode b_Mo_tree 22 = .ok (.iload_n 1, 1) := by decide +kernel
theorem d_Mo_tree_23 : decode b_Mo_tree 23 = .ok (.iload_n 2, 1) := by decide +kernel
theorem d_Mo_tree_24 : decode b_Mo_tree 24 = .ok (.bipush 15, 2) := by decide +kernel
theorem d_Mo_tree_26 : decode b_Mo_tree 26 = .ok (.invokevirtual 59, 3) := by decide +kernel
theorem d_Mo_tree_29 : decode b_Mo_tree 29 = .ok (.iastore, 1) := by decide +kernel
theorem d_Mo_tree_30 : decode b_Mo_tree 30 = .ok (.iinc 2 (1), 3) := by decide +kernel
theorem d_Mo_tree_33 : decode b_Mo_tree 33 = .ok (.goto (-23), 3) := by decide +kernel
theorem d_Mo_tree_36 : decode b_Mo_tree 36 = .ok (.aload_n 0, 1) := by decide +kernel
theorem d_Mo_tree_37 : decode b_Mo_tree 37 = .ok (.getfield 29, 3) := by decide +kernel
theorem d_Mo_tree_40 : decode b_Mo_tree 40 = .ok (.bipush 8, 2) := by decide +kernel
theorem d_Mo_tree_42 : decode b_Mo_tree 42 = .ok (.iload_n 1, 1) := by decide +kernel
theorem d_Mo_tree_43 : decode b_Mo_tree 43 = .ok (.iadd, 1) := by decide +kernel
theorem d_Mo_tree_44 : decode b_Mo_tree 44 = .ok (.aload_n 0, 1) := by decide +kernel
theorem d_Mo_tree_45 : decode b_Mo_tree 45 = .ok (.iload_n 1, 1) := by decide +kernel
theorem d_Mo_tree_46 : decode b_Mo_tree 46 = .ok (.invokevirtual 63, 3) := by decide +kernel
theorem d_Mo_tree_49 : decode b_Mo_tree 49 = .ok (.iastore, 1) := by decide +kernel
theorem d_Mo_tree_50 : decode b_Mo_tree 50 = .ok (.iinc 1 (1), 3) := by decide +kernel
theorem d_Mo_tree_53 : decode b_Mo_tree 53 = .ok (.goto (-51), 3) := by decide +kernel
theorem d_Mo_tree_56 : decode b_Mo_tree 56 = .ok (.bipush 7, 2) := by decide +kernel
theorem d_Mo_tree_58 : decode b_Mo_tree 58 = .ok (.istore_n 1, 1) := by decide +kernel
theorem d_Mo_tree_59 : decode b_Mo_tree 59 = .ok (.iload_n 1, 1) := by decide +kernel
theorem d_Mo_tree_60 : decode b_Mo_tree 60 = .ok (.iconst 1, 1) := by decide +kernel
theorem d_Mo_tree_61 : decode b_Mo_tree 61 = .ok (.if_icmp .lt (37), 3) := by decide +kernel
theorem d_Mo_tree_64 : decode b_Mo_tree 64 = .ok (.aload_n 0, 1) := by decide +kernel
theorem d_Mo_tree_65 : decode b_Mo_tree 65 = .ok (.getfield 29, 3) := by decide +kernel
theorem d_Mo_tree_68 : decode b_Mo_tree 68 = .ok (.iload_n 1, 1) := by decide +kernel
theorem d_Mo_tree_69 : decode b_Mo_tree 69 = .ok (.aload_n 0, 1) := by decide +kernel
theorem d_Mo_tree_70 : decode b_Mo_tree 70 = .ok (.getfield 29, 3) := by decide +kernel
theorem d_Mo_tree_73 : decode b_Mo_tree 73 = .ok (.iconst 2, 1) := by decide +kernel
theorem d_Mo_tree_74 : decode b_Mo_tree 74 = .ok (.iload_n 1, 1) := by decide +kernel
theorem d_Mo_tree_75 : decode b_Mo_tree 75 = .ok (.imul, 1) := by decide +kernel
theorem d_Mo_tree_76 : decode b_Mo_tree 76 = .ok (.iaload, 1) := by decide +kernel
theorem d_Mo_tree_77 : decode b_Mo_tree 77 = .ok (.aload_n 0, 1) := by decide +kernel
theorem d_Mo_tree_78 : decode b_Mo_tree 78 = .ok (.getfield 29, 3) := by decide +kernel
theorem d_Mo_tree_81 : decode b_Mo_tree 81 = .ok (.iconst 2, 1) := by decide +kernel
theorem d_Mo_tree_82 : decode b_Mo_tree 82 = .ok (.iload_n 1, 1) := by decide +kernel
theorem d_Mo_tree_83 : decode b_Mo_tree 83 = .ok (.imul, 1) := by decide +kernel
theorem d_Mo_tree_84 : decode b_Mo_tree 84 = .ok (.iconst 1, 1) := by decide +kernel
theorem d_Mo_tree_85 : decode b_Mo_tree 85 = .ok (.iadd, 1) := by decide +kernel
theorem d_Mo_tree_86 : decode b_Mo_tree 86 = .ok (.iaload, 1) := by decide +kernel
theorem d_Mo_tree_87 : decode b_Mo_tree 87 = .ok (.iload_n 1, 1) := by decide +kernel
theorem d_Mo_tree_88 : decode b_Mo_tree 88 = .ok (.invokestatic 67, 3) := by decide +kernel
theorem d_Mo_tree_91 : decode b_Mo_tree 91 = .ok (.iastore, 1) := by decide +kernel
theorem d_Mo_tree_92 : decode b_Mo_tree 92 = .ok (.iinc 1 (-1), 3) := by decide +kernel
theorem d_Mo_tree_95 : decode b_Mo_tree 95 = .ok (.goto (-36), 3) := by decide +kernel
theorem d_Mo_tree_98 : decode b_Mo_tree 98 = .ok (.return_, 1) := by decide +kernel
theorem d_Mo_key_0 : decode b_Mo_key 0 = .ok (.aload_n 0, 1) := by decide +kernel
theorem d_Mo_key_1 : decode b_Mo_key 1 = .ok (.invokevirtual 70, 3) := by decide +kernel
theorem d_Mo_key_4 : decode b_Mo_key 4 = .ok (.aload_n 0, 1) := by decide +kernel
theorem d_Mo_key_5 : decode b_Mo_key 5 = .ok (.getfield 29, 3) := by decide +kernel
theorem d_Mo_key_8 : decode b_Mo_key 8 = .ok (.iconst 1, 1) := by decide +kernel
theorem d_Mo_key_9 : decode b_Mo_key 9 = .ok (.iaload, 1) := by decide +kernel
theorem d_Mo_key_10 : decode b_Mo_key 10 = .ok (.ireturn, 1) := by decide +kernel
theorem d_Mo_digits_0 : decode b_Mo_digits 0 = .ok (.bipush 17, 2) := by decide +kernel
theorem d_Mo_digits_2 : decode b_Mo_digits 2 = .ok (.istore_n 2, 1) := by decide +kernel
theorem d_Mo_digits_3 : decode b_Mo_digits 3 = .ok (.iconst 0, 1) := by decide +kernel
theorem d_Mo_digits_4 : decode b_Mo_digits 4 = .ok (.istore_n 3, 1) := by decide +kernel
theorem d_Mo_digits_5 : decode b_Mo_digits 5 = .ok (.iload_n 3, 1) := by decide +kernel
theorem d_Mo_digits_6 : decode b_Mo_digits 6 = .ok (.iconst 4, 1) := by decide +kernel
theorem d_Mo_digits_7 : decode b_Mo_digits 7 = .ok (.if_icmp .ge (22), 3) := by decide +kernel
theorem d_Mo_digits_10 : decode b_Mo_digits 10 = .ok (.iload_n 2, 1) := by decide +kernel
theorem d_Mo_digits_11 : decode b_Mo_digits 11 = .ok (.aload_n 0, 1) := by decide +kernel
theorem d_Mo_digits_12 : decode b_Mo_digits 12 = .ok (.getfield 7, 3) := by decide +kernel
theorem d_Mo_digits_15 : decode b_Mo_digits 15 = .ok (.iload_n 1, 1) := by decide +kernel
theorem d_Mo_digits_16 : decode b_Mo_digits 16 = .ok (.iload_n 3, 1) := by decide +kernel
theorem d_Mo_digits_17 : decode b_Mo_digits 17 = .ok (.iadd, 1) := by decide +kernel
theorem d_Mo_digits_18 : decode b_Mo_digits 18 = .ok (.iaload, 1) := by decide +kernel
theorem d_Mo_digits_19 : decode b_Mo_digits 19 = .ok (.invokestatic 52, 3) := by decide +kernel
theorem d_Mo_digits_22 : decode b_Mo_digits 22 = .ok (.istore_n 2, 1) := by decide +kernel
theorem d_Mo_digits_23 : decode b_Mo_digits 23 = .ok (.iinc 3 (1), 3) := by decide +kernel
theorem d_Mo_digits_26 : decode b_Mo_digits 26 = .ok (.goto (-21), 3) := by decide +kernel
theorem d_Mo_digits_29 : decode b_Mo_digits 29 = .ok (.bipush 60, 2) := by decide +kernel
theorem d_Mo_digits_31 : decode b_Mo_digits 31 = .ok (.istore_n 3, 1) := by decide +kernel
theorem d_Mo_digits_32 : decode b_Mo_digits 32 = .ok (.iconst 0, 1) := by decide +kernel
theorem d_Mo_digits_33 : decode b_Mo_digits 33 = .ok (.istore 4, 2) := by decide +kernel
theorem d_Mo_digits_35 : decode b_Mo_digits 35 = .ok (.iload 4, 2) := by decide +kernel
theorem d_Mo_digits_37 : decode b_Mo_digits 37 = .ok (.iconst 4, 1) := by decide +kernel
theorem d_Mo_digits_38 : decode b_Mo_digits 38 = .ok (.if_icmp .ge (35), 3) := by decide +kernel
theorem d_Mo_digits_41 : decode b_Mo_digits 41 = .ok (.aload_n 0, 1) := by decide +kernel
theorem d_Mo_digits_42 : decode b_Mo_digits 42 = .ok (.getfield 23, 3) := by decide +kernel
theorem d_Mo_digits_45 : decode b_Mo_digits 45 = .ok (.iload 4, 2) := by decide +kernel
theorem d_Mo_digits_47 : decode b_Mo_digits 47 = .ok (.iload_n 2, 1) := by decide +kernel
theorem d_Mo_digits_48 : decode b_Mo_digits 48 = .ok (.iconst 4, 1) := by decide +kernel
theorem d_Mo_digits_49 : decode b_Mo_digits 49 = .ok (.iload 4, 2) := by decide +kernel
theorem d_Mo_digits_51 : decode b_Mo_digits 51 = .ok (.imul, 1) := by decide +kernel
theorem d_Mo_digits_52 : decode b_Mo_digits 52 = .ok (.iushr, 1) := by decide +kernel
theorem d_Mo_digits_53 : decode b_Mo_digits 53 = .ok (.bipush 15, 2) := by decide +kernel
theorem d_Mo_digits_55 : decode b_Mo_digits 55 = .ok (.iand, 1) := by decide +kernel
theorem d_Mo_digits_56 : decode b_Mo_digits 56 = .ok (.iastore, 1) := by decide +kernel
theorem d_Mo_digits_57 : decode b_Mo_digits 57 = .ok (.iload_n 3, 1) := by decide +kernel
theorem d_Mo_digits_58 : decode b_Mo_digits 58 = .ok (.aload_n 0, 1) := by decide +kernel
theorem d_Mo_digits_59 : decode b_Mo_digits 59 = .ok (.getfield 23, 3) := by decide +kernel
theorem d_Mo_digits_62 : decode b_Mo_digits 62 = .ok (.iload 4, 2) := by decide +kernel
theorem d_Mo_digits_64 : decode b_Mo_digits 64 = .ok (.iaload, 1) := by decide +kernel
theorem d_Mo_digits_65 : decode b_Mo_digits 65 = .ok (.isub, 1) := by decide +kernel
theorem d_Mo_digits_66 : decode b_Mo_digits 66 = .ok (.istore_n 3, 1) := by decide +kernel
theorem d_Mo_digits_67 : decode b_Mo_digits 67 = .ok (.iinc 4 (1), 3) := by decide +kernel
theorem d_Mo_digits_70 : decode b_Mo_digits 70 = .ok (.goto (-35), 3) := by decide +kernel
theorem d_Mo_digits_73 : decode b_Mo_digits 73 = .ok (.aload_n 0, 1) := by decide +kernel
theorem d_Mo_digits_74 : decode b_Mo_digits 74 = .ok (.getfield 23, 3) := by decide +kernel
theorem d_Mo_digits_77 : decode b_Mo_digits 77 = .ok (.iconst 4, 1) := by decide +kernel
theorem d_Mo_digits_78 : decode b_Mo_digits 78 = .ok (.iload_n 3, 1) := by decide +kernel
theorem d_Mo_digits_79 : decode b_Mo_digits 79 = .ok (.bipush 15, 2) := by decide +kernel
theorem d_Mo_digits_81 : decode b_Mo_digits 81 = .ok (.iand, 1) := by decide +kernel
theorem d_Mo_digits_82 : decode b_Mo_digits 82 = .ok (.iastore, 1) := by decide +kernel
theorem d_Mo_digits_83 : decode b_Mo_digits 83 = .ok (.aload_n 0, 1) := by decide +kernel
theorem d_Mo_digits_84 : decode b_Mo_digits 84 = .ok (.getfield 23, 3) := by decide +kernel
theorem d_Mo_digits_87 : decode b_Mo_digits 87 = .ok (.iconst 5, 1) := by decide +kernel
theorem d_Mo_digits_88 : decode b_Mo_digits 88 = .ok (.iload_n 3, 1) := by decide +kernel
theorem d_Mo_digits_89 : decode b_Mo_digits 89 = .ok (.iconst 4, 1) := by decide +kernel
theorem d_Mo_digits_90 : decode b_Mo_digits 90 = .ok (.iushr, 1) := by decide +kernel
theorem d_Mo_digits_91 : decode b_Mo_digits 91 = .ok (.iastore, 1) := by decide +kernel
theorem d_Mo_digits_92 : decode b_Mo_digits 92 = .ok (.return_, 1) := by decide +kernel
theorem d_Mo_signed_0 : decode b_Mo_signed 0 = .ok (.aload_n 0, 1) := by decide +kernel
theorem d_Mo_signed_1 : decode b_Mo_signed 1 = .ok (.getfield 7, 3) := by decide +kernel
theorem d_Mo_signed_4 : decode b_Mo_signed 4 = .ok (.iload_n 1, 1) := by decide +kernel
theorem d_Mo_signed_5 : decode b_Mo_signed 5 = .ok (.iconst 4, 1) := by decide +kernel
theorem d_Mo_signed_6 : decode b_Mo_signed 6 = .ok (.iadd, 1) := by decide +kernel
theorem d_Mo_signed_7 : decode b_Mo_signed 7 = .ok (.iaload, 1) := by decide +kernel
theorem d_Mo_signed_8 : decode b_Mo_signed 8 = .ok (.istore_n 2, 1) := by decide +kernel
theorem d_Mo_signed_9 : decode b_Mo_signed 9 = .ok (.iload_n 2, 1) := by decide +kernel
theorem d_Mo_signed_10 : decode b_Mo_signed 10 = .ok (.ifCond .lt (9), 3) := by decide +kernel
theorem d_Mo_signed_13 : decode b_Mo_signed 13 = .ok (.iload_n 2, 1) := by decide +kernel
theorem d_Mo_signed_14 : decode b_Mo_signed 14 = .ok (.bipush 7, 2) := by decide +kernel
theorem d_Mo_signed_16 : decode b_Mo_signed 16 = .ok (.if_icmp .le (5), 3) := by decide +kernel
theorem d_Mo_signed_19 : decode b_Mo_signed 19 = .ok (.iconst 0, 1) := by decide +kernel
theorem d_Mo_signed_20 : decode b_Mo_signed 20 = .ok (.ireturn, 1) := by decide +kernel
theorem d_Mo_signed_21 : decode b_Mo_signed 21 = .ok (.aload_n 0, 1) := by decide +kernel
theorem d_Mo_signed_22 : decode b_Mo_signed 22 = .ok (.invokevirtual 73, 3) := by decide +kernel
theorem d_Mo_signed_25 : decode b_Mo_signed 25 = .ok (.istore_n 3, 1) := by decide +kernel
theorem d_Mo_signed_26 : decode b_Mo_signed 26 = .ok (.aload_n 0, 1) := by decide +kernel
theorem d_Mo_signed_27 : decode b_Mo_signed 27 = .ok (.iload_n 1, 1) := by decide +kernel
theorem d_Mo_signed_28 : decode b_Mo_signed 28 = .ok (.invokevirtual 77, 3) := by decide +kernel
theorem d_Mo_signed_31 : decode b_Mo_signed 31 = .ok (.iconst 0, 1) := by decide +kernel
theorem d_Mo_signed_32 : decode b_Mo_signed 32 = .ok (.istore 4, 2) := by decide +kernel
theorem d_Mo_signed_34 : decode b_Mo_signed 34 = .ok (.iload 4, 2) := by decide +kernel
theorem d_Mo_signed_36 : decode b_Mo_signed 36 = .ok (.bipush 6, 2) := by decide +kernel
theorem d_Mo_signed_38 : decode b_Mo_signed 38 = .ok (.if_icmp .ge (41), 3) := by decide +kernel
theorem d_Mo_signed_41 : decode b_Mo_signed 41 = .ok (.aload_n 0, 1) := by decide +kernel
theorem d_Mo_signed_42 : decode b_Mo_signed 42 = .ok (.getfield 26, 3) := by decide +kernel
theorem d_Mo_signed_45 : decode b_Mo_signed 45 = .ok (.iload 4, 2) := by decide +kernel
theorem d_Mo_signed_47 : decode b_Mo_signed 47 = .ok (.aload_n 0, 1) := by decide +kernel
theorem d_Mo_signed_48 : decode b_Mo_signed 48 = .ok (.getfield 7, 3) := by decide +kernel
theorem d_Mo_signed_51 : decode b_Mo_signed 51 = .ok (.iload_n 1, 1) := by decide +kernel
theorem d_Mo_signed_52 : decode b_Mo_signed 52 = .ok (.iconst 5, 1) := by decide +kernel
theorem d_Mo_signed_53 : decode b_Mo_signed 53 = .ok (.iadd, 1) := by decide +kernel
theorem d_Mo_signed_54 : decode b_Mo_signed 54 = .ok (.iload 4, 2) := by decide +kernel
theorem d_Mo_signed_56 : decode b_Mo_signed 56 = .ok (.iadd, 1) := by decide +kernel
theorem d_Mo_signed_57 : decode b_Mo_signed 57 = .ok (.iaload, 1) := by decide +kernel
theorem d_Mo_signed_58 : decode b_Mo_signed 58 = .ok (.iload 4, 2) := by decide +kernel
theorem d_Mo_signed_60 : decode b_Mo_signed 60 = .ok (.aload_n 0, 1) := by decide +kernel
theorem d_Mo_signed_61 : decode b_Mo_signed 61 = .ok (.getfield 23, 3) := by decide +kernel
theorem d_Mo_signed_64 : decode b_Mo_signed 64 = .ok (.iload 4, 2) := by decide +kernel
theorem d_Mo_signed_66 : decode b_Mo_signed 66 = .ok (.iaload, 1) := by decide +kernel
theorem d_Mo_signed_67 : decode b_Mo_signed 67 = .ok (.bipush 15, 2) := by decide +kernel
theorem d_Mo_signed_69 : decode b_Mo_signed 69 = .ok (.invokestatic 55, 3) := by decide +kernel
theorem d_Mo_signed_72 : decode b_Mo_signed 72 = .ok (.iastore, 1) := by decide +kernel
theorem d_Mo_signed_73 : decode b_Mo_signed 73 = .ok (.iinc 4 (1), 3) := by decide +kernel
theorem d_Mo_signed_76 : decode b_Mo_signed 76 = .ok (.goto (-42), 3) := by decide +kernel
theorem d_Mo_signed_79 : decode b_Mo_signed 79 = .ok (.aload_n 0, 1) := by decide +kernel
theorem d_Mo_signed_80 : decode b_Mo_signed 80 = .ok (.iload_n 2, 1) := by decide +kernel
theorem d_Mo_signed_81 : decode b_Mo_signed 81 = .ok (.invokevirtual 63, 3) := by decide +kernel
theorem d_Mo_signed_84 : decode b_Mo_signed 84 = .ok (.istore 4, 2) := by decide +kernel
theorem d_Mo_signed_86 : decode b_Mo_signed 86 = .ok (.bipush 8, 2) := by decide +kernel
theorem d_Mo_signed_88 : decode b_Mo_signed 88 = .ok (.iload_n 2, 1) := by decide +kernel
theorem d_Mo_signed_89 : decode b_Mo_signed 89 = .ok (.iadd, 1) := by decide +kernel
theorem d_Mo_signed_90 : decode b_Mo_signed 90 = .ok (.istore 5, 2) := by decide +kernel
theorem d_Mo_signed_92 : decode b_Mo_signed 92 = .ok (.bipush 11, 2) := by decide +kernel
theorem d_Mo_signed_94 : decode b_Mo_signed 94 = .ok (.istore 6, 2) := by decide +kernel
theorem d_Mo_signed_96 : decode b_Mo_signed 96 = .ok (.iload 6, 2) := by decide +kernel
theorem d_Mo_signed_98 : decode b_Mo_signed 98 = .ok (.bipush 14, 2) := by decide +kernel
theorem d_Mo_signed_100 : decode b_Mo_signed 100 = .ok (.if_icmp .ge (60), 3) := by decide +kernel
theorem d_Mo_signed_103 : decode b_Mo_signed 103 = .ok (.aload_n 0, 1) := by decide +kernel
theorem d_Mo_signed_104 : decode b_Mo_signed 104 = .ok (.getfield 7, 3) := by decide +kernel
theorem d_Mo_signed_107 : decode b_Mo_signed 107 = .ok (.iload_n 1, 1) := by decide +kernel
theorem d_Mo_signed_108 : decode b_Mo_signed 108 = .ok (.iload 6, 2) := by decide +kernel
theorem d_Mo_signed_110 : decode b_Mo_signed 110 = .ok (.iadd, 1) := by decide +kernel
theorem d_Mo_signed_111 : decode b_Mo_signed 111 = .ok (.iaload, 1) := by decide +kernel
theorem d_Mo_signed_112 : decode b_Mo_signed 112 = .ok (.istore 7, 2) := by decide +kernel
theorem d_Mo_signed_114 : decode b_Mo_signed 114 = .ok (.iload 5, 2) := by decide +kernel
theorem d_Mo_signed_116 : decode b_Mo_signed 116 = .ok (.iconst 2, 1) := by decide +kernel
theorem d_Mo_signed_117 : decode b_Mo_signed 117 = .ok (.irem, 1) := by decide +kernel
theorem d_Mo_signed_118 : decode b_Mo_signed 118 = .ok (.ifCond .ne (17), 3) := by decide +kernel
theorem d_Mo_signed_121 : decode b_Mo_signed 121 = .ok (.iload 4, 2) := by decide +kernel
theorem d_Mo_signed_123 : decode b_Mo_signed 123 = .ok (.iload 7, 2) := by decide +kernel
theorem d_Mo_signed_125 : decode b_Mo_signed 125 = .ok (.iload 5, 2) := by decide +kernel
theorem d_Mo_signed_127 : decode b_Mo_signed 127 = .ok (.iconst 2, 1) := by decide +kernel
theorem d_Mo_signed_128 : decode b_Mo_signed 128 = .ok (.idiv, 1) := by decide +kernel
theorem d_Mo_signed_129 : decode b_Mo_signed 129 = .ok (.invokestatic 67, 3) := by decide +kernel
theorem d_Mo_signed_132 : decode b_Mo_signed 132 = .ok (.goto (14), 3) := by decide +kernel
theorem d_Mo_signed_135 : decode b_Mo_signed 135 = .ok (.iload 7, 2) := by decide +kernel
theorem d_Mo_signed_137 : decode b_Mo_signed 137 = .ok (.iload 4, 2) := by decide +kernel
theorem d_Mo_signed_139 : decode b_Mo_signed 139 = .ok (.iload 5, 2) := by decide +kernel
theorem d_Mo_signed_141 : decode b_Mo_signed 141 = .ok (.iconst 2, 1) := by decide +kernel
theorem d_Mo_signed_142 : decode b_Mo_signed 142 = .ok (.idiv, 1) := by decide +kernel
theorem d_Mo_signed_143 : decode b_Mo_signed 143 = .ok (.invokestatic 67, 3) := by decide +kernel
theorem d_Mo_signed_146 : decode b_Mo_signed 146 = .ok (.istore 4, 2) := by decide +kernel
theorem d_Mo_signed_148 : decode b_Mo_signed 148 = .ok (.iload 5, 2) := by decide +kernel
theorem d_Mo_signed_150 : decode b_Mo_signed 150 = .ok (.iconst 2, 1) := by decide +kernel
theorem d_Mo_signed_151 : decode b_Mo_signed 151 = .ok (.idiv, 1) := by decide +kernel
theorem d_Mo_signed_152 : decode b_Mo_signed 152 = .ok (.istore 5, 2) := by decide +kernel
theorem d_Mo_signed_154 : decode b_Mo_signed 154 = .ok (.iinc 6 (1), 3) := by decide +kernel
theorem d_Mo_signed_157 : decode b_Mo_signed 157 = .ok (.goto (-61), 3) := by decide +kernel
theorem d_Mo_signed_160 : decode b_Mo_signed 160 = .ok (.iload 4, 2) := by decide +kernel
theorem d_Mo_signed_162 : decode b_Mo_signed 162 = .ok (.iload_n 3, 1) := by decide +kernel
theorem d_Mo_signed_163 : decode b_Mo_signed 163 = .ok (.if_icmp .ne (7), 3) := by decide +kernel
theorem d_Mo_signed_166 : decode b_Mo_signed 166 = .ok (.iconst 1, 1) := by decide +kernel
theorem d_Mo_signed_167 : decode b_Mo_signed 167 = .ok (.goto (4), 3) := by decide +kernel
theorem d_Mo_signed_170 : decode b_Mo_signed 170 = .ok (.iconst 0, 1) := by decide +kernel
theorem d_Mo_signed_171 : decode b_Mo_signed 171 = .ok (.ireturn, 1) := by decide +kernel
theorem d_Mo_pack_0 : decode b_Mo_pack 0 = .ok (.aload_n 0, 1) := by decide +kernel
theorem d_Mo_pack_1 : decode b_Mo_pack 1 = .ok (.getfield 7, 3) := by decide +kernel
theorem d_Mo_pack_4 : decode b_Mo_pack 4 = .ok (.iload_n 1, 1) := by decide +kernel
theorem d_Mo_pack_5 : decode b_Mo_pack 5 = .ok (.iload_n 3, 1) := by decide +kernel
theorem d_Mo_pack_6 : decode b_Mo_pack 6 = .ok (.iastore, 1) := by decide +kernel
theorem d_Mo_pack_7 : decode b_Mo_pack 7 = .ok (.aload_n 0, 1) := by decide +kernel
theorem d_Mo_pack_8 : decode b_Mo_pack 8 = .ok (.getfield 7, 3) := by decide +kernel
theorem d_Mo_pack_11 : decode b_Mo_pack 11 = .ok (.iload_n 1, 1) := by decide +kernel
theorem d_Mo_pack_12 : decode b_Mo_pack 12 = .ok (.iconst 4, 1) := by decide +kernel
theorem d_Mo_pack_13 : decode b_Mo_pack 13 = .ok (.iadd, 1) := by decide +kernel
theorem d_Mo_pack_14 : decode b_Mo_pack 14 = .ok (.iload_n 2, 1) := by decide +kernel
theorem d_Mo_pack_15 : decode b_Mo_pack 15 = .ok (.iastore, 1) := by decide +kernel
theorem d_Mo_pack_16 : decode b_Mo_pack 16 = .ok (.aload_n 0, 1) := by decide +kernel
theorem d_Mo_pack_17 : decode b_Mo_pack 17 = .ok (.getfield 7, 3) := by decide +kernel
theorem d_Mo_pack_20 : decode b_Mo_pack 20 = .ok (.iload_n 1, 1) := by decide +kernel
theorem d_Mo_pack_21 : decode b_Mo_pack 21 = .ok (.bipush 14, 2) := by decide +kernel
theorem d_Mo_pack_23 : decode b_Mo_pack 23 = .ok (.iadd, 1) := by decide +kernel
theorem d_Mo_pack_24 : decode b_Mo_pack 24 = .ok (.iload 4, 2) := by decide +kernel
theorem d_Mo_pack_26 : decode b_Mo_pack 26 = .ok (.iastore, 1) := by decide +kernel
theorem d_Mo_pack_27 : decode b_Mo_pack 27 = .ok (.return_, 1) := by decide +kernel
theorem d_Mo_seal_0 : decode b_Mo_seal 0 = .ok (.iconst 0, 1) := by decide +kernel
theorem d_Mo_seal_1 : decode b_Mo_seal 1 = .ok (.istore_n 3, 1) := by decide +kernel
theorem d_Mo_seal_2 : decode b_Mo_seal 2 = .ok (.iload_n 3, 1) := by decide +kernel
theorem d_Mo_seal_3 : decode b_Mo_seal 3 = .ok (.iconst 3, 1) := by decide +kernel
theorem d_Mo_seal_4 : decode b_Mo_seal 4 = .ok (.if_icmp .ge (34), 3) := by decide +kernel
theorem d_Mo_seal_7 : decode b_Mo_seal 7 = .ok (.aload_n 0, 1) := by decide +kernel
theorem d_Mo_seal_8 : decode b_Mo_seal 8 = .ok (.getfield 7, 3) := by decide +kernel
theorem d_Mo_seal_11 : decode b_Mo_seal 11 = .ok (.iload_n 1, 1) := by decide +kernel
theorem d_Mo_seal_12 : decode b_Mo_seal 12 = .ok (.iconst 1, 1) := by decide +kernel
theorem d_Mo_seal_13 : decode b_Mo_seal 13 = .ok (.iadd, 1) := by decide +kernel
theorem d_Mo_seal_14 : decode b_Mo_seal 14 = .ok (.iload_n 3, 1) := by decide +kernel
theorem d_Mo_seal_15 : decode b_Mo_seal 15 = .ok (.iadd, 1) := by decide +kernel
theorem d_Mo_seal_16 : decode b_Mo_seal 16 = .ok (.aload_n 0, 1) := by decide +kernel
theorem d_Mo_seal_17 : decode b_Mo_seal 17 = .ok (.getfield 7, 3) := by decide +kernel
theorem d_Mo_seal_20 : decode b_Mo_seal 20 = .ok (.iload_n 1, 1) := by decide +kernel
theorem d_Mo_seal_21 : decode b_Mo_seal 21 = .ok (.bipush 14, 2) := by decide +kernel
theorem d_Mo_seal_23 : decode b_Mo_seal 23 = .ok (.iadd, 1) := by decide +kernel
theorem d_Mo_seal_24 : decode b_Mo_seal 24 = .ok (.iload_n 3, 1) := by decide +kernel
theorem d_Mo_seal_25 : decode b_Mo_seal 25 = .ok (.iadd, 1) := by decide +kernel
theorem d_Mo_seal_26 : decode b_Mo_seal 26 = .ok (.iaload, 1) := by decide +kernel
theorem d_Mo_seal_27 : decode b_Mo_seal 27 = .ok (.iload_n 3, 1) := by decide +kernel
theorem d_Mo_seal_28 : decode b_Mo_seal 28 = .ok (.invokestatic 52, 3) := by decide +kernel
theorem d_Mo_seal_31 : decode b_Mo_seal 31 = .ok (.iastore, 1) := by decide +kernel
theorem d_Mo_seal_32 : decode b_Mo_seal 32 = .ok (.iinc 3 (1), 3) := by decide +kernel
theorem d_Mo_seal_35 : decode b_Mo_seal 35 = .ok (.goto (-33), 3) := by decide +kernel
theorem d_Mo_seal_38 : decode b_Mo_seal 38 = .ok (.aload_n 0, 1) := by decide +kernel
theorem d_Mo_seal_39 : decode b_Mo_seal 39 = .ok (.iload_n 1, 1) := by decide +kernel
theorem d_Mo_seal_40 : decode b_Mo_seal 40 = .ok (.invokevirtual 77, 3) := by decide +kernel
theorem d_Mo_seal_43 : decode b_Mo_seal 43 = .ok (.iconst 0, 1) := by decide +kernel
theorem d_Mo_seal_44 : decode b_Mo_seal 44 = .ok (.istore_n 3, 1) := by decide +kernel
theorem d_Mo_seal_45 : decode b_Mo_seal 45 = .ok (.iload_n 3, 1) := by decide +kernel
theorem d_Mo_seal_46 : decode b_Mo_seal 46 = .ok (.bipush 6, 2) := by decide +kernel
theorem d_Mo_seal_48 : decode b_Mo_seal 48 = .ok (.if_icmp .ge (31), 3) := by decide +kernel
theorem d_Mo_seal_51 : decode b_Mo_seal 51 = .ok (.aload_n 0, 1) := by decide +kernel
theorem d_Mo_seal_52 : decode b_Mo_seal 52 = .ok (.getfield 7, 3) := by decide +kernel
theorem d_Mo_seal_55 : decode b_Mo_seal 55 = .ok (.iload_n 1, 1) := by decide +kernel
theorem d_Mo_seal_56 : decode b_Mo_seal 56 = .ok (.iconst 5, 1) := by decide +kernel
theorem d_Mo_seal_57 : decode b_Mo_seal 57 = .ok (.iadd, 1) := by decide +kernel
theorem d_Mo_seal_58 : decode b_Mo_seal 58 = .ok (.iload_n 3, 1) := by decide +kernel
theorem d_Mo_seal_59 : decode b_Mo_seal 59 = .ok (.iadd, 1) := by decide +kernel
theorem d_Mo_seal_60 : decode b_Mo_seal 60 = .ok (.aload_n 0, 1) := by decide +kernel
theorem d_Mo_seal_61 : decode b_Mo_seal 61 = .ok (.iload_n 2, 1) := by decide +kernel
theorem d_Mo_seal_62 : decode b_Mo_seal 62 = .ok (.iload_n 3, 1) := by decide +kernel
theorem d_Mo_seal_63 : decode b_Mo_seal 63 = .ok (.aload_n 0, 1) := by decide +kernel
theorem d_Mo_seal_64 : decode b_Mo_seal 64 = .ok (.getfield 23, 3) := by decide +kernel
theorem d_Mo_seal_67 : decode b_Mo_seal 67 = .ok (.iload_n 3, 1) := by decide +kernel
theorem d_Mo_seal_68 : decode b_Mo_seal 68 = .ok (.iaload, 1) := by decide +kernel
theorem d_Mo_seal_69 : decode b_Mo_seal 69 = .ok (.invokevirtual 59, 3) := by decide +kernel
theorem d_Mo_seal_72 : decode b_Mo_seal 72 = .ok (.iastore, 1) := by decide +kernel
theorem d_Mo_seal_73 : decode b_Mo_seal 73 = .ok (.iinc 3 (1), 3) := by decide +kernel
theorem d_Mo_seal_76 : decode b_Mo_seal 76 = .ok (.goto (-31), 3) := by decide +kernel
theorem d_Mo_seal_79 : decode b_Mo_seal 79 = .ok (.aload_n 0, 1) := by decide +kernel
theorem d_Mo_seal_80 : decode b_Mo_seal 80 = .ok (.invokevirtual 70, 3) := by decide +kernel
theorem d_Mo_seal_83 : decode b_Mo_seal 83 = .ok (.bipush 8, 2) := by decide +kernel
theorem d_Mo_seal_85 : decode b_Mo_seal 85 = .ok (.iload_n 2, 1) := by decide +kernel
theorem d_Mo_seal_86 : decode b_Mo_seal 86 = .ok (.iadd, 1) := by decide +kernel
theorem d_Mo_seal_87 : decode b_Mo_seal 87 = .ok (.istore_n 3, 1) := by decide +kernel
theorem d_Mo_seal_88 : decode b_Mo_seal 88 = .ok (.bipush 11, 2) := by decide +kernel
theorem d_Mo_seal_90 : decode b_Mo_seal 90 = .ok (.istore 4, 2) := by decide +kernel
theorem d_Mo_seal_92 : decode b_Mo_seal 92 = .ok (.iload 4, 2) := by decide +kernel
theorem d_Mo_seal_94 : decode b_Mo_seal 94 = .ok (.bipush 14, 2) := by decide +kernel
theorem d_Mo_seal_96 : decode b_Mo_seal 96 = .ok (.if_icmp .ge (42), 3) := by decide +kernel
theorem d_Mo_seal_99 : decode b_Mo_seal 99 = .ok (.aload_n 0, 1) := by decide +kernel
theorem d_Mo_seal_100 : decode b_Mo_seal 100 = .ok (.getfield 7, 3) := by decide +kernel
theorem d_Mo_seal_103 : decode b_Mo_seal 103 = .ok (.iload_n 1, 1) := by decide +kernel
theorem d_Mo_seal_104 : decode b_Mo_seal 104 = .ok (.iload 4, 2) := by decide +kernel
theorem d_Mo_seal_106 : decode b_Mo_seal 106 = .ok (.iadd, 1) := by decide +kernel
theorem d_Mo_seal_107 : decode b_Mo_seal 107 = .ok (.aload_n 0, 1) := by decide +kernel
theorem d_Mo_seal_108 : decode b_Mo_seal 108 = .ok (.getfield 29, 3) := by decide +kernel
theorem d_Mo_seal_111 : decode b_Mo_seal 111 = .ok (.iload_n 3, 1) := by decide +kernel
theorem d_Mo_seal_112 : decode b_Mo_seal 112 = .ok (.iconst 2, 1) := by decide +kernel
theorem d_Mo_seal_113 : decode b_Mo_seal 113 = .ok (.irem, 1) := by decide +kernel
theorem d_Mo_seal_114 : decode b_Mo_seal 114 = .ok (.ifCond .ne (9), 3) := by decide +kernel
theorem d_Mo_seal_117 : decode b_Mo_seal 117 = .ok (.iload_n 3, 1) := by decide +kernel
theorem d_Mo_seal_118 : decode b_Mo_seal 118 = .ok (.iconst 1, 1) := by decide +kernel
theorem d_Mo_seal_119 : decode b_Mo_seal 119 = .ok (.iadd, 1) := by decide +kernel
theorem d_Mo_seal_120 : decode b_Mo_seal 120 = .ok (.goto (6), 3) := by decide +kernel
theorem d_Mo_seal_123 : decode b_Mo_seal 123 = .ok (.iload_n 3, 1) := by decide +kernel
theorem d_Mo_seal_124 : decode b_Mo_seal 124 = .ok (.iconst 1, 1) := by decide +kernel
theorem d_Mo_seal_125 : decode b_Mo_seal 125 = .ok (.isub, 1) := by decide +kernel
theorem d_Mo_seal_126 : decode b_Mo_seal 126 = .ok (.iaload, 1) := by decide +kernel
theorem d_Mo_seal_127 : decode b_Mo_seal 127 = .ok (.iastore, 1) := by decide +kernel
theorem d_Mo_seal_128 : decode b_Mo_seal 128 = .ok (.iload_n 3, 1) := by decide +kernel
theorem d_Mo_seal_129 : decode b_Mo_seal 129 = .ok (.iconst 2, 1) := by decide +kernel
theorem d_Mo_seal_130 : decode b_Mo_seal 130 = .ok (.idiv, 1) := by decide +kernel
theorem d_Mo_seal_131 : decode b_Mo_seal 131 = .ok (.istore_n 3, 1) := by decide +kernel
theorem d_Mo_seal_132 : decode b_Mo_seal 132 = .ok (.iinc 4 (1), 3) := by decide +kernel
theorem d_Mo_seal_135 : decode b_Mo_seal 135 = .ok (.goto (-43), 3) := by decide +kernel
theorem d_Mo_seal_138 : decode b_Mo_seal 138 = .ok (.return_, 1) := by decide +kernel
theorem d_Mo_sign_0 : decode b_Mo_sign 0 = .ok (.iload_n 1, 1) := by decide +kernel
theorem d_Mo_sign_1 : decode b_Mo_sign 1 = .ok (.iconst 1, 1) := by decide +kernel
theorem d_Mo_sign_2 : decode b_Mo_sign 2 = .ok (.if_icmp .lt (18), 3) := by decide +kernel
theorem d_Mo_sign_5 : decode b_Mo_sign 5 = .ok (.iload_n 1, 1) := by decide +kernel
theorem d_Mo_sign_6 : decode b_Mo_sign 6 = .ok (.bipush 32, 2) := by decide +kernel
theorem d_Mo_sign_8 : decode b_Mo_sign 8 = .ok (.if_icmp .gt (12), 3) := by decide +kernel
theorem d_Mo_sign_11 : decode b_Mo_sign 11 = .ok (.aload_n 0, 1) := by decide +kernel
theorem d_Mo_sign_12 : decode b_Mo_sign 12 = .ok (.getfield 81, 3) := by decide +kernel
theorem d_Mo_sign_15 : decode b_Mo_sign 15 = .ok (.bipush 7, 2) := by decide +kernel
theorem d_Mo_sign_17 : decode b_Mo_sign 17 = .ok (.if_icmp .ne (5), 3) := by decide +kernel
theorem d_Mo_sign_20 : decode b_Mo_sign 20 = .ok (.iconst (-1), 1) := by decide +kernel
theorem d_Mo_sign_21 : decode b_Mo_sign 21 = .ok (.ireturn, 1) := by decide +kernel
theorem d_Mo_sign_22 : decode b_Mo_sign 22 = .ok (.bipush 40, 2) := by decide +kernel
theorem d_Mo_sign_24 : decode b_Mo_sign 24 = .ok (.bipush 17, 2) := by decide +kernel
theorem d_Mo_sign_26 : decode b_Mo_sign 26 = .ok (.aload_n 0, 1) := by decide +kernel
theorem d_Mo_sign_27 : decode b_Mo_sign 27 = .ok (.getfield 81, 3) := by decide +kernel
theorem d_Mo_sign_30 : decode b_Mo_sign 30 = .ok (.imul, 1) := by decide +kernel
theorem d_Mo_sign_31 : decode b_Mo_sign 31 = .ok (.iadd, 1) := by decide +kernel
theorem d_Mo_sign_32 : decode b_Mo_sign 32 = .ok (.istore 5, 2) := by decide +kernel
theorem d_Mo_sign_34 : decode b_Mo_sign 34 = .ok (.aload_n 0, 1) := by decide +kernel
theorem d_Mo_sign_35 : decode b_Mo_sign 35 = .ok (.dup, 1) := by decide +kernel
theorem d_Mo_sign_36 : decode b_Mo_sign 36 = .ok (.getfield 81, 3) := by decide +kernel
theorem d_Mo_sign_39 : decode b_Mo_sign 39 = .ok (.iconst 1, 1) := by decide +kernel
theorem d_Mo_sign_40 : decode b_Mo_sign 40 = .ok (.iadd, 1) := by decide +kernel
theorem d_Mo_sign_41 : decode b_Mo_sign 41 = .ok (.putfield 81, 3) := by decide +kernel
theorem d_Mo_sign_44 : decode b_Mo_sign 44 = .ok (.aload_n 0, 1) := by decide +kernel
theorem d_Mo_sign_45 : decode b_Mo_sign 45 = .ok (.iload 5, 2) := by decide +kernel
theorem d_Mo_sign_47 : decode b_Mo_sign 47 = .ok (.aload_n 0, 1) := by decide +kernel
theorem d_Mo_sign_48 : decode b_Mo_sign 48 = .ok (.getfield 81, 3) := by decide +kernel
theorem d_Mo_sign_51 : decode b_Mo_sign 51 = .ok (.iload_n 1, 1) := by decide +kernel
theorem d_Mo_sign_52 : decode b_Mo_sign 52 = .ok (.iload_n 2, 1) := by decide +kernel
theorem d_Mo_sign_53 : decode b_Mo_sign 53 = .ok (.invokevirtual 38, 3) := by decide +kernel
theorem d_Mo_sign_56 : decode b_Mo_sign 56 = .ok (.aload_n 0, 1) := by decide +kernel
theorem d_Mo_sign_57 : decode b_Mo_sign 57 = .ok (.getfield 7, 3) := by decide +kernel
theorem d_Mo_sign_60 : decode b_Mo_sign 60 = .ok (.iload 5, 2) := by decide +kernel
theorem d_Mo_sign_62 : decode b_Mo_sign 62 = .ok (.bipush 15, 2) := by decide +kernel
theorem d_Mo_sign_64 : decode b_Mo_sign 64 = .ok (.iadd, 1) := by decide +kernel
theorem d_Mo_sign_65 : decode b_Mo_sign 65 = .ok (.iload_n 3, 1) := by decide +kernel
theorem d_Mo_sign_66 : decode b_Mo_sign 66 = .ok (.iastore, 1) := by decide +kernel
theorem d_Mo_sign_67 : decode b_Mo_sign 67 = .ok (.aload_n 0, 1) := by decide +kernel
theorem d_Mo_sign_68 : decode b_Mo_sign 68 = .ok (.getfield 7, 3) := by decide +kernel
theorem d_Mo_sign_71 : decode b_Mo_sign 71 = .ok (.iload 5, 2) := by decide +kernel
theorem d_Mo_sign_73 : decode b_Mo_sign 73 = .ok (.bipush 16, 2) := by decide +kernel
theorem d_Mo_sign_75 : decode b_Mo_sign 75 = .ok (.iadd, 1) := by decide +kernel
theorem d_Mo_sign_76 : decode b_Mo_sign 76 = .ok (.iload 4, 2) := by decide +kernel
theorem d_Mo_sign_78 : decode b_Mo_sign 78 = .ok (.iastore, 1) := by decide +kernel
theorem d_Mo_sign_79 : decode b_Mo_sign 79 = .ok (.aload_n 0, 1) := by decide +kernel
theorem d_Mo_sign_80 : decode b_Mo_sign 80 = .ok (.iload 5, 2) := by decide +kernel
theorem d_Mo_sign_82 : decode b_Mo_sign 82 = .ok (.aload_n 0, 1) := by decide +kernel
theorem d_Mo_sign_83 : decode b_Mo_sign 83 = .ok (.getfield 81, 3) := by decide +kernel
theorem d_Mo_sign_86 : decode b_Mo_sign 86 = .ok (.invokevirtual 42, 3) := by decide +kernel
theorem d_Mo_sign_89 : decode b_Mo_sign 89 = .ok (.aload_n 0, 1) := by decide +kernel
theorem d_Mo_sign_90 : decode b_Mo_sign 90 = .ok (.getfield 81, 3) := by decide +kernel
theorem d_Mo_sign_93 : decode b_Mo_sign 93 = .ok (.iconst 1, 1) := by decide +kernel
theorem d_Mo_sign_94 : decode b_Mo_sign 94 = .ok (.isub, 1) := by decide +kernel
theorem d_Mo_sign_95 : decode b_Mo_sign 95 = .ok (.ireturn, 1) := by decide +kernel
theorem d_Mo_noWord_0 : decode b_Mo_noWord 0 = .ok (.iload_n 1, 1) := by decide +kernel
theorem d_Mo_noWord_1 : decode b_Mo_noWord 1 = .ok (.ifCond .lt (21), 3) := by decide +kernel
theorem d_Mo_noWord_4 : decode b_Mo_noWord 4 = .ok (.iload_n 1, 1) := by decide +kernel
theorem d_Mo_noWord_5 : decode b_Mo_noWord 5 = .ok (.aload_n 0, 1) := by decide +kernel
theorem d_Mo_noWord_6 : decode b_Mo_noWord 6 = .ok (.getfield 81, 3) := by decide +kernel
theorem d_Mo_noWord_9 : decode b_Mo_noWord 9 = .ok (.if_icmp .ge (13), 3) := by decide +kernel
theorem d_Mo_noWord_12 : decode b_Mo_noWord 12 = .ok (.iload_n 2, 1) := by decide +kernel
theorem d_Mo_noWord_13 : decode b_Mo_noWord 13 = .ok (.ifCond .lt (9), 3) := by decide +kernel
theorem d_Mo_noWord_16 : decode b_Mo_noWord 16 = .ok (.iload_n 2, 1) := by decide +kernel
theorem d_Mo_noWord_17 : decode b_Mo_noWord 17 = .ok (.bipush 16, 2) := by decide +kernel
theorem d_Mo_noWord_19 : decode b_Mo_noWord 19 = .ok (.if_icmp .le (7), 3) := by decide +kernel
theorem d_Mo_noWord_22 : decode b_Mo_noWord 22 = .ok (.iconst 1, 1) := by decide +kernel
theorem d_Mo_noWord_23 : decode b_Mo_noWord 23 = .ok (.goto (4), 3) := by decide +kernel
theorem d_Mo_noWord_26 : decode b_Mo_noWord 26 = .ok (.iconst 0, 1) := by decide +kernel
theorem d_Mo_noWord_27 : decode b_Mo_noWord 27 = .ok (.ireturn, 1) := by decide +kernel
theorem d_Mo_alter_0 : decode b_Mo_alter 0 = .ok (.aload_n 0, 1) := by decide +kernel
theorem d_Mo_alter_1 : decode b_Mo_alter 1 = .ok (.iload_n 1, 1) := by decide +kernel
theorem d_Mo_alter_2 : decode b_Mo_alter 2 = .ok (.iload_n 2, 1) := by decide +kernel
theorem d_Mo_alter_3 : decode b_Mo_alter 3 = .ok (.invokevirtual 84, 3) := by decide +kernel
theorem d_Mo_alter_6 : decode b_Mo_alter 6 = .ok (.ifCond .eq (5), 3) := by decide +kernel
theorem d_Mo_alter_9 : decode b_Mo_alter 9 = .ok (.iconst 0, 1) := by decide +kernel
theorem d_Mo_alter_10 : decode b_Mo_alter 10 = .ok (.ireturn, 1) := by decide +kernel
theorem d_Mo_alter_11 : decode b_Mo_alter 11 = .ok (.aload_n 0, 1) := by decide +kernel
theorem d_Mo_alter_12 : decode b_Mo_alter 12 = .ok (.getfield 7, 3) := by decide +kernel
theorem d_Mo_alter_15 : decode b_Mo_alter 15 = .ok (.bipush 40, 2) := by decide +kernel
theorem d_Mo_alter_17 : decode b_Mo_alter 17 = .ok (.bipush 17, 2) := by decide +kernel
theorem d_Mo_alter_19 : decode b_Mo_alter 19 = .ok (.iload_n 1, 1) := by decide +kernel
theorem d_Mo_alter_20 : decode b_Mo_alter 20 = .ok (.imul, 1) := by decide +kernel
theorem d_Mo_alter_21 : decode b_Mo_alter 21 = .ok (.iadd, 1) := by decide +kernel
theorem d_Mo_alter_22 : decode b_Mo_alter 22 = .ok (.iload_n 2, 1) := by decide +kernel
theorem d_Mo_alter_23 : decode b_Mo_alter 23 = .ok (.iadd, 1) := by decide +kernel
theorem d_Mo_alter_24 : decode b_Mo_alter 24 = .ok (.iload_n 3, 1) := by decide +kernel
theorem d_Mo_alter_25 : decode b_Mo_alter 25 = .ok (.iastore, 1) := by decide +kernel
theorem d_Mo_alter_26 : decode b_Mo_alter 26 = .ok (.iconst 1, 1) := by decide +kernel
theorem d_Mo_alter_27 : decode b_Mo_alter 27 = .ok (.ireturn, 1) := by decide +kernel
theorem d_Mo_word_0 : decode b_Mo_word 0 = .ok (.aload_n 0, 1) := by decide +kernel
theorem d_Mo_word_1 : decode b_Mo_word 1 = .ok (.iload_n 1, 1) := by decide +kernel
theorem d_Mo_word_2 : decode b_Mo_word 2 = .ok (.iload_n 2, 1) := by decide +kernel
theorem d_Mo_word_3 : decode b_Mo_word 3 = .ok (.invokevirtual 84, 3) := by decide +kernel
theorem d_Mo_word_6 : decode b_Mo_word 6 = .ok (.ifCond .eq (7), 3) := by decide +kernel
theorem d_Mo_word_9 : decode b_Mo_word 9 = .ok (.iconst 0, 1) := by decide +kernel
theorem d_Mo_word_10 : decode b_Mo_word 10 = .ok (.goto (17), 3) := by decide +kernel
theorem d_Mo_word_13 : decode b_Mo_word 13 = .ok (.aload_n 0, 1) := by decide +kernel
theorem d_Mo_word_14 : decode b_Mo_word 14 = .ok (.getfield 7, 3) := by decide +kernel
theorem d_Mo_word_17 : decode b_Mo_word 17 = .ok (.bipush 40, 2) := by decide +kernel
theorem d_Mo_word_19 : decode b_Mo_word 19 = .ok (.bipush 17, 2) := by decide +kernel
theorem d_Mo_word_21 : decode b_Mo_word 21 = .ok (.iload_n 1, 1) := by decide +kernel
theorem d_Mo_word_22 : decode b_Mo_word 22 = .ok (.imul, 1) := by decide +kernel
theorem d_Mo_word_23 : decode b_Mo_word 23 = .ok (.iadd, 1) := by decide +kernel
theorem d_Mo_word_24 : decode b_Mo_word 24 = .ok (.iload_n 2, 1) := by decide +kernel
theorem d_Mo_word_25 : decode b_Mo_word 25 = .ok (.iadd, 1) := by decide +kernel
theorem d_Mo_word_26 : decode b_Mo_word 26 = .ok (.iaload, 1) := by decide +kernel
theorem d_Mo_word_27 : decode b_Mo_word 27 = .ok (.ireturn, 1) := by decide +kernel
theorem d_Mo_stranger_0 : decode b_Mo_stranger 0 = .ok (.iconst 0, 1) := by decide +kernel
theorem d_Mo_stranger_1 : decode b_Mo_stranger 1 = .ok (.istore_n 2, 1) := by decide +kernel
theorem d_Mo_stranger_2 : decode b_Mo_stranger 2 = .ok (.iload_n 2, 1) := by decide +kernel
theorem d_Mo_stranger_3 : decode b_Mo_stranger 3 = .ok (.iconst 3, 1) := by decide +kernel
theorem d_Mo_stranger_4 : decode b_Mo_stranger 4 = .ok (.if_icmp .ge (37), 3) := by decide +kernel
theorem d_Mo_stranger_7 : decode b_Mo_stranger 7 = .ok (.aload_n 0, 1) := by decide +kernel
theorem d_Mo_stranger_8 : decode b_Mo_stranger 8 = .ok (.getfield 7, 3) := by decide +kernel
theorem d_Mo_stranger_11 : decode b_Mo_stranger 11 = .ok (.iload_n 1, 1) := by decide +kernel
theorem d_Mo_stranger_12 : decode b_Mo_stranger 12 = .ok (.iconst 1, 1) := by decide +kernel
theorem d_Mo_stranger_13 : decode b_Mo_stranger 13 = .ok (.iadd, 1) := by decide +kernel
theorem d_Mo_stranger_14 : decode b_Mo_stranger 14 = .ok (.iload_n 2, 1) := by decide +kernel
theorem d_Mo_stranger_15 : decode b_Mo_stranger 15 = .ok (.iadd, 1) := by decide +kernel
theorem d_Mo_stranger_16 : decode b_Mo_stranger 16 = .ok (.iaload, 1) := by decide +kernel
theorem d_Mo_stranger_17 : decode b_Mo_stranger 17 = .ok (.aload_n 0, 1) := by decide +kernel
theorem d_Mo_stranger_18 : decode b_Mo_stranger 18 = .ok (.getfield 7, 3) := by decide +kernel
theorem d_Mo_stranger_21 : decode b_Mo_stranger 21 = .ok (.iload_n 1, 1) := by decide +kernel
theorem d_Mo_stranger_22 : decode b_Mo_stranger 22 = .ok (.bipush 14, 2) := by decide +kernel
theorem d_Mo_stranger_24 : decode b_Mo_stranger 24 = .ok (.iadd, 1) := by decide +kernel
theorem d_Mo_stranger_25 : decode b_Mo_stranger 25 = .ok (.iload_n 2, 1) := by decide +kernel
theorem d_Mo_stranger_26 : decode b_Mo_stranger 26 = .ok (.iadd, 1) := by decide +kernel
theorem d_Mo_stranger_27 : decode b_Mo_stranger 27 = .ok (.iaload, 1) := by decide +kernel
theorem d_Mo_stranger_28 : decode b_Mo_stranger 28 = .ok (.iload_n 2, 1) := by decide +kernel
theorem d_Mo_stranger_29 : decode b_Mo_stranger 29 = .ok (.invokestatic 52, 3) := by decide +kernel
theorem d_Mo_stranger_32 : decode b_Mo_stranger 32 = .ok (.if_icmp .ne (9), 3) := by decide +kernel
theorem d_Mo_stranger_35 : decode b_Mo_stranger 35 = .ok (.iinc 2 (1), 3) := by decide +kernel
theorem d_Mo_stranger_38 : decode b_Mo_stranger 38 = .ok (.goto (-36), 3) := by decide +kernel
theorem d_Mo_stranger_41 : decode b_Mo_stranger 41 = .ok (.iload_n 2, 1) := by decide +kernel
theorem d_Mo_stranger_42 : decode b_Mo_stranger 42 = .ok (.ireturn, 1) := by decide +kernel
theorem d_Mo_fault_0 : decode b_Mo_fault 0 = .ok (.aload_n 0, 1) := by decide +kernel
theorem d_Mo_fault_1 : decode b_Mo_fault 1 = .ok (.iload_n 1, 1) := by decide +kernel
theorem d_Mo_fault_2 : decode b_Mo_fault 2 = .ok (.iconst 0, 1) := by decide +kernel
theorem d_Mo_fault_3 : decode b_Mo_fault 3 = .ok (.invokevirtual 84, 3) := by decide +kernel
theorem d_Mo_fault_6 : decode b_Mo_fault 6 = .ok (.ifCond .eq (5), 3) := by decide +kernel
theorem d_Mo_fault_9 : decode b_Mo_fault 9 = .ok (.iconst (-1), 1) := by decide +kernel
theorem d_Mo_fault_10 : decode b_Mo_fault 10 = .ok (.ireturn, 1) := by decide +kernel
theorem d_Mo_fault_11 : decode b_Mo_fault 11 = .ok (.bipush 40, 2) := by decide +kernel
theorem d_Mo_fault_13 : decode b_Mo_fault 13 = .ok (.bipush 17, 2) := by decide +kernel
theorem d_Mo_fault_15 : decode b_Mo_fault 15 = .ok (.iload_n 1, 1) := by decide +kernel
theorem d_Mo_fault_16 : decode b_Mo_fault 16 = .ok (.imul, 1) := by decide +kernel
theorem d_Mo_fault_17 : decode b_Mo_fault 17 = .ok (.iadd, 1) := by decide +kernel
theorem d_Mo_fault_18 : decode b_Mo_fault 18 = .ok (.istore_n 2, 1) := by decide +kernel
theorem d_Mo_fault_19 : decode b_Mo_fault 19 = .ok (.aload_n 0, 1) := by decide +kernel
theorem d_Mo_fault_20 : decode b_Mo_fault 20 = .ok (.getfield 7, 3) := by decide +kernel
theorem d_Mo_fault_23 : decode b_Mo_fault 23 = .ok (.iload_n 2, 1) := by decide +kernel
theorem d_Mo_fault_24 : decode b_Mo_fault 24 = .ok (.iaload, 1) := by decide +kernel
theorem d_Mo_fault_25 : decode b_Mo_fault 25 = .ok (.iconst 1, 1) := by decide +kernel
theorem d_Mo_fault_26 : decode b_Mo_fault 26 = .ok (.if_icmp .lt (14), 3) := by decide +kernel
theorem d_Mo_fault_29 : decode b_Mo_fault 29 = .ok (.aload_n 0, 1) := by decide +kernel
theorem d_Mo_fault_30 : decode b_Mo_fault 30 = .ok (.getfield 7, 3) := by decide +kernel
theorem d_Mo_fault_33 : decode b_Mo_fault 33 = .ok (.iload_n 2, 1) := by decide +kernel
theorem d_Mo_fault_34 : decode b_Mo_fault 34 = .ok (.iaload, 1) := by decide +kernel
theorem d_Mo_fault_35 : decode b_Mo_fault 35 = .ok (.bipush 32, 2) := by decide +kernel
theorem d_Mo_fault_37 : decode b_Mo_fault 37 = .ok (.if_icmp .le (5), 3) := by decide +kernel
theorem d_Mo_fault_40 : decode b_Mo_fault 40 = .ok (.iconst 1, 1) := by decide +kernel
