theorem d_TS_init_0 : decode b_TS_init 0 = .ok (.aload_n 0, 1) := by decide +kernel
theorem d_TS_init_1 : decode b_TS_init 1 = .ok (.invokespecial 3, 3) := by decide +kernel
theorem d_TS_init_4 : decode b_TS_init 4 = .ok (.aload_n 0, 1) := by decide +kernel
theorem d_TS_init_5 : decode b_TS_init 5 = .ok (.new 9, 3) := by decide +kernel
theorem d_TS_init_8 : decode b_TS_init 8 = .ok (.dup, 1) := by decide +kernel
theorem d_TS_init_9 : decode b_TS_init 9 = .ok (.iload_n 1, 1) := by decide +kernel
theorem d_TS_init_10 : decode b_TS_init 10 = .ok (.invokespecial 11, 3) := by decide +kernel
theorem d_TS_init_13 : decode b_TS_init 13 = .ok (.putfield 14, 3) := by decide +kernel
theorem d_TS_init_16 : decode b_TS_init 16 = .ok (.bipush 17, 2) := by decide +kernel
theorem d_TS_init_18 : decode b_TS_init 18 = .ok (.newarray .int, 2) := by decide +kernel
theorem d_TS_init_20 : decode b_TS_init 20 = .ok (.astore_n 3, 1) := by decide +kernel
theorem d_TS_init_21 : decode b_TS_init 21 = .ok (.aload_n 0, 1) := by decide +kernel
theorem d_TS_init_22 : decode b_TS_init 22 = .ok (.getfield 14, 3) := by decide +kernel
theorem d_TS_init_25 : decode b_TS_init 25 = .ok (.aload_n 3, 1) := by decide +kernel
theorem d_TS_init_26 : decode b_TS_init 26 = .ok (.iconst 0, 1) := by decide +kernel
theorem d_TS_init_27 : decode b_TS_init 27 = .ok (.iconst 1, 1) := by decide +kernel
theorem d_TS_init_28 : decode b_TS_init 28 = .ok (.iload_n 2, 1) := by decide +kernel
theorem d_TS_init_29 : decode b_TS_init 29 = .ok (.iload_n 2, 1) := by decide +kernel
theorem d_TS_init_30 : decode b_TS_init 30 = .ok (.iconst 1, 1) := by decide +kernel
theorem d_TS_init_31 : decode b_TS_init 31 = .ok (.iadd, 1) := by decide +kernel
theorem d_TS_init_32 : decode b_TS_init 32 = .ok (.iload_n 2, 1) := by decide +kernel
theorem d_TS_init_33 : decode b_TS_init 33 = .ok (.iconst 2, 1) := by decide +kernel
theorem d_TS_init_34 : decode b_TS_init 34 = .ok (.iadd, 1) := by decide +kernel
theorem d_TS_init_35 : decode b_TS_init 35 = .ok (.invokevirtual 22, 3) := by decide +kernel
theorem d_TS_init_38 : decode b_TS_init 38 = .ok (.aload_n 0, 1) := by decide +kernel
theorem d_TS_init_39 : decode b_TS_init 39 = .ok (.new 26, 3) := by decide +kernel
theorem d_TS_init_42 : decode b_TS_init 42 = .ok (.dup, 1) := by decide +kernel
theorem d_TS_init_43 : decode b_TS_init 43 = .ok (.aload_n 3, 1) := by decide +kernel
theorem d_TS_init_44 : decode b_TS_init 44 = .ok (.invokespecial 28, 3) := by decide +kernel
theorem d_TS_init_47 : decode b_TS_init 47 = .ok (.putfield 31, 3) := by decide +kernel
theorem d_TS_init_50 : decode b_TS_init 50 = .ok (.aload_n 0, 1) := by decide +kernel
theorem d_TS_init_51 : decode b_TS_init 51 = .ok (.bipush 119, 2) := by decide +kernel
theorem d_TS_init_53 : decode b_TS_init 53 = .ok (.newarray .int, 2) := by decide +kernel
theorem d_TS_init_55 : decode b_TS_init 55 = .ok (.putfield 35, 3) := by decide +kernel
theorem d_TS_init_58 : decode b_TS_init 58 = .ok (.aload_n 0, 1) := by decide +kernel
theorem d_TS_init_59 : decode b_TS_init 59 = .ok (.iconst 0, 1) := by decide +kernel
theorem d_TS_init_60 : decode b_TS_init 60 = .ok (.putfield 39, 3) := by decide +kernel
theorem d_TS_init_63 : decode b_TS_init 63 = .ok (.aload_n 0, 1) := by decide +kernel
theorem d_TS_init_64 : decode b_TS_init 64 = .ok (.iconst 3, 1) := by decide +kernel
theorem d_TS_init_65 : decode b_TS_init 65 = .ok (.newarray .int, 2) := by decide +kernel
theorem d_TS_init_67 : decode b_TS_init 67 = .ok (.putfield 43, 3) := by decide +kernel
theorem d_TS_init_70 : decode b_TS_init 70 = .ok (.aload_n 0, 1) := by decide +kernel
theorem d_TS_init_71 : decode b_TS_init 71 = .ok (.iconst (-1), 1) := by decide +kernel
theorem d_TS_init_72 : decode b_TS_init 72 = .ok (.putfield 46, 3) := by decide +kernel
theorem d_TS_init_75 : decode b_TS_init 75 = .ok (.aload_n 0, 1) := by decide +kernel
theorem d_TS_init_76 : decode b_TS_init 76 = .ok (.iconst 0, 1) := by decide +kernel
theorem d_TS_init_77 : decode b_TS_init 77 = .ok (.putfield 49, 3) := by decide +kernel
theorem d_TS_init_80 : decode b_TS_init 80 = .ok (.aload_n 0, 1) := by decide +kernel
theorem d_TS_init_81 : decode b_TS_init 81 = .ok (.iconst 0, 1) := by decide +kernel
theorem d_TS_init_82 : decode b_TS_init 82 = .ok (.putfield 53, 3) := by decide +kernel
theorem d_TS_init_85 : decode b_TS_init 85 = .ok (.aload_n 0, 1) := by decide +kernel
theorem d_TS_init_86 : decode b_TS_init 86 = .ok (.iconst 0, 1) := by decide +kernel
theorem d_TS_init_87 : decode b_TS_init 87 = .ok (.putfield 56, 3) := by decide +kernel
theorem d_TS_init_90 : decode b_TS_init 90 = .ok (.return_, 1) := by decide +kernel
theorem d_TS_key_0 : decode b_TS_key 0 = .ok (.aload_n 0, 1) := by decide +kernel
theorem d_TS_key_1 : decode b_TS_key 1 = .ok (.getfield 14, 3) := by decide +kernel
theorem d_TS_key_4 : decode b_TS_key 4 = .ok (.invokevirtual 59, 3) := by decide +kernel
theorem d_TS_key_7 : decode b_TS_key 7 = .ok (.ireturn, 1) := by decide +kernel
theorem d_TS_sign_0 : decode b_TS_sign 0 = .ok (.iload_n 1, 1) := by decide +kernel
theorem d_TS_sign_1 : decode b_TS_sign 1 = .ok (.invokestatic 63, 3) := by decide +kernel
theorem d_TS_sign_4 : decode b_TS_sign 4 = .ok (.ifCond .eq (22), 3) := by decide +kernel
theorem d_TS_sign_7 : decode b_TS_sign 7 = .ok (.aload_n 0, 1) := by decide +kernel
theorem d_TS_sign_8 : decode b_TS_sign 8 = .ok (.getfield 14, 3) := by decide +kernel
theorem d_TS_sign_11 : decode b_TS_sign 11 = .ok (.invokevirtual 67, 3) := by decide +kernel
theorem d_TS_sign_14 : decode b_TS_sign 14 = .ok (.ifCond .eq (12), 3) := by decide +kernel
theorem d_TS_sign_17 : decode b_TS_sign 17 = .ok (.aload_n 0, 1) := by decide +kernel
theorem d_TS_sign_18 : decode b_TS_sign 18 = .ok (.getfield 39, 3) := by decide +kernel
theorem d_TS_sign_21 : decode b_TS_sign 21 = .ok (.bipush 7, 2) := by decide +kernel
theorem d_TS_sign_23 : decode b_TS_sign 23 = .ok (.if_icmp .lt (5), 3) := by decide +kernel
theorem d_TS_sign_26 : decode b_TS_sign 26 = .ok (.iconst (-1), 1) := by decide +kernel
theorem d_TS_sign_27 : decode b_TS_sign 27 = .ok (.ireturn, 1) := by decide +kernel
theorem d_TS_sign_28 : decode b_TS_sign 28 = .ok (.aload_n 0, 1) := by decide +kernel
theorem d_TS_sign_29 : decode b_TS_sign 29 = .ok (.getfield 39, 3) := by decide +kernel
theorem d_TS_sign_32 : decode b_TS_sign 32 = .ok (.istore 5, 2) := by decide +kernel
theorem d_TS_sign_34 : decode b_TS_sign 34 = .ok (.aload_n 0, 1) := by decide +kernel
theorem d_TS_sign_35 : decode b_TS_sign 35 = .ok (.getfield 14, 3) := by decide +kernel
theorem d_TS_sign_38 : decode b_TS_sign 38 = .ok (.aload_n 0, 1) := by decide +kernel
theorem d_TS_sign_39 : decode b_TS_sign 39 = .ok (.getfield 35, 3) := by decide +kernel
theorem d_TS_sign_42 : decode b_TS_sign 42 = .ok (.iload 5, 2) := by decide +kernel
theorem d_TS_sign_44 : decode b_TS_sign 44 = .ok (.invokestatic 71, 3) := by decide +kernel
theorem d_TS_sign_47 : decode b_TS_sign 47 = .ok (.iload_n 1, 1) := by decide +kernel
theorem d_TS_sign_48 : decode b_TS_sign 48 = .ok (.iload_n 2, 1) := by decide +kernel
theorem d_TS_sign_49 : decode b_TS_sign 49 = .ok (.iload_n 3, 1) := by decide +kernel
theorem d_TS_sign_50 : decode b_TS_sign 50 = .ok (.iload 4, 2) := by decide +kernel
theorem d_TS_sign_52 : decode b_TS_sign 52 = .ok (.invokevirtual 22, 3) := by decide +kernel
theorem d_TS_sign_55 : decode b_TS_sign 55 = .ok (.aload_n 0, 1) := by decide +kernel
theorem d_TS_sign_56 : decode b_TS_sign 56 = .ok (.dup, 1) := by decide +kernel
theorem d_TS_sign_57 : decode b_TS_sign 57 = .ok (.getfield 39, 3) := by decide +kernel
theorem d_TS_sign_60 : decode b_TS_sign 60 = .ok (.iconst 1, 1) := by decide +kernel
theorem d_TS_sign_61 : decode b_TS_sign 61 = .ok (.iadd, 1) := by decide +kernel
theorem d_TS_sign_62 : decode b_TS_sign 62 = .ok (.putfield 39, 3) := by decide +kernel
theorem d_TS_sign_65 : decode b_TS_sign 65 = .ok (.iload 5, 2) := by decide +kernel
theorem d_TS_sign_67 : decode b_TS_sign 67 = .ok (.ireturn, 1) := by decide +kernel
theorem d_TS_alter_0 : decode b_TS_alter 0 = .ok (.aload_n 0, 1) := by decide +kernel
theorem d_TS_alter_1 : decode b_TS_alter 1 = .ok (.iload_n 1, 1) := by decide +kernel
theorem d_TS_alter_2 : decode b_TS_alter 2 = .ok (.iload_n 2, 1) := by decide +kernel
theorem d_TS_alter_3 : decode b_TS_alter 3 = .ok (.invokevirtual 75, 3) := by decide +kernel
theorem d_TS_alter_6 : decode b_TS_alter 6 = .ok (.ifCond .ne (5), 3) := by decide +kernel
theorem d_TS_alter_9 : decode b_TS_alter 9 = .ok (.iconst 0, 1) := by decide +kernel
theorem d_TS_alter_10 : decode b_TS_alter 10 = .ok (.ireturn, 1) := by decide +kernel
theorem d_TS_alter_11 : decode b_TS_alter 11 = .ok (.aload_n 0, 1) := by decide +kernel
theorem d_TS_alter_12 : decode b_TS_alter 12 = .ok (.getfield 35, 3) := by decide +kernel
theorem d_TS_alter_15 : decode b_TS_alter 15 = .ok (.iload_n 1, 1) := by decide +kernel
theorem d_TS_alter_16 : decode b_TS_alter 16 = .ok (.invokestatic 71, 3) := by decide +kernel
theorem d_TS_alter_19 : decode b_TS_alter 19 = .ok (.iload_n 2, 1) := by decide +kernel
theorem d_TS_alter_20 : decode b_TS_alter 20 = .ok (.iadd, 1) := by decide +kernel
theorem d_TS_alter_21 : decode b_TS_alter 21 = .ok (.iload_n 3, 1) := by decide +kernel
theorem d_TS_alter_22 : decode b_TS_alter 22 = .ok (.iastore, 1) := by decide +kernel
theorem d_TS_alter_23 : decode b_TS_alter 23 = .ok (.iconst 1, 1) := by decide +kernel
theorem d_TS_alter_24 : decode b_TS_alter 24 = .ok (.ireturn, 1) := by decide +kernel
theorem d_TS_word_0 : decode b_TS_word 0 = .ok (.aload_n 0, 1) := by decide +kernel
theorem d_TS_word_1 : decode b_TS_word 1 = .ok (.iload_n 1, 1) := by decide +kernel
theorem d_TS_word_2 : decode b_TS_word 2 = .ok (.iload_n 2, 1) := by decide +kernel
theorem d_TS_word_3 : decode b_TS_word 3 = .ok (.invokevirtual 75, 3) := by decide +kernel
theorem d_TS_word_6 : decode b_TS_word 6 = .ok (.ifCond .eq (17), 3) := by decide +kernel
theorem d_TS_word_9 : decode b_TS_word 9 = .ok (.aload_n 0, 1) := by decide +kernel
theorem d_TS_word_10 : decode b_TS_word 10 = .ok (.getfield 35, 3) := by decide +kernel
theorem d_TS_word_13 : decode b_TS_word 13 = .ok (.iload_n 1, 1) := by decide +kernel
theorem d_TS_word_14 : decode b_TS_word 14 = .ok (.invokestatic 71, 3) := by decide +kernel
theorem d_TS_word_17 : decode b_TS_word 17 = .ok (.iload_n 2, 1) := by decide +kernel
theorem d_TS_word_18 : decode b_TS_word 18 = .ok (.iadd, 1) := by decide +kernel
theorem d_TS_word_19 : decode b_TS_word 19 = .ok (.iaload, 1) := by decide +kernel
theorem d_TS_word_20 : decode b_TS_word 20 = .ok (.goto (4), 3) := by decide +kernel
theorem d_TS_word_23 : decode b_TS_word 23 = .ok (.iconst 0, 1) := by decide +kernel
theorem d_TS_word_24 : decode b_TS_word 24 = .ok (.ireturn, 1) := by decide +kernel
theorem d_TS_fault_0 : decode b_TS_fault 0 = .ok (.aload_n 0, 1) := by decide +kernel
theorem d_TS_fault_1 : decode b_TS_fault 1 = .ok (.iload_n 1, 1) := by decide +kernel
theorem d_TS_fault_2 : decode b_TS_fault 2 = .ok (.invokevirtual 79, 3) := by decide +kernel
theorem d_TS_fault_5 : decode b_TS_fault 5 = .ok (.ifCond .ne (5), 3) := by decide +kernel
theorem d_TS_fault_8 : decode b_TS_fault 8 = .ok (.iconst (-1), 1) := by decide +kernel
theorem d_TS_fault_9 : decode b_TS_fault 9 = .ok (.ireturn, 1) := by decide +kernel
theorem d_TS_fault_10 : decode b_TS_fault 10 = .ok (.aload_n 0, 1) := by decide +kernel
theorem d_TS_fault_11 : decode b_TS_fault 11 = .ok (.getfield 35, 3) := by decide +kernel
theorem d_TS_fault_14 : decode b_TS_fault 14 = .ok (.iload_n 1, 1) := by decide +kernel
theorem d_TS_fault_15 : decode b_TS_fault 15 = .ok (.invokestatic 71, 3) := by decide +kernel
theorem d_TS_fault_18 : decode b_TS_fault 18 = .ok (.aload_n 0, 1) := by decide +kernel
theorem d_TS_fault_19 : decode b_TS_fault 19 = .ok (.getfield 14, 3) := by decide +kernel
theorem d_TS_fault_22 : decode b_TS_fault 22 = .ok (.invokevirtual 59, 3) := by decide +kernel
theorem d_TS_fault_25 : decode b_TS_fault 25 = .ok (.invokestatic 82, 3) := by decide +kernel
theorem d_TS_fault_28 : decode b_TS_fault 28 = .ok (.ireturn, 1) := by decide +kernel
theorem d_TS_cut_0 : decode b_TS_cut 0 = .ok (.iload_n 1, 1) := by decide +kernel
theorem d_TS_cut_1 : decode b_TS_cut 1 = .ok (.iconst (-1), 1) := by decide +kernel
theorem d_TS_cut_2 : decode b_TS_cut 2 = .ok (.if_icmp .ge (5), 3) := by decide +kernel
theorem d_TS_cut_5 : decode b_TS_cut 5 = .ok (.iconst 0, 1) := by decide +kernel
theorem d_TS_cut_6 : decode b_TS_cut 6 = .ok (.ireturn, 1) := by decide +kernel
theorem d_TS_cut_7 : decode b_TS_cut 7 = .ok (.aload_n 0, 1) := by decide +kernel
theorem d_TS_cut_8 : decode b_TS_cut 8 = .ok (.getfield 31, 3) := by decide +kernel
theorem d_TS_cut_11 : decode b_TS_cut 11 = .ok (.iload_n 1, 1) := by decide +kernel
theorem d_TS_cut_12 : decode b_TS_cut 12 = .ok (.putfield 86, 3) := by decide +kernel
theorem d_TS_cut_15 : decode b_TS_cut 15 = .ok (.iconst 1, 1) := by decide +kernel
theorem d_TS_cut_16 : decode b_TS_cut 16 = .ok (.ireturn, 1) := by decide +kernel
theorem d_TS_update_0 : decode b_TS_update 0 = .ok (.aload_n 0, 1) := by decide +kernel
theorem d_TS_update_1 : decode b_TS_update 1 = .ok (.iload_n 1, 1) := by decide +kernel
theorem d_TS_update_2 : decode b_TS_update 2 = .ok (.invokevirtual 79, 3) := by decide +kernel
theorem d_TS_update_5 : decode b_TS_update 5 = .ok (.ifCond .eq (18), 3) := by decide +kernel
theorem d_TS_update_8 : decode b_TS_update 8 = .ok (.aload_n 0, 1) := by decide +kernel
theorem d_TS_update_9 : decode b_TS_update 9 = .ok (.getfield 46, 3) := by decide +kernel
theorem d_TS_update_12 : decode b_TS_update 12 = .ok (.iconst (-1), 1) := by decide +kernel
theorem d_TS_update_13 : decode b_TS_update 13 = .ok (.if_icmp .eq (10), 3) := by decide +kernel
theorem d_TS_update_16 : decode b_TS_update 16 = .ok (.aload_n 0, 1) := by decide +kernel
theorem d_TS_update_17 : decode b_TS_update 17 = .ok (.getfield 49, 3) := by decide +kernel
theorem d_TS_update_20 : decode b_TS_update 20 = .ok (.ifCond .eq (6), 3) := by decide +kernel
theorem d_TS_update_23 : decode b_TS_update 23 = .ok (.bipush (-2), 2) := by decide +kernel
theorem d_TS_update_25 : decode b_TS_update 25 = .ok (.ireturn, 1) := by decide +kernel
theorem d_TS_update_26 : decode b_TS_update 26 = .ok (.aload_n 0, 1) := by decide +kernel
theorem d_TS_update_27 : decode b_TS_update 27 = .ok (.getfield 46, 3) := by decide +kernel
theorem d_TS_update_30 : decode b_TS_update 30 = .ok (.iconst 2, 1) := by decide +kernel
theorem d_TS_update_31 : decode b_TS_update 31 = .ok (.if_icmp .ne (16), 3) := by decide +kernel
theorem d_TS_update_34 : decode b_TS_update 34 = .ok (.aload_n 0, 1) := by decide +kernel
theorem d_TS_update_35 : decode b_TS_update 35 = .ok (.getfield 31, 3) := by decide +kernel
theorem d_TS_update_38 : decode b_TS_update 38 = .ok (.invokevirtual 89, 3) := by decide +kernel
theorem d_TS_update_41 : decode b_TS_update 41 = .ok (.invokestatic 92, 3) := by decide +kernel
theorem d_TS_update_44 : decode b_TS_update 44 = .ok (.goto (7), 3) := by decide +kernel
theorem d_TS_update_47 : decode b_TS_update 47 = .ok (.aload_n 0, 1) := by decide +kernel
theorem d_TS_update_48 : decode b_TS_update 48 = .ok (.getfield 46, 3) := by decide +kernel
theorem d_TS_update_51 : decode b_TS_update 51 = .ok (.istore_n 2, 1) := by decide +kernel
theorem d_TS_update_52 : decode b_TS_update 52 = .ok (.aload_n 0, 1) := by decide +kernel
theorem d_TS_update_53 : decode b_TS_update 53 = .ok (.iconst 1, 1) := by decide +kernel
theorem d_TS_update_54 : decode b_TS_update 54 = .ok (.iload_n 2, 1) := by decide +kernel
theorem d_TS_update_55 : decode b_TS_update 55 = .ok (.isub, 1) := by decide +kernel
theorem d_TS_update_56 : decode b_TS_update 56 = .ok (.iload_n 1, 1) := by decide +kernel
theorem d_TS_update_57 : decode b_TS_update 57 = .ok (.invokestatic 71, 3) := by decide +kernel
theorem d_TS_update_60 : decode b_TS_update 60 = .ok (.invokevirtual 97, 3) := by decide +kernel
theorem d_TS_update_63 : decode b_TS_update 63 = .ok (.ifCond .eq (7), 3) := by decide +kernel
theorem d_TS_update_66 : decode b_TS_update 66 = .ok (.iconst 0, 1) := by decide +kernel
theorem d_TS_update_67 : decode b_TS_update 67 = .ok (.goto (7), 3) := by decide +kernel
theorem d_TS_update_70 : decode b_TS_update 70 = .ok (.aload_n 0, 1) := by decide +kernel
theorem d_TS_update_71 : decode b_TS_update 71 = .ok (.invokevirtual 100, 3) := by decide +kernel
theorem d_TS_update_74 : decode b_TS_update 74 = .ok (.ireturn, 1) := by decide +kernel
theorem d_TS_boot_0 : decode b_TS_boot 0 = .ok (.aload_n 0, 1) := by decide +kernel
theorem d_TS_boot_1 : decode b_TS_boot 1 = .ok (.invokevirtual 103, 3) := by decide +kernel
theorem d_TS_boot_4 : decode b_TS_boot 4 = .ok (.aload_n 0, 1) := by decide +kernel
theorem d_TS_boot_5 : decode b_TS_boot 5 = .ok (.getfield 31, 3) := by decide +kernel
theorem d_TS_boot_8 : decode b_TS_boot 8 = .ok (.invokevirtual 89, 3) := by decide +kernel
theorem d_TS_boot_11 : decode b_TS_boot 11 = .ok (.istore_n 1, 1) := by decide +kernel
theorem d_TS_boot_12 : decode b_TS_boot 12 = .ok (.iload_n 1, 1) := by decide +kernel
theorem d_TS_boot_13 : decode b_TS_boot 13 = .ok (.invokestatic 106, 3) := by decide +kernel
theorem d_TS_boot_16 : decode b_TS_boot 16 = .ok (.istore_n 2, 1) := by decide +kernel
theorem d_TS_boot_17 : decode b_TS_boot 17 = .ok (.iload_n 2, 1) := by decide +kernel
theorem d_TS_boot_18 : decode b_TS_boot 18 = .ok (.iconst (-1), 1) := by decide +kernel
theorem d_TS_boot_19 : decode b_TS_boot 19 = .ok (.if_icmp .eq (44), 3) := by decide +kernel
theorem d_TS_boot_22 : decode b_TS_boot 22 = .ok (.aload_n 0, 1) := by decide +kernel
theorem d_TS_boot_23 : decode b_TS_boot 23 = .ok (.getfield 31, 3) := by decide +kernel
theorem d_TS_boot_26 : decode b_TS_boot 26 = .ok (.iload_n 1, 1) := by decide +kernel
theorem d_TS_boot_27 : decode b_TS_boot 27 = .ok (.iload_n 2, 1) := by decide +kernel
theorem d_TS_boot_28 : decode b_TS_boot 28 = .ok (.iconst 1, 1) := by decide +kernel
theorem d_TS_boot_29 : decode b_TS_boot 29 = .ok (.invokestatic 109, 3) := by decide +kernel
theorem d_TS_boot_32 : decode b_TS_boot 32 = .ok (.invokevirtual 113, 3) := by decide +kernel
theorem d_TS_boot_35 : decode b_TS_boot 35 = .ok (.ifCond .ne (8), 3) := by decide +kernel
theorem d_TS_boot_38 : decode b_TS_boot 38 = .ok (.aload_n 0, 1) := by decide +kernel
theorem d_TS_boot_39 : decode b_TS_boot 39 = .ok (.invokevirtual 100, 3) := by decide +kernel
theorem d_TS_boot_42 : decode b_TS_boot 42 = .ok (.ireturn, 1) := by decide +kernel
theorem d_TS_boot_43 : decode b_TS_boot 43 = .ok (.aload_n 0, 1) := by decide +kernel
theorem d_TS_boot_44 : decode b_TS_boot 44 = .ok (.iload_n 2, 1) := by decide +kernel
theorem d_TS_boot_45 : decode b_TS_boot 45 = .ok (.invokevirtual 116, 3) := by decide +kernel
theorem d_TS_boot_48 : decode b_TS_boot 48 = .ok (.ifCond .eq (15), 3) := by decide +kernel
theorem d_TS_boot_51 : decode b_TS_boot 51 = .ok (.aload_n 0, 1) := by decide +kernel
theorem d_TS_boot_52 : decode b_TS_boot 52 = .ok (.iload_n 2, 1) := by decide +kernel
theorem d_TS_boot_53 : decode b_TS_boot 53 = .ok (.putfield 46, 3) := by decide +kernel
theorem d_TS_boot_56 : decode b_TS_boot 56 = .ok (.aload_n 0, 1) := by decide +kernel
theorem d_TS_boot_57 : decode b_TS_boot 57 = .ok (.iconst 1, 1) := by decide +kernel
theorem d_TS_boot_58 : decode b_TS_boot 58 = .ok (.putfield 49, 3) := by decide +kernel
theorem d_TS_boot_61 : decode b_TS_boot 61 = .ok (.iload_n 2, 1) := by decide +kernel
theorem d_TS_boot_62 : decode b_TS_boot 62 = .ok (.ireturn, 1) := by decide +kernel
theorem d_TS_boot_63 : decode b_TS_boot 63 = .ok (.aload_n 0, 1) := by decide +kernel
theorem d_TS_boot_64 : decode b_TS_boot 64 = .ok (.invokevirtual 119, 3) := by decide +kernel
theorem d_TS_boot_67 : decode b_TS_boot 67 = .ok (.ireturn, 1) := by decide +kernel
theorem d_TS_confirm_0 : decode b_TS_confirm 0 = .ok (.aload_n 0, 1) := by decide +kernel
theorem d_TS_confirm_1 : decode b_TS_confirm 1 = .ok (.getfield 49, 3) := by decide +kernel
theorem d_TS_confirm_4 : decode b_TS_confirm 4 = .ok (.ifCond .ne (6), 3) := by decide +kernel
theorem d_TS_confirm_7 : decode b_TS_confirm 7 = .ok (.bipush (-2), 2) := by decide +kernel
theorem d_TS_confirm_9 : decode b_TS_confirm 9 = .ok (.ireturn, 1) := by decide +kernel
theorem d_TS_confirm_10 : decode b_TS_confirm 10 = .ok (.aload_n 0, 1) := by decide +kernel
theorem d_TS_confirm_11 : decode b_TS_confirm 11 = .ok (.getfield 31, 3) := by decide +kernel
theorem d_TS_confirm_14 : decode b_TS_confirm 14 = .ok (.invokevirtual 89, 3) := by decide +kernel
theorem d_TS_confirm_17 : decode b_TS_confirm 17 = .ok (.aload_n 0, 1) := by decide +kernel
theorem d_TS_confirm_18 : decode b_TS_confirm 18 = .ok (.getfield 46, 3) := by decide +kernel
theorem d_TS_confirm_21 : decode b_TS_confirm 21 = .ok (.iconst 3, 1) := by decide +kernel
theorem d_TS_confirm_22 : decode b_TS_confirm 22 = .ok (.invokestatic 109, 3) := by decide +kernel
theorem d_TS_confirm_25 : decode b_TS_confirm 25 = .ok (.istore_n 1, 1) := by decide +kernel
theorem d_TS_confirm_26 : decode b_TS_confirm 26 = .ok (.aload_n 0, 1) := by decide +kernel
theorem d_TS_confirm_27 : decode b_TS_confirm 27 = .ok (.getfield 31, 3) := by decide +kernel
theorem d_TS_confirm_30 : decode b_TS_confirm 30 = .ok (.iload_n 1, 1) := by decide +kernel
theorem d_TS_confirm_31 : decode b_TS_confirm 31 = .ok (.aload_n 0, 1) := by decide +kernel
theorem d_TS_confirm_32 : decode b_TS_confirm 32 = .ok (.getfield 46, 3) := by decide +kernel
theorem d_TS_confirm_35 : decode b_TS_confirm 35 = .ok (.invokestatic 122, 3) := by decide +kernel
theorem d_TS_confirm_38 : decode b_TS_confirm 38 = .ok (.invokevirtual 113, 3) := by decide +kernel
theorem d_TS_confirm_41 : decode b_TS_confirm 41 = .ok (.ifCond .eq (28), 3) := by decide +kernel
theorem d_TS_confirm_44 : decode b_TS_confirm 44 = .ok (.aload_n 0, 1) := by decide +kernel
theorem d_TS_confirm_45 : decode b_TS_confirm 45 = .ok (.getfield 31, 3) := by decide +kernel
theorem d_TS_confirm_48 : decode b_TS_confirm 48 = .ok (.aload_n 0, 1) := by decide +kernel
theorem d_TS_confirm_49 : decode b_TS_confirm 49 = .ok (.getfield 31, 3) := by decide +kernel
theorem d_TS_confirm_52 : decode b_TS_confirm 52 = .ok (.aload_n 0, 1) := by decide +kernel
theorem d_TS_confirm_53 : decode b_TS_confirm 53 = .ok (.getfield 46, 3) := by decide +kernel
theorem d_TS_confirm_56 : decode b_TS_confirm 56 = .ok (.invokevirtual 126, 3) := by decide +kernel
theorem d_TS_confirm_59 : decode b_TS_confirm 59 = .ok (.invokevirtual 129, 3) := by decide +kernel
theorem d_TS_confirm_62 : decode b_TS_confirm 62 = .ok (.ifCond .eq (7), 3) := by decide +kernel
theorem d_TS_confirm_65 : decode b_TS_confirm 65 = .ok (.iconst 1, 1) := by decide +kernel
theorem d_TS_confirm_66 : decode b_TS_confirm 66 = .ok (.goto (4), 3) := by decide +kernel
theorem d_TS_confirm_69 : decode b_TS_confirm 69 = .ok (.iconst 0, 1) := by decide +kernel
theorem d_TS_confirm_70 : decode b_TS_confirm 70 = .ok (.istore_n 2, 1) := by decide +kernel
theorem d_TS_confirm_71 : decode b_TS_confirm 71 = .ok (.iload_n 2, 1) := by decide +kernel
theorem d_TS_confirm_72 : decode b_TS_confirm 72 = .ok (.ifCond .ne (8), 3) := by decide +kernel
theorem d_TS_confirm_75 : decode b_TS_confirm 75 = .ok (.aload_n 0, 1) := by decide +kernel
theorem d_TS_confirm_76 : decode b_TS_confirm 76 = .ok (.invokevirtual 100, 3) := by decide +kernel
theorem d_TS_confirm_79 : decode b_TS_confirm 79 = .ok (.ireturn, 1) := by decide +kernel
theorem d_TS_confirm_80 : decode b_TS_confirm 80 = .ok (.aload_n 0, 1) := by decide +kernel
theorem d_TS_confirm_81 : decode b_TS_confirm 81 = .ok (.iconst 0, 1) := by decide +kernel
theorem d_TS_confirm_82 : decode b_TS_confirm 82 = .ok (.putfield 49, 3) := by decide +kernel
theorem d_TS_confirm_85 : decode b_TS_confirm 85 = .ok (.iconst 0, 1) := by decide +kernel
theorem d_TS_confirm_86 : decode b_TS_confirm 86 = .ok (.ireturn, 1) := by decide +kernel
theorem d_TS_running_0 : decode b_TS_running 0 = .ok (.aload_n 0, 1) := by decide +kernel
theorem d_TS_running_1 : decode b_TS_running 1 = .ok (.getfield 46, 3) := by decide +kernel
theorem d_TS_running_4 : decode b_TS_running 4 = .ok (.ireturn, 1) := by decide +kernel
theorem d_TS_onTrial_0 : decode b_TS_onTrial 0 = .ok (.aload_n 0, 1) := by decide +kernel
theorem d_TS_onTrial_1 : decode b_TS_onTrial 1 = .ok (.getfield 49, 3) := by decide +kernel
theorem d_TS_onTrial_4 : decode b_TS_onTrial 4 = .ok (.ireturn, 1) := by decide +kernel
theorem d_TS_counter_0 : decode b_TS_counter 0 = .ok (.aload_n 0, 1) := by decide +kernel
theorem d_TS_counter_1 : decode b_TS_counter 1 = .ok (.getfield 31, 3) := by decide +kernel
theorem d_TS_counter_4 : decode b_TS_counter 4 = .ok (.getfield 132, 3) := by decide +kernel
theorem d_TS_counter_7 : decode b_TS_counter 7 = .ok (.ireturn, 1) := by decide +kernel
theorem d_TS_state_0 : decode b_TS_state 0 = .ok (.iload_n 1, 1) := by decide +kernel
theorem d_TS_state_1 : decode b_TS_state 1 = .ok (.ifCond .eq (8), 3) := by decide +kernel
theorem d_TS_state_4 : decode b_TS_state 4 = .ok (.iload_n 1, 1) := by decide +kernel
theorem d_TS_state_5 : decode b_TS_state 5 = .ok (.iconst 1, 1) := by decide +kernel
theorem d_TS_state_6 : decode b_TS_state 6 = .ok (.if_icmp .ne (17), 3) := by decide +kernel
theorem d_TS_state_9 : decode b_TS_state 9 = .ok (.aload_n 0, 1) := by decide +kernel
theorem d_TS_state_10 : decode b_TS_state 10 = .ok (.getfield 31, 3) := by decide +kernel
theorem d_TS_state_13 : decode b_TS_state 13 = .ok (.invokevirtual 89, 3) := by decide +kernel
theorem d_TS_state_16 : decode b_TS_state 16 = .ok (.iload_n 1, 1) := by decide +kernel
theorem d_TS_state_17 : decode b_TS_state 17 = .ok (.invokestatic 135, 3) := by decide +kernel
theorem d_TS_state_20 : decode b_TS_state 20 = .ok (.goto (4), 3) := by decide +kernel
theorem d_TS_state_23 : decode b_TS_state 23 = .ok (.iconst (-1), 1) := by decide +kernel
theorem d_TS_state_24 : decode b_TS_state 24 = .ok (.ireturn, 1) := by decide +kernel
theorem d_TS_home_0 : decode b_TS_home 0 = .ok (.aload_n 0, 1) := by decide +kernel
theorem d_TS_home_1 : decode b_TS_home 1 = .ok (.getfield 31, 3) := by decide +kernel
theorem d_TS_home_4 : decode b_TS_home 4 = .ok (.invokevirtual 89, 3) := by decide +kernel
theorem d_TS_home_7 : decode b_TS_home 7 = .ok (.invokestatic 92, 3) := by decide +kernel
theorem d_TS_home_10 : decode b_TS_home 10 = .ok (.ireturn, 1) := by decide +kernel
theorem d_TS_peek_0 : decode b_TS_peek 0 = .ok (.iload_n 1, 1) := by decide +kernel
theorem d_TS_peek_1 : decode b_TS_peek 1 = .ok (.invokestatic 138, 3) := by decide +kernel
theorem d_TS_peek_4 : decode b_TS_peek 4 = .ok (.ifCond .eq (15), 3) := by decide +kernel
theorem d_TS_peek_7 : decode b_TS_peek 7 = .ok (.aload_n 0, 1) := by decide +kernel
theorem d_TS_peek_8 : decode b_TS_peek 8 = .ok (.getfield 31, 3) := by decide +kernel
theorem d_TS_peek_11 : decode b_TS_peek 11 = .ok (.getfield 141, 3) := by decide +kernel
theorem d_TS_peek_14 : decode b_TS_peek 14 = .ok (.iload_n 1, 1) := by decide +kernel
theorem d_TS_peek_15 : decode b_TS_peek 15 = .ok (.iaload, 1) := by decide +kernel
theorem d_TS_peek_16 : decode b_TS_peek 16 = .ok (.goto (4), 3) := by decide +kernel
theorem d_TS_peek_19 : decode b_TS_peek 19 = .ok (.iconst 0, 1) := by decide +kernel
theorem d_TS_peek_20 : decode b_TS_peek 20 = .ok (.ireturn, 1) := by decide +kernel
theorem d_TS_poke_0 : decode b_TS_poke 0 = .ok (.iload_n 1, 1) := by decide +kernel
theorem d_TS_poke_1 : decode b_TS_poke 1 = .ok (.invokestatic 138, 3) := by decide +kernel
theorem d_TS_poke_4 : decode b_TS_poke 4 = .ok (.ifCond .ne (5), 3) := by decide +kernel
theorem d_TS_poke_7 : decode b_TS_poke 7 = .ok (.iconst 0, 1) := by decide +kernel
theorem d_TS_poke_8 : decode b_TS_poke 8 = .ok (.ireturn, 1) := by decide +kernel
theorem d_TS_poke_9 : decode b_TS_poke 9 = .ok (.aload_n 0, 1) := by decide +kernel
theorem d_TS_poke_10 : decode b_TS_poke 10 = .ok (.getfield 31, 3) := by decide +kernel
theorem d_TS_poke_13 : decode b_TS_poke 13 = .ok (.getfield 141, 3) := by decide +kernel
theorem d_TS_poke_16 : decode b_TS_poke 16 = .ok (.iload_n 1, 1) := by decide +kernel
theorem d_TS_poke_17 : decode b_TS_poke 17 = .ok (.iload_n 2, 1) := by decide +kernel
theorem d_TS_poke_18 : decode b_TS_poke 18 = .ok (.iastore, 1) := by decide +kernel
theorem d_TS_poke_19 : decode b_TS_poke 19 = .ok (.iconst 1, 1) := by decide +kernel
theorem d_TS_poke_20 : decode b_TS_poke 20 = .ok (.ireturn, 1) := by decide +kernel
theorem d_TS_register_0 : decode b_TS_register 0 = .ok (.aload_n 0, 1) := by decide +kernel
theorem d_TS_register_1 : decode b_TS_register 1 = .ok (.getfield 56, 3) := by decide +kernel
theorem d_TS_register_4 : decode b_TS_register 4 = .ok (.ireturn, 1) := by decide +kernel
theorem d_TS_log_0 : decode b_TS_log 0 = .ok (.iload_n 1, 1) := by decide +kernel
theorem d_TS_log_1 : decode b_TS_log 1 = .ok (.iconst (-1), 1) := by decide +kernel
theorem d_TS_log_2 : decode b_TS_log 2 = .ok (.if_icmp .ne (8), 3) := by decide +kernel
theorem d_TS_log_5 : decode b_TS_log 5 = .ok (.aload_n 0, 1) := by decide +kernel
theorem d_TS_log_6 : decode b_TS_log 6 = .ok (.getfield 53, 3) := by decide +kernel
theorem d_TS_log_9 : decode b_TS_log 9 = .ok (.ireturn, 1) := by decide +kernel
theorem d_TS_log_10 : decode b_TS_log 10 = .ok (.iload_n 1, 1) := by decide +kernel
theorem d_TS_log_11 : decode b_TS_log 11 = .ok (.ifCond .lt (20), 3) := by decide +kernel
theorem d_TS_log_14 : decode b_TS_log 14 = .ok (.iload_n 1, 1) := by decide +kernel
theorem d_TS_log_15 : decode b_TS_log 15 = .ok (.aload_n 0, 1) := by decide +kernel
theorem d_TS_log_16 : decode b_TS_log 16 = .ok (.getfield 53, 3) := by decide +kernel
theorem d_TS_log_19 : decode b_TS_log 19 = .ok (.if_icmp .ge (12), 3) := by decide +kernel
theorem d_TS_log_22 : decode b_TS_log 22 = .ok (.aload_n 0, 1) := by decide +kernel
theorem d_TS_log_23 : decode b_TS_log 23 = .ok (.getfield 43, 3) := by decide +kernel
theorem d_TS_log_26 : decode b_TS_log 26 = .ok (.iload_n 1, 1) := by decide +kernel
theorem d_TS_log_27 : decode b_TS_log 27 = .ok (.iaload, 1) := by decide +kernel
theorem d_TS_log_28 : decode b_TS_log 28 = .ok (.goto (4), 3) := by decide +kernel
theorem d_TS_log_31 : decode b_TS_log 31 = .ok (.iconst 0, 1) := by decide +kernel
theorem d_TS_log_32 : decode b_TS_log 32 = .ok (.ireturn, 1) := by decide +kernel
theorem d_TS_writes_0 : decode b_TS_writes 0 = .ok (.aload_n 0, 1) := by decide +kernel
theorem d_TS_writes_1 : decode b_TS_writes 1 = .ok (.getfield 31, 3) := by decide +kernel
theorem d_TS_writes_4 : decode b_TS_writes 4 = .ok (.getfield 144, 3) := by decide +kernel
theorem d_TS_writes_7 : decode b_TS_writes 7 = .ok (.ireturn, 1) := by decide +kernel
theorem d_TS_isPackage_0 : decode b_TS_isPackage 0 = .ok (.iload_n 1, 1) := by decide +kernel
theorem d_TS_isPackage_1 : decode b_TS_isPackage 1 = .ok (.ifCond .lt (15), 3) := by decide +kernel
theorem d_TS_isPackage_4 : decode b_TS_isPackage 4 = .ok (.iload_n 1, 1) := by decide +kernel
theorem d_TS_isPackage_5 : decode b_TS_isPackage 5 = .ok (.aload_n 0, 1) := by decide +kernel
theorem d_TS_isPackage_6 : decode b_TS_isPackage 6 = .ok (.getfield 39, 3) := by decide +kernel
theorem d_TS_isPackage_9 : decode b_TS_isPackage 9 = .ok (.if_icmp .ge (7), 3) := by decide +kernel
theorem d_TS_isPackage_12 : decode b_TS_isPackage 12 = .ok (.iconst 1, 1) := by decide +kernel
theorem d_TS_isPackage_13 : decode b_TS_isPackage 13 = .ok (.goto (4), 3) := by decide +kernel
theorem d_TS_isPackage_16 : decode b_TS_isPackage 16 = .ok (.iconst 0, 1) := by decide +kernel
theorem d_TS_isPackage_17 : decode b_TS_isPackage 17 = .ok (.ireturn, 1) := by decide +kernel
theorem d_TS_isPackageWord_0 : decode b_TS_isPackageWord 0 = .ok (.aload_n 0, 1) := by decide +kernel
theorem d_TS_isPackageWord_1 : decode b_TS_isPackageWord 1 = .ok (.iload_n 1, 1) := by decide +kernel
theorem d_TS_isPackageWord_2 : decode b_TS_isPackageWord 2 = .ok (.invokevirtual 79, 3) := by decide +kernel
theorem d_TS_isPackageWord_5 : decode b_TS_isPackageWord 5 = .ok (.ifCond .eq (17), 3) := by decide +kernel
theorem d_TS_isPackageWord_8 : decode b_TS_isPackageWord 8 = .ok (.iload_n 2, 1) := by decide +kernel
theorem d_TS_isPackageWord_9 : decode b_TS_isPackageWord 9 = .ok (.ifCond .lt (13), 3) := by decide +kernel
theorem d_TS_isPackageWord_12 : decode b_TS_isPackageWord 12 = .ok (.iload_n 2, 1) := by decide +kernel
theorem d_TS_isPackageWord_13 : decode b_TS_isPackageWord 13 = .ok (.bipush 17, 2) := by decide +kernel
theorem d_TS_isPackageWord_15 : decode b_TS_isPackageWord 15 = .ok (.if_icmp .ge (7), 3) := by decide +kernel
theorem d_TS_isPackageWord_18 : decode b_TS_isPackageWord 18 = .ok (.iconst 1, 1) := by decide +kernel
theorem d_TS_isPackageWord_19 : decode b_TS_isPackageWord 19 = .ok (.goto (4), 3) := by decide +kernel
theorem d_TS_isPackageWord_22 : decode b_TS_isPackageWord 22 = .ok (.iconst 0, 1) := by decide +kernel
theorem d_TS_isPackageWord_23 : decode b_TS_isPackageWord 23 = .ok (.ireturn, 1) := by decide +kernel
theorem d_TS_packagePlace_0 : decode b_TS_packagePlace 0 = .ok (.iload_n 0, 1) := by decide +kernel
theorem d_TS_packagePlace_1 : decode b_TS_packagePlace 1 = .ok (.bipush 17, 2) := by decide +kernel
theorem d_TS_packagePlace_3 : decode b_TS_packagePlace 3 = .ok (.imul, 1) := by decide +kernel
theorem d_TS_packagePlace_4 : decode b_TS_packagePlace 4 = .ok (.ireturn, 1) := by decide +kernel
theorem d_TS_stop_0 : decode b_TS_stop 0 = .ok (.aload_n 0, 1) := by decide +kernel
theorem d_TS_stop_1 : decode b_TS_stop 1 = .ok (.iconst (-1), 1) := by decide +kernel
theorem d_TS_stop_2 : decode b_TS_stop 2 = .ok (.putfield 46, 3) := by decide +kernel
theorem d_TS_stop_5 : decode b_TS_stop 5 = .ok (.aload_n 0, 1) := by decide +kernel
theorem d_TS_stop_6 : decode b_TS_stop 6 = .ok (.iconst 0, 1) := by decide +kernel
theorem d_TS_stop_7 : decode b_TS_stop 7 = .ok (.putfield 49, 3) := by decide +kernel
theorem d_TS_stop_10 : decode b_TS_stop 10 = .ok (.aload_n 0, 1) := by decide +kernel
theorem d_TS_stop_11 : decode b_TS_stop 11 = .ok (.invokevirtual 147, 3) := by decide +kernel
theorem d_TS_stop_14 : decode b_TS_stop 14 = .ok (.return_, 1) := by decide +kernel
theorem d_TS_powerLost_0 : decode b_TS_powerLost 0 = .ok (.aload_n 0, 1) := by decide +kernel
theorem d_TS_powerLost_1 : decode b_TS_powerLost 1 = .ok (.invokevirtual 103, 3) := by decide +kernel
theorem d_TS_powerLost_4 : decode b_TS_powerLost 4 = .ok (.iconst (-1), 1) := by decide +kernel
theorem d_TS_powerLost_5 : decode b_TS_powerLost 5 = .ok (.ireturn, 1) := by decide +kernel
theorem d_TS_forgetStages_0 : decode b_TS_forgetStages 0 = .ok (.aload_n 0, 1) := by decide +kernel
theorem d_TS_forgetStages_1 : decode b_TS_forgetStages 1 = .ok (.iconst 0, 1) := by decide +kernel
theorem d_TS_forgetStages_2 : decode b_TS_forgetStages 2 = .ok (.putfield 53, 3) := by decide +kernel
theorem d_TS_forgetStages_5 : decode b_TS_forgetStages 5 = .ok (.aload_n 0, 1) := by decide +kernel
theorem d_TS_forgetStages_6 : decode b_TS_forgetStages 6 = .ok (.iconst 0, 1) := by decide +kernel
theorem d_TS_forgetStages_7 : decode b_TS_forgetStages 7 = .ok (.putfield 56, 3) := by decide +kernel
theorem d_TS_forgetStages_10 : decode b_TS_forgetStages 10 = .ok (.return_, 1) := by decide +kernel
theorem d_TS_replace_0 : decode b_TS_replace 0 = .ok (.aload_n 0, 1) := by decide +kernel
theorem d_TS_replace_1 : decode b_TS_replace 1 = .ok (.getfield 31, 3) := by decide +kernel
theorem d_TS_replace_4 : decode b_TS_replace 4 = .ok (.invokevirtual 89, 3) := by decide +kernel
theorem d_TS_replace_7 : decode b_TS_replace 7 = .ok (.iload_n 1, 1) := by decide +kernel
theorem d_TS_replace_8 : decode b_TS_replace 8 = .ok (.iconst 0, 1) := by decide +kernel
theorem d_TS_replace_9 : decode b_TS_replace 9 = .ok (.invokestatic 109, 3) := by decide +kernel
theorem d_TS_replace_12 : decode b_TS_replace 12 = .ok (.istore_n 3, 1) := by decide +kernel
theorem d_TS_replace_13 : decode b_TS_replace 13 = .ok (.aload_n 0, 1) := by decide +kernel
theorem d_TS_replace_14 : decode b_TS_replace 14 = .ok (.getfield 31, 3) := by decide +kernel
theorem d_TS_replace_17 : decode b_TS_replace 17 = .ok (.iload_n 3, 1) := by decide +kernel
theorem d_TS_replace_18 : decode b_TS_replace 18 = .ok (.iconst 1, 1) := by decide +kernel
theorem d_TS_replace_19 : decode b_TS_replace 19 = .ok (.iload_n 1, 1) := by decide +kernel
theorem d_TS_replace_20 : decode b_TS_replace 20 = .ok (.isub, 1) := by decide +kernel
theorem d_TS_replace_21 : decode b_TS_replace 21 = .ok (.invokestatic 122, 3) := by decide +kernel
theorem d_TS_replace_24 : decode b_TS_replace 24 = .ok (.invokevirtual 113, 3) := by decide +kernel
theorem d_TS_replace_27 : decode b_TS_replace 27 = .ok (.ifCond .eq (45), 3) := by decide +kernel
theorem d_TS_replace_30 : decode b_TS_replace 30 = .ok (.aload_n 0, 1) := by decide +kernel
theorem d_TS_replace_31 : decode b_TS_replace 31 = .ok (.getfield 31, 3) := by decide +kernel
theorem d_TS_replace_34 : decode b_TS_replace 34 = .ok (.iload_n 1, 1) := by decide +kernel
theorem d_TS_replace_35 : decode b_TS_replace 35 = .ok (.aload_n 0, 1) := by decide +kernel
theorem d_TS_replace_36 : decode b_TS_replace 36 = .ok (.getfield 35, 3) := by decide +kernel
theorem d_TS_replace_39 : decode b_TS_replace 39 = .ok (.iload_n 2, 1) := by decide +kernel
theorem d_TS_replace_40 : decode b_TS_replace 40 = .ok (.invokevirtual 150, 3) := by decide +kernel
theorem d_TS_replace_43 : decode b_TS_replace 43 = .ok (.ifCond .eq (29), 3) := by decide +kernel
theorem d_TS_replace_46 : decode b_TS_replace 46 = .ok (.aload_n 0, 1) := by decide +kernel
theorem d_TS_replace_47 : decode b_TS_replace 47 = .ok (.getfield 31, 3) := by decide +kernel
theorem d_TS_replace_50 : decode b_TS_replace 50 = .ok (.aload_n 0, 1) := by decide +kernel
theorem d_TS_replace_51 : decode b_TS_replace 51 = .ok (.getfield 31, 3) := by decide +kernel
theorem d_TS_replace_54 : decode b_TS_replace 54 = .ok (.invokevirtual 89, 3) := by decide +kernel
theorem d_TS_replace_57 : decode b_TS_replace 57 = .ok (.iload_n 1, 1) := by decide +kernel
theorem d_TS_replace_58 : decode b_TS_replace 58 = .ok (.iconst 2, 1) := by decide +kernel
theorem d_TS_replace_59 : decode b_TS_replace 59 = .ok (.invokestatic 109, 3) := by decide +kernel
theorem d_TS_replace_62 : decode b_TS_replace 62 = .ok (.invokevirtual 113, 3) := by decide +kernel
theorem d_TS_replace_65 : decode b_TS_replace 65 = .ok (.ifCond .eq (7), 3) := by decide +kernel
theorem d_TS_replace_68 : decode b_TS_replace 68 = .ok (.iconst 1, 1) := by decide +kernel
theorem d_TS_replace_69 : decode b_TS_replace 69 = .ok (.goto (4), 3) := by decide +kernel
theorem d_TS_replace_72 : decode b_TS_replace 72 = .ok (.iconst 0, 1) := by decide +kernel
theorem d_TS_replace_73 : decode b_TS_replace 73 = .ok (.ireturn, 1) := by decide +kernel
theorem d_TS_startConfirmed_0 : decode b_TS_startConfirmed 0 = .ok (.aload_n 0, 1) := by decide +kernel
theorem d_TS_startConfirmed_1 : decode b_TS_startConfirmed 1 = .ok (.getfield 31, 3) := by decide +kernel
theorem d_TS_startConfirmed_4 : decode b_TS_startConfirmed 4 = .ok (.invokevirtual 89, 3) := by decide +kernel
theorem d_TS_startConfirmed_7 : decode b_TS_startConfirmed 7 = .ok (.invokestatic 92, 3) := by decide +kernel
theorem d_TS_startConfirmed_10 : decode b_TS_startConfirmed 10 = .ok (.istore_n 1, 1) := by decide +kernel
theorem d_TS_startConfirmed_11 : decode b_TS_startConfirmed 11 = .ok (.iconst (-1), 1) := by decide +kernel
theorem d_TS_startConfirmed_12 : decode b_TS_startConfirmed 12 = .ok (.istore_n 2, 1) := by decide +kernel
theorem d_TS_startConfirmed_13 : decode b_TS_startConfirmed 13 = .ok (.aload_n 0, 1) := by decide +kernel
theorem d_TS_startConfirmed_14 : decode b_TS_startConfirmed 14 = .ok (.iload_n 1, 1) := by decide +kernel
theorem d_TS_startConfirmed_15 : decode b_TS_startConfirmed 15 = .ok (.invokevirtual 154, 3) := by decide +kernel
theorem d_TS_startConfirmed_18 : decode b_TS_startConfirmed 18 = .ok (.ifCond .eq (16), 3) := by decide +kernel
theorem d_TS_startConfirmed_21 : decode b_TS_startConfirmed 21 = .ok (.aload_n 0, 1) := by decide +kernel
theorem d_TS_startConfirmed_22 : decode b_TS_startConfirmed 22 = .ok (.iload_n 1, 1) := by decide +kernel
theorem d_TS_startConfirmed_23 : decode b_TS_startConfirmed 23 = .ok (.invokevirtual 116, 3) := by decide +kernel
theorem d_TS_startConfirmed_26 : decode b_TS_startConfirmed 26 = .ok (.ifCond .eq (8), 3) := by decide +kernel
theorem d_TS_startConfirmed_29 : decode b_TS_startConfirmed 29 = .ok (.iload_n 1, 1) := by decide +kernel
theorem d_TS_startConfirmed_30 : decode b_TS_startConfirmed 30 = .ok (.istore_n 2, 1) := by decide +kernel
theorem d_TS_startConfirmed_31 : decode b_TS_startConfirmed 31 = .ok (.goto (27), 3) := by decide +kernel
theorem d_TS_startConfirmed_34 : decode b_TS_startConfirmed 34 = .ok (.aload_n 0, 1) := by decide +kernel
theorem d_TS_startConfirmed_35 : decode b_TS_startConfirmed 35 = .ok (.iconst 1, 1) := by decide +kernel
theorem d_TS_startConfirmed_36 : decode b_TS_startConfirmed 36 = .ok (.iload_n 1, 1) := by decide +kernel
theorem d_TS_startConfirmed_37 : decode b_TS_startConfirmed 37 = .ok (.isub, 1) := by decide +kernel
theorem d_TS_startConfirmed_38 : decode b_TS_startConfirmed 38 = .ok (.invokevirtual 154, 3) := by decide +kernel
theorem d_TS_startConfirmed_41 : decode b_TS_startConfirmed 41 = .ok (.ifCond .eq (17), 3) := by decide +kernel
theorem d_TS_startConfirmed_44 : decode b_TS_startConfirmed 44 = .ok (.aload_n 0, 1) := by decide +kernel
theorem d_TS_startConfirmed_45 : decode b_TS_startConfirmed 45 = .ok (.iconst 1, 1) := by decide +kernel
theorem d_TS_startConfirmed_46 : decode b_TS_startConfirmed 46 = .ok (.iload_n 1, 1) := by decide +kernel
theorem d_TS_startConfirmed_47 : decode b_TS_startConfirmed 47 = .ok (.isub, 1) := by decide +kernel
theorem d_TS_startConfirmed_48 : decode b_TS_startConfirmed 48 = .ok (.invokevirtual 116, 3) := by decide +kernel
theorem d_TS_startConfirmed_51 : decode b_TS_startConfirmed 51 = .ok (.ifCond .eq (7), 3) := by decide +kernel
theorem d_TS_startConfirmed_54 : decode b_TS_startConfirmed 54 = .ok (.iconst 1, 1) := by decide +kernel
theorem d_TS_startConfirmed_55 : decode b_TS_startConfirmed 55 = .ok (.iload_n 1, 1) := by decide +kernel
theorem d_TS_startConfirmed_56 : decode b_TS_startConfirmed 56 = .ok (.isub, 1) := by decide +kernel
theorem d_TS_startConfirmed_57 : decode b_TS_startConfirmed 57 = .ok (.istore_n 2, 1) := by decide +kernel
theorem d_TS_startConfirmed_58 : decode b_TS_startConfirmed 58 = .ok (.iload_n 2, 1) := by decide +kernel
theorem d_TS_startConfirmed_59 : decode b_TS_startConfirmed 59 = .ok (.iconst (-1), 1) := by decide +kernel
theorem d_TS_startConfirmed_60 : decode b_TS_startConfirmed 60 = .ok (.if_icmp .ne (14), 3) := by decide +kernel
theorem d_TS_startConfirmed_63 : decode b_TS_startConfirmed 63 = .ok (.aload_n 0, 1) := by decide +kernel
theorem d_TS_startConfirmed_64 : decode b_TS_startConfirmed 64 = .ok (.invokevirtual 147, 3) := by decide +kernel
theorem d_TS_startConfirmed_67 : decode b_TS_startConfirmed 67 = .ok (.aload_n 0, 1) := by decide +kernel
theorem d_TS_startConfirmed_68 : decode b_TS_startConfirmed 68 = .ok (.iconst 2, 1) := by decide +kernel
theorem d_TS_startConfirmed_69 : decode b_TS_startConfirmed 69 = .ok (.putfield 46, 3) := by decide +kernel
theorem d_TS_startConfirmed_72 : decode b_TS_startConfirmed 72 = .ok (.iconst 2, 1) := by decide +kernel
theorem d_TS_startConfirmed_73 : decode b_TS_startConfirmed 73 = .ok (.ireturn, 1) := by decide +kernel
theorem d_TS_startConfirmed_74 : decode b_TS_startConfirmed 74 = .ok (.aload_n 0, 1) := by decide +kernel
theorem d_TS_startConfirmed_75 : decode b_TS_startConfirmed 75 = .ok (.getfield 31, 3) := by decide +kernel
theorem d_TS_startConfirmed_78 : decode b_TS_startConfirmed 78 = .ok (.aload_n 0, 1) := by decide +kernel
theorem d_TS_startConfirmed_79 : decode b_TS_startConfirmed 79 = .ok (.getfield 31, 3) := by decide +kernel
theorem d_TS_startConfirmed_82 : decode b_TS_startConfirmed 82 = .ok (.iload_n 2, 1) := by decide +kernel
theorem d_TS_startConfirmed_83 : decode b_TS_startConfirmed 83 = .ok (.invokevirtual 126, 3) := by decide +kernel
theorem d_TS_startConfirmed_86 : decode b_TS_startConfirmed 86 = .ok (.invokevirtual 129, 3) := by decide +kernel
theorem d_TS_startConfirmed_89 : decode b_TS_startConfirmed 89 = .ok (.ifCond .ne (8), 3) := by decide +kernel
theorem d_TS_startConfirmed_92 : decode b_TS_startConfirmed 92 = .ok (.aload_n 0, 1) := by decide +kernel
theorem d_TS_startConfirmed_93 : decode b_TS_startConfirmed 93 = .ok (.invokevirtual 100, 3) := by decide +kernel
theorem d_TS_startConfirmed_96 : decode b_TS_startConfirmed 96 = .ok (.ireturn, 1) := by decide +kernel
theorem d_TS_startConfirmed_97 : decode b_TS_startConfirmed 97 = .ok (.aload_n 0, 1) := by decide +kernel
theorem d_TS_startConfirmed_98 : decode b_TS_startConfirmed 98 = .ok (.iload_n 2, 1) := by decide +kernel
theorem d_TS_startConfirmed_99 : decode b_TS_startConfirmed 99 = .ok (.putfield 46, 3) := by decide +kernel
theorem d_TS_startConfirmed_102 : decode b_TS_startConfirmed 102 = .ok (.iload_n 2, 1) := by decide +kernel
theorem d_TS_startConfirmed_103 : decode b_TS_startConfirmed 103 = .ok (.ireturn, 1) := by decide +kernel
theorem d_TS_isConfirmed_0 : decode b_TS_isConfirmed 0 = .ok (.aload_n 0, 1) := by decide +kernel
theorem d_TS_isConfirmed_1 : decode b_TS_isConfirmed 1 = .ok (.getfield 31, 3) := by decide +kernel
theorem d_TS_isConfirmed_4 : decode b_TS_isConfirmed 4 = .ok (.invokevirtual 89, 3) := by decide +kernel
theorem d_TS_isConfirmed_7 : decode b_TS_isConfirmed 7 = .ok (.iload_n 1, 1) := by decide +kernel
theorem d_TS_isConfirmed_8 : decode b_TS_isConfirmed 8 = .ok (.invokestatic 135, 3) := by decide +kernel
theorem d_TS_isConfirmed_11 : decode b_TS_isConfirmed 11 = .ok (.iconst 3, 1) := by decide +kernel
theorem d_TS_isConfirmed_12 : decode b_TS_isConfirmed 12 = .ok (.if_icmp .ne (7), 3) := by decide +kernel
theorem d_TS_isConfirmed_15 : decode b_TS_isConfirmed 15 = .ok (.iconst 1, 1) := by decide +kernel
theorem d_TS_isConfirmed_16 : decode b_TS_isConfirmed 16 = .ok (.goto (4), 3) := by decide +kernel
theorem d_TS_isConfirmed_19 : decode b_TS_isConfirmed 19 = .ok (.iconst 0, 1) := by decide +kernel
theorem d_TS_isConfirmed_20 : decode b_TS_isConfirmed 20 = .ok (.ireturn, 1) := by decide +kernel
theorem d_TS_attempt_0 : decode b_TS_attempt 0 = .ok (.aload_n 0, 1) := by decide +kernel
theorem d_TS_attempt_1 : decode b_TS_attempt 1 = .ok (.invokevirtual 147, 3) := by decide +kernel
theorem d_TS_attempt_4 : decode b_TS_attempt 4 = .ok (.aload_n 0, 1) := by decide +kernel
theorem d_TS_attempt_5 : decode b_TS_attempt 5 = .ok (.getfield 31, 3) := by decide +kernel
theorem d_TS_attempt_8 : decode b_TS_attempt 8 = .ok (.iload_n 1, 1) := by decide +kernel
theorem d_TS_attempt_9 : decode b_TS_attempt 9 = .ok (.invokevirtual 126, 3) := by decide +kernel
theorem d_TS_attempt_12 : decode b_TS_attempt 12 = .ok (.istore_n 2, 1) := by decide +kernel
theorem d_TS_attempt_13 : decode b_TS_attempt 13 = .ok (.iload_n 1, 1) := by decide +kernel
theorem d_TS_attempt_14 : decode b_TS_attempt 14 = .ok (.invokestatic 157, 3) := by decide +kernel
theorem d_TS_attempt_17 : decode b_TS_attempt 17 = .ok (.istore_n 3, 1) := by decide +kernel
theorem d_TS_attempt_18 : decode b_TS_attempt 18 = .ok (.iload_n 2, 1) := by decide +kernel
theorem d_TS_attempt_19 : decode b_TS_attempt 19 = .ok (.invokestatic 63, 3) := by decide +kernel
theorem d_TS_attempt_22 : decode b_TS_attempt 22 = .ok (.ifCond .eq (35), 3) := by decide +kernel
theorem d_TS_attempt_25 : decode b_TS_attempt 25 = .ok (.iload_n 2, 1) := by decide +kernel
theorem d_TS_attempt_26 : decode b_TS_attempt 26 = .ok (.aload_n 0, 1) := by decide +kernel
theorem d_TS_attempt_27 : decode b_TS_attempt 27 = .ok (.getfield 31, 3) := by decide +kernel
theorem d_TS_attempt_30 : decode b_TS_attempt 30 = .ok (.getfield 132, 3) := by decide +kernel
theorem d_TS_attempt_33 : decode b_TS_attempt 33 = .ok (.if_icmp .lt (24), 3) := by decide +kernel
theorem d_TS_attempt_36 : decode b_TS_attempt 36 = .ok (.aload_n 0, 1) := by decide +kernel
theorem d_TS_attempt_37 : decode b_TS_attempt 37 = .ok (.getfield 31, 3) := by decide +kernel
theorem d_TS_attempt_40 : decode b_TS_attempt 40 = .ok (.getfield 141, 3) := by decide +kernel
theorem d_TS_attempt_43 : decode b_TS_attempt 43 = .ok (.iload_n 3, 1) := by decide +kernel
theorem d_TS_attempt_44 : decode b_TS_attempt 44 = .ok (.aload_n 0, 1) := by decide +kernel
theorem d_TS_attempt_45 : decode b_TS_attempt 45 = .ok (.getfield 14, 3) := by decide +kernel
theorem d_TS_attempt_48 : decode b_TS_attempt 48 = .ok (.invokevirtual 59, 3) := by decide +kernel
theorem d_TS_attempt_51 : decode b_TS_attempt 51 = .ok (.invokestatic 160, 3) := by decide +kernel
theorem d_TS_attempt_54 : decode b_TS_attempt 54 = .ok (.ifCond .ne (5), 3) := by decide +kernel
theorem d_TS_attempt_57 : decode b_TS_attempt 57 = .ok (.iconst 0, 1) := by decide +kernel
theorem d_TS_attempt_58 : decode b_TS_attempt 58 = .ok (.ireturn, 1) := by decide +kernel
theorem d_TS_attempt_59 : decode b_TS_attempt 59 = .ok (.iconst 0, 1) := by decide +kernel
theorem d_TS_attempt_60 : decode b_TS_attempt 60 = .ok (.istore 4, 2) := by decide +kernel
theorem d_TS_attempt_62 : decode b_TS_attempt 62 = .ok (.iload 4, 2) := by decide +kernel
theorem d_TS_attempt_64 : decode b_TS_attempt 64 = .ok (.iconst 3, 1) := by decide +kernel
theorem d_TS_attempt_65 : decode b_TS_attempt 65 = .ok (.if_icmp .ge (45), 3) := by decide +kernel
theorem d_TS_attempt_68 : decode b_TS_attempt 68 = .ok (.aload_n 0, 1) := by decide +kernel
theorem d_TS_attempt_69 : decode b_TS_attempt 69 = .ok (.getfield 31, 3) := by decide +kernel
theorem d_TS_attempt_72 : decode b_TS_attempt 72 = .ok (.getfield 141, 3) := by decide +kernel
theorem d_TS_attempt_75 : decode b_TS_attempt 75 = .ok (.iload_n 3, 1) := by decide +kernel
theorem d_TS_attempt_76 : decode b_TS_attempt 76 = .ok (.iload 4, 2) := by decide +kernel
theorem d_TS_attempt_78 : decode b_TS_attempt 78 = .ok (.invokestatic 164, 3) := by decide +kernel
theorem d_TS_attempt_81 : decode b_TS_attempt 81 = .ok (.ifCond .ne (5), 3) := by decide +kernel
theorem d_TS_attempt_84 : decode b_TS_attempt 84 = .ok (.iconst 0, 1) := by decide +kernel
theorem d_TS_attempt_85 : decode b_TS_attempt 85 = .ok (.ireturn, 1) := by decide +kernel
theorem d_TS_attempt_86 : decode b_TS_attempt 86 = .ok (.aload_n 0, 1) := by decide +kernel
theorem d_TS_attempt_87 : decode b_TS_attempt 87 = .ok (.aload_n 0, 1) := by decide +kernel
theorem d_TS_attempt_88 : decode b_TS_attempt 88 = .ok (.getfield 31, 3) := by decide +kernel
theorem d_TS_attempt_91 : decode b_TS_attempt 91 = .ok (.getfield 141, 3) := by decide +kernel
theorem d_TS_attempt_94 : decode b_TS_attempt 94 = .ok (.iload_n 3, 1) := by decide +kernel
theorem d_TS_attempt_95 : decode b_TS_attempt 95 = .ok (.iconst 1, 1) := by decide +kernel
theorem d_TS_attempt_96 : decode b_TS_attempt 96 = .ok (.iadd, 1) := by decide +kernel
theorem d_TS_attempt_97 : decode b_TS_attempt 97 = .ok (.iload 4, 2) := by decide +kernel
theorem d_TS_attempt_99 : decode b_TS_attempt 99 = .ok (.iadd, 1) := by decide +kernel
theorem d_TS_attempt_100 : decode b_TS_attempt 100 = .ok (.iaload, 1) := by decide +kernel
theorem d_TS_attempt_101 : decode b_TS_attempt 101 = .ok (.invokevirtual 167, 3) := by decide +kernel
theorem d_TS_attempt_104 : decode b_TS_attempt 104 = .ok (.iinc 4 (1), 3) := by decide +kernel
theorem d_TS_attempt_107 : decode b_TS_attempt 107 = .ok (.goto (-45), 3) := by decide +kernel
theorem d_TS_attempt_110 : decode b_TS_attempt 110 = .ok (.iconst 1, 1) := by decide +kernel
theorem d_TS_attempt_111 : decode b_TS_attempt 111 = .ok (.ireturn, 1) := by decide +kernel
theorem d_TS_enter_0 : decode b_TS_enter 0 = .ok (.aload_n 0, 1) := by decide +kernel
theorem d_TS_enter_1 : decode b_TS_enter 1 = .ok (.getfield 53, 3) := by decide +kernel
theorem d_TS_enter_4 : decode b_TS_enter 4 = .ok (.iconst 3, 1) := by decide +kernel
theorem d_TS_enter_5 : decode b_TS_enter 5 = .ok (.if_icmp .ge (23), 3) := by decide +kernel
theorem d_TS_enter_8 : decode b_TS_enter 8 = .ok (.aload_n 0, 1) := by decide +kernel
theorem d_TS_enter_9 : decode b_TS_enter 9 = .ok (.getfield 43, 3) := by decide +kernel
theorem d_TS_enter_12 : decode b_TS_enter 12 = .ok (.aload_n 0, 1) := by decide +kernel
theorem d_TS_enter_13 : decode b_TS_enter 13 = .ok (.getfield 53, 3) := by decide +kernel
theorem d_TS_enter_16 : decode b_TS_enter 16 = .ok (.iload_n 1, 1) := by decide +kernel
theorem d_TS_enter_17 : decode b_TS_enter 17 = .ok (.iastore, 1) := by decide +kernel
theorem d_TS_enter_18 : decode b_TS_enter 18 = .ok (.aload_n 0, 1) := by decide +kernel
theorem d_TS_enter_19 : decode b_TS_enter 19 = .ok (.dup, 1) := by decide +kernel
theorem d_TS_enter_20 : decode b_TS_enter 20 = .ok (.getfield 53, 3) := by decide +kernel
theorem d_TS_enter_23 : decode b_TS_enter 23 = .ok (.iconst 1, 1) := by decide +kernel
theorem d_TS_enter_24 : decode b_TS_enter 24 = .ok (.iadd, 1) := by decide +kernel
theorem d_TS_enter_25 : decode b_TS_enter 25 = .ok (.putfield 53, 3) := by decide +kernel
theorem d_TS_enter_28 : decode b_TS_enter 28 = .ok (.aload_n 0, 1) := by decide +kernel
theorem d_TS_enter_29 : decode b_TS_enter 29 = .ok (.aload_n 0, 1) := by decide +kernel
theorem d_TS_enter_30 : decode b_TS_enter 30 = .ok (.getfield 56, 3) := by decide +kernel
theorem d_TS_enter_33 : decode b_TS_enter 33 = .ok (.iload_n 1, 1) := by decide +kernel
theorem d_TS_enter_34 : decode b_TS_enter 34 = .ok (.invokestatic 170, 3) := by decide +kernel
theorem d_TS_enter_37 : decode b_TS_enter 37 = .ok (.putfield 56, 3) := by decide +kernel
theorem d_TS_enter_40 : decode b_TS_enter 40 = .ok (.return_, 1) := by decide +kernel
theorem d_TS_hash_0 : decode b_TS_hash 0 = .ok (.iload_n 0, 1) := by decide +kernel
theorem d_TS_hash_1 : decode b_TS_hash 1 = .ok (.ldc 173, 2) := by decide +kernel
theorem d_TS_hash_3 : decode b_TS_hash 3 = .ok (.ixor, 1) := by decide +kernel
theorem d_TS_hash_4 : decode b_TS_hash 4 = .ok (.ldc 174, 2) := by decide +kernel
theorem d_TS_hash_6 : decode b_TS_hash 6 = .ok (.imul, 1) := by decide +kernel
theorem d_TS_hash_7 : decode b_TS_hash 7 = .ok (.iload_n 1, 1) := by decide +kernel
theorem d_TS_hash_8 : decode b_TS_hash 8 = .ok (.iadd, 1) := by decide +kernel
theorem d_TS_hash_9 : decode b_TS_hash 9 = .ok (.istore_n 2, 1) := by decide +kernel
theorem d_TS_hash_10 : decode b_TS_hash 10 = .ok (.iload_n 2, 1) := by decide +kernel
theorem d_TS_hash_11 : decode b_TS_hash 11 = .ok (.iload_n 2, 1) := by decide +kernel
theorem d_TS_hash_12 : decode b_TS_hash 12 = .ok (.bipush 13, 2) := by decide +kernel
theorem d_TS_hash_14 : decode b_TS_hash 14 = .ok (.iushr, 1) := by decide +kernel
theorem d_TS_hash_15 : decode b_TS_hash 15 = .ok (.ixor, 1) := by decide +kernel
theorem d_TS_hash_16 : decode b_TS_hash 16 = .ok (.istore_n 2, 1) := by decide +kernel
theorem d_TS_hash_17 : decode b_TS_hash 17 = .ok (.iload_n 2, 1) := by decide +kernel
theorem d_TS_hash_18 : decode b_TS_hash 18 = .ok (.ldc 173, 2) := by decide +kernel
theorem d_TS_hash_20 : decode b_TS_hash 20 = .ok (.imul, 1) := by decide +kernel
theorem d_TS_hash_21 : decode b_TS_hash 21 = .ok (.istore_n 2, 1) := by decide +kernel
theorem d_TS_hash_22 : decode b_TS_hash 22 = .ok (.iload_n 2, 1) := by decide +kernel
theorem d_TS_hash_23 : decode b_TS_hash 23 = .ok (.iload_n 2, 1) := by decide +kernel
theorem d_TS_hash_24 : decode b_TS_hash 24 = .ok (.bipush 16, 2) := by decide +kernel
theorem d_TS_hash_26 : decode b_TS_hash 26 = .ok (.iushr, 1) := by decide +kernel
theorem d_TS_hash_27 : decode b_TS_hash 27 = .ok (.ixor, 1) := by decide +kernel
theorem d_TS_hash_28 : decode b_TS_hash 28 = .ok (.ireturn, 1) := by decide +kernel
theorem d_Mk_init_0 : decode b_Mk_init 0 = .ok (.aload_n 0, 1) := by decide +kernel
theorem d_Mk_init_1 : decode b_Mk_init 1 = .ok (.invokespecial 1, 3) := by decide +kernel
theorem d_Mk_init_4 : decode b_Mk_init 4 = .ok (.aload_n 0, 1) := by decide +kernel
theorem d_Mk_init_5 : decode b_Mk_init 5 = .ok (.iload_n 1, 1) := by decide +kernel
theorem d_Mk_init_6 : decode b_Mk_init 6 = .ok (.putfield 7, 3) := by decide +kernel
theorem d_Mk_init_9 : decode b_Mk_init 9 = .ok (.aload_n 0, 1) := by decide +kernel
theorem d_Mk_init_10 : decode b_Mk_init 10 = .ok (.bipush 16, 2) := by decide +kernel
theorem d_Mk_init_12 : decode b_Mk_init 12 = .ok (.newarray .int, 2) := by decide +kernel
theorem d_Mk_init_14 : decode b_Mk_init 14 = .ok (.putfield 15, 3) := by decide +kernel
theorem d_Mk_init_17 : decode b_Mk_init 17 = .ok (.aload_n 0, 1) := by decide +kernel
theorem d_Mk_init_18 : decode b_Mk_init 18 = .ok (.iconst 0, 1) := by decide +kernel
theorem d_Mk_init_19 : decode b_Mk_init 19 = .ok (.putfield 19, 3) := by decide +kernel
theorem d_Mk_init_22 : decode b_Mk_init 22 = .ok (.iconst 0, 1) := by decide +kernel
theorem d_Mk_init_23 : decode b_Mk_init 23 = .ok (.istore_n 2, 1) := by decide +kernel
theorem d_Mk_init_24 : decode b_Mk_init 24 = .ok (.iload_n 2, 1) := by decide +kernel
theorem d_Mk_init_25 : decode b_Mk_init 25 = .ok (.bipush 8, 2) := by decide +kernel
theorem d_Mk_init_27 : decode b_Mk_init 27 = .ok (.if_icmp .ge (23), 3) := by decide +kernel
theorem d_Mk_init_30 : decode b_Mk_init 30 = .ok (.aload_n 0, 1) := by decide +kernel
theorem d_Mk_init_31 : decode b_Mk_init 31 = .ok (.getfield 15, 3) := by decide +kernel
theorem d_Mk_init_34 : decode b_Mk_init 34 = .ok (.bipush 8, 2) := by decide +kernel
theorem d_Mk_init_36 : decode b_Mk_init 36 = .ok (.iload_n 2, 1) := by decide +kernel
theorem d_Mk_init_37 : decode b_Mk_init 37 = .ok (.iadd, 1) := by decide +kernel
theorem d_Mk_init_38 : decode b_Mk_init 38 = .ok (.iload_n 1, 1) := by decide +kernel
theorem d_Mk_init_39 : decode b_Mk_init 39 = .ok (.iload_n 2, 1) := by decide +kernel
theorem d_Mk_init_40 : decode b_Mk_init 40 = .ok (.invokestatic 22, 3) := by decide +kernel
theorem d_Mk_init_43 : decode b_Mk_init 43 = .ok (.iastore, 1) := by decide +kernel
theorem d_Mk_init_44 : decode b_Mk_init 44 = .ok (.iinc 2 (1), 3) := by decide +kernel
theorem d_Mk_init_47 : decode b_Mk_init 47 = .ok (.goto (-23), 3) := by decide +kernel
theorem d_Mk_init_50 : decode b_Mk_init 50 = .ok (.bipush 7, 2) := by decide +kernel
theorem d_Mk_init_52 : decode b_Mk_init 52 = .ok (.istore_n 2, 1) := by decide +kernel
theorem d_Mk_init_53 : decode b_Mk_init 53 = .ok (.iload_n 2, 1) := by decide +kernel
theorem d_Mk_init_54 : decode b_Mk_init 54 = .ok (.iconst 1, 1) := by decide +kernel
theorem d_Mk_init_55 : decode b_Mk_init 55 = .ok (.if_icmp .lt (37), 3) := by decide +kernel
theorem d_Mk_init_58 : decode b_Mk_init 58 = .ok (.aload_n 0, 1) := by decide +kernel
theorem d_Mk_init_59 : decode b_Mk_init 59 = .ok (.getfield 15, 3) := by decide +kernel
theorem d_Mk_init_62 : decode b_Mk_init 62 = .ok (.iload_n 2, 1) := by decide +kernel
theorem d_Mk_init_63 : decode b_Mk_init 63 = .ok (.aload_n 0, 1) := by decide +kernel
theorem d_Mk_init_64 : decode b_Mk_init 64 = .ok (.getfield 15, 3) := by decide +kernel
theorem d_Mk_init_67 : decode b_Mk_init 67 = .ok (.iconst 2, 1) := by decide +kernel
theorem d_Mk_init_68 : decode b_Mk_init 68 = .ok (.iload_n 2, 1) := by decide +kernel
theorem d_Mk_init_69 : decode b_Mk_init 69 = .ok (.imul, 1) := by decide +kernel
theorem d_Mk_init_70 : decode b_Mk_init 70 = .ok (.iaload, 1) := by decide +kernel
theorem d_Mk_init_71 : decode b_Mk_init 71 = .ok (.aload_n 0, 1) := by decide +kernel
theorem d_Mk_init_72 : decode b_Mk_init 72 = .ok (.getfield 15, 3) := by decide +kernel
theorem d_Mk_init_75 : decode b_Mk_init 75 = .ok (.iconst 2, 1) := by decide +kernel
theorem d_Mk_init_76 : decode b_Mk_init 76 = .ok (.iload_n 2, 1) := by decide +kernel
theorem d_Mk_init_77 : decode b_Mk_init 77 = .ok (.imul, 1) := by decide +kernel
theorem d_Mk_init_78 : decode b_Mk_init 78 = .ok (.iconst 1, 1) := by decide +kernel
theorem d_Mk_init_79 : decode b_Mk_init 79 = .ok (.iadd, 1) := by decide +kernel
theorem d_Mk_init_80 : decode b_Mk_init 80 = .ok (.iaload, 1) := by decide +kernel
theorem d_Mk_init_81 : decode b_Mk_init 81 = .ok (.iload_n 2, 1) := by decide +kernel
theorem d_Mk_init_82 : decode b_Mk_init 82 = .ok (.invokestatic 26, 3) := by decide +kernel
theorem d_Mk_init_85 : decode b_Mk_init 85 = .ok (.iastore, 1) := by decide +kernel
theorem d_Mk_init_86 : decode b_Mk_init 86 = .ok (.iinc 2 (-1), 3) := by decide +kernel
theorem d_Mk_init_89 : decode b_Mk_init 89 = .ok (.goto (-36), 3) := by decide +kernel
theorem d_Mk_init_92 : decode b_Mk_init 92 = .ok (.return_, 1) := by decide +kernel
theorem d_Mk_root_0 : decode b_Mk_root 0 = .ok (.aload_n 0, 1) := by decide +kernel
theorem d_Mk_root_1 : decode b_Mk_root 1 = .ok (.getfield 15, 3) := by decide +kernel
theorem d_Mk_root_4 : decode b_Mk_root 4 = .ok (.iconst 1, 1) := by decide +kernel
theorem d_Mk_root_5 : decode b_Mk_root 5 = .ok (.iaload, 1) := by decide +kernel
theorem d_Mk_root_6 : decode b_Mk_root 6 = .ok (.ireturn, 1) := by decide +kernel
theorem d_Mk_hasKeyLeft_0 : decode b_Mk_hasKeyLeft 0 = .ok (.aload_n 0, 1) := by decide +kernel
theorem d_Mk_hasKeyLeft_1 : decode b_Mk_hasKeyLeft 1 = .ok (.getfield 19, 3) := by decide +kernel
theorem d_Mk_hasKeyLeft_4 : decode b_Mk_hasKeyLeft 4 = .ok (.bipush 8, 2) := by decide +kernel
theorem d_Mk_hasKeyLeft_6 : decode b_Mk_hasKeyLeft 6 = .ok (.if_icmp .ge (7), 3) := by decide +kernel
theorem d_Mk_hasKeyLeft_9 : decode b_Mk_hasKeyLeft 9 = .ok (.iconst 1, 1) := by decide +kernel
theorem d_Mk_hasKeyLeft_10 : decode b_Mk_hasKeyLeft 10 = .ok (.goto (4), 3) := by decide +kernel
theorem d_Mk_hasKeyLeft_13 : decode b_Mk_hasKeyLeft 13 = .ok (.iconst 0, 1) := by decide +kernel
theorem d_Mk_hasKeyLeft_14 : decode b_Mk_hasKeyLeft 14 = .ok (.ireturn, 1) := by decide +kernel
theorem d_Mk_pack_0 : decode b_Mk_pack 0 = .ok (.aload_n 1, 1) := by decide +kernel
theorem d_Mk_pack_1 : decode b_Mk_pack 1 = .ok (.iload_n 2, 1) := by decide +kernel
theorem d_Mk_pack_2 : decode b_Mk_pack 2 = .ok (.iload_n 3, 1) := by decide +kernel
theorem d_Mk_pack_3 : decode b_Mk_pack 3 = .ok (.iastore, 1) := by decide +kernel
theorem d_Mk_pack_4 : decode b_Mk_pack 4 = .ok (.aload_n 1, 1) := by decide +kernel
theorem d_Mk_pack_5 : decode b_Mk_pack 5 = .ok (.iload_n 2, 1) := by decide +kernel
theorem d_Mk_pack_6 : decode b_Mk_pack 6 = .ok (.iconst 0, 1) := by decide +kernel
theorem d_Mk_pack_7 : decode b_Mk_pack 7 = .ok (.iload 4, 2) := by decide +kernel
theorem d_Mk_pack_9 : decode b_Mk_pack 9 = .ok (.invokestatic 30, 3) := by decide +kernel
theorem d_Mk_pack_12 : decode b_Mk_pack 12 = .ok (.aload_n 1, 1) := by decide +kernel
theorem d_Mk_pack_13 : decode b_Mk_pack 13 = .ok (.iload_n 2, 1) := by decide +kernel
theorem d_Mk_pack_14 : decode b_Mk_pack 14 = .ok (.iconst 1, 1) := by decide +kernel
theorem d_Mk_pack_15 : decode b_Mk_pack 15 = .ok (.iload 5, 2) := by decide +kernel
theorem d_Mk_pack_17 : decode b_Mk_pack 17 = .ok (.invokestatic 30, 3) := by decide +kernel
theorem d_Mk_pack_20 : decode b_Mk_pack 20 = .ok (.aload_n 1, 1) := by decide +kernel
theorem d_Mk_pack_21 : decode b_Mk_pack 21 = .ok (.iload_n 2, 1) := by decide +kernel
theorem d_Mk_pack_22 : decode b_Mk_pack 22 = .ok (.iconst 2, 1) := by decide +kernel
theorem d_Mk_pack_23 : decode b_Mk_pack 23 = .ok (.iload 6, 2) := by decide +kernel
theorem d_Mk_pack_25 : decode b_Mk_pack 25 = .ok (.invokestatic 30, 3) := by decide +kernel
theorem d_Mk_pack_28 : decode b_Mk_pack 28 = .ok (.aload_n 1, 1) := by decide +kernel
theorem d_Mk_pack_29 : decode b_Mk_pack 29 = .ok (.iload_n 2, 1) := by decide +kernel
