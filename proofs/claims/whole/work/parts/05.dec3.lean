theorem d_Mo_fault_41 : decode b_Mo_fault 41 = .ok (.ireturn, 1) := by decide +kernel
theorem d_Mo_fault_42 : decode b_Mo_fault 42 = .ok (.aload_n 0, 1) := by decide +kernel
theorem d_Mo_fault_43 : decode b_Mo_fault 43 = .ok (.iload_n 2, 1) := by decide +kernel
theorem d_Mo_fault_44 : decode b_Mo_fault 44 = .ok (.invokevirtual 88, 3) := by decide +kernel
theorem d_Mo_fault_47 : decode b_Mo_fault 47 = .ok (.istore_n 3, 1) := by decide +kernel
theorem d_Mo_fault_48 : decode b_Mo_fault 48 = .ok (.aload_n 0, 1) := by decide +kernel
theorem d_Mo_fault_49 : decode b_Mo_fault 49 = .ok (.iload_n 2, 1) := by decide +kernel
theorem d_Mo_fault_50 : decode b_Mo_fault 50 = .ok (.invokevirtual 91, 3) := by decide +kernel
theorem d_Mo_fault_53 : decode b_Mo_fault 53 = .ok (.ifCond .ne (7), 3) := by decide +kernel
theorem d_Mo_fault_56 : decode b_Mo_fault 56 = .ok (.iconst 2, 1) := by decide +kernel
theorem d_Mo_fault_57 : decode b_Mo_fault 57 = .ok (.goto (15), 3) := by decide +kernel
theorem d_Mo_fault_60 : decode b_Mo_fault 60 = .ok (.iload_n 3, 1) := by decide +kernel
theorem d_Mo_fault_61 : decode b_Mo_fault 61 = .ok (.iconst 3, 1) := by decide +kernel
theorem d_Mo_fault_62 : decode b_Mo_fault 62 = .ok (.if_icmp .ge (9), 3) := by decide +kernel
theorem d_Mo_fault_65 : decode b_Mo_fault 65 = .ok (.iconst 3, 1) := by decide +kernel
theorem d_Mo_fault_66 : decode b_Mo_fault 66 = .ok (.iload_n 3, 1) := by decide +kernel
theorem d_Mo_fault_67 : decode b_Mo_fault 67 = .ok (.iadd, 1) := by decide +kernel
theorem d_Mo_fault_68 : decode b_Mo_fault 68 = .ok (.goto (4), 3) := by decide +kernel
theorem d_Mo_fault_71 : decode b_Mo_fault 71 = .ok (.iconst 0, 1) := by decide +kernel
theorem d_Mo_fault_72 : decode b_Mo_fault 72 = .ok (.ireturn, 1) := by decide +kernel
theorem d_Mo_cut_0 : decode b_Mo_cut 0 = .ok (.iload_n 1, 1) := by decide +kernel
theorem d_Mo_cut_1 : decode b_Mo_cut 1 = .ok (.iconst (-1), 1) := by decide +kernel
theorem d_Mo_cut_2 : decode b_Mo_cut 2 = .ok (.if_icmp .ge (5), 3) := by decide +kernel
theorem d_Mo_cut_5 : decode b_Mo_cut 5 = .ok (.iconst 0, 1) := by decide +kernel
theorem d_Mo_cut_6 : decode b_Mo_cut 6 = .ok (.ireturn, 1) := by decide +kernel
theorem d_Mo_cut_7 : decode b_Mo_cut 7 = .ok (.aload_n 0, 1) := by decide +kernel
theorem d_Mo_cut_8 : decode b_Mo_cut 8 = .ok (.iload_n 1, 1) := by decide +kernel
theorem d_Mo_cut_9 : decode b_Mo_cut 9 = .ok (.putfield 13, 3) := by decide +kernel
theorem d_Mo_cut_12 : decode b_Mo_cut 12 = .ok (.iconst 1, 1) := by decide +kernel
theorem d_Mo_cut_13 : decode b_Mo_cut 13 = .ok (.ireturn, 1) := by decide +kernel
theorem d_Mo_may_0 : decode b_Mo_may 0 = .ok (.aload_n 0, 1) := by decide +kernel
theorem d_Mo_may_1 : decode b_Mo_may 1 = .ok (.getfield 95, 3) := by decide +kernel
theorem d_Mo_may_4 : decode b_Mo_may 4 = .ok (.ifCond .eq (5), 3) := by decide +kernel
theorem d_Mo_may_7 : decode b_Mo_may 7 = .ok (.iconst 0, 1) := by decide +kernel
theorem d_Mo_may_8 : decode b_Mo_may 8 = .ok (.ireturn, 1) := by decide +kernel
theorem d_Mo_may_9 : decode b_Mo_may 9 = .ok (.aload_n 0, 1) := by decide +kernel
theorem d_Mo_may_10 : decode b_Mo_may 10 = .ok (.getfield 13, 3) := by decide +kernel
theorem d_Mo_may_13 : decode b_Mo_may 13 = .ok (.ifCond .ne (15), 3) := by decide +kernel
theorem d_Mo_may_16 : decode b_Mo_may 16 = .ok (.aload_n 0, 1) := by decide +kernel
theorem d_Mo_may_17 : decode b_Mo_may 17 = .ok (.iconst 1, 1) := by decide +kernel
theorem d_Mo_may_18 : decode b_Mo_may 18 = .ok (.putfield 95, 3) := by decide +kernel
theorem d_Mo_may_21 : decode b_Mo_may 21 = .ok (.aload_n 0, 1) := by decide +kernel
theorem d_Mo_may_22 : decode b_Mo_may 22 = .ok (.iconst (-1), 1) := by decide +kernel
theorem d_Mo_may_23 : decode b_Mo_may 23 = .ok (.putfield 13, 3) := by decide +kernel
theorem d_Mo_may_26 : decode b_Mo_may 26 = .ok (.iconst 0, 1) := by decide +kernel
theorem d_Mo_may_27 : decode b_Mo_may 27 = .ok (.ireturn, 1) := by decide +kernel
theorem d_Mo_may_28 : decode b_Mo_may 28 = .ok (.aload_n 0, 1) := by decide +kernel
theorem d_Mo_may_29 : decode b_Mo_may 29 = .ok (.aload_n 0, 1) := by decide +kernel
theorem d_Mo_may_30 : decode b_Mo_may 30 = .ok (.getfield 13, 3) := by decide +kernel
theorem d_Mo_may_33 : decode b_Mo_may 33 = .ok (.ifCond .le (12), 3) := by decide +kernel
theorem d_Mo_may_36 : decode b_Mo_may 36 = .ok (.aload_n 0, 1) := by decide +kernel
theorem d_Mo_may_37 : decode b_Mo_may 37 = .ok (.getfield 13, 3) := by decide +kernel
theorem d_Mo_may_40 : decode b_Mo_may 40 = .ok (.iconst 1, 1) := by decide +kernel
theorem d_Mo_may_41 : decode b_Mo_may 41 = .ok (.isub, 1) := by decide +kernel
theorem d_Mo_may_42 : decode b_Mo_may 42 = .ok (.goto (7), 3) := by decide +kernel
theorem d_Mo_may_45 : decode b_Mo_may 45 = .ok (.aload_n 0, 1) := by decide +kernel
theorem d_Mo_may_46 : decode b_Mo_may 46 = .ok (.getfield 13, 3) := by decide +kernel
theorem d_Mo_may_49 : decode b_Mo_may 49 = .ok (.putfield 13, 3) := by decide +kernel
theorem d_Mo_may_52 : decode b_Mo_may 52 = .ok (.aload_n 0, 1) := by decide +kernel
theorem d_Mo_may_53 : decode b_Mo_may 53 = .ok (.dup, 1) := by decide +kernel
theorem d_Mo_may_54 : decode b_Mo_may 54 = .ok (.getfield 99, 3) := by decide +kernel
theorem d_Mo_may_57 : decode b_Mo_may 57 = .ok (.iconst 1, 1) := by decide +kernel
theorem d_Mo_may_58 : decode b_Mo_may 58 = .ok (.iadd, 1) := by decide +kernel
theorem d_Mo_may_59 : decode b_Mo_may 59 = .ok (.putfield 99, 3) := by decide +kernel
theorem d_Mo_may_62 : decode b_Mo_may 62 = .ok (.iconst 1, 1) := by decide +kernel
theorem d_Mo_may_63 : decode b_Mo_may 63 = .ok (.ireturn, 1) := by decide +kernel
theorem d_Mo_put_0 : decode b_Mo_put 0 = .ok (.aload_n 0, 1) := by decide +kernel
theorem d_Mo_put_1 : decode b_Mo_put 1 = .ok (.invokevirtual 102, 3) := by decide +kernel
theorem d_Mo_put_4 : decode b_Mo_put 4 = .ok (.ifCond .eq (10), 3) := by decide +kernel
theorem d_Mo_put_7 : decode b_Mo_put 7 = .ok (.aload_n 0, 1) := by decide +kernel
theorem d_Mo_put_8 : decode b_Mo_put 8 = .ok (.getfield 7, 3) := by decide +kernel
theorem d_Mo_put_11 : decode b_Mo_put 11 = .ok (.iload_n 1, 1) := by decide +kernel
theorem d_Mo_put_12 : decode b_Mo_put 12 = .ok (.iload_n 2, 1) := by decide +kernel
theorem d_Mo_put_13 : decode b_Mo_put 13 = .ok (.iastore, 1) := by decide +kernel
theorem d_Mo_put_14 : decode b_Mo_put 14 = .ok (.return_, 1) := by decide +kernel
theorem d_Mo_blow_0 : decode b_Mo_blow 0 = .ok (.iconst 0, 1) := by decide +kernel
theorem d_Mo_blow_1 : decode b_Mo_blow 1 = .ok (.istore_n 2, 1) := by decide +kernel
theorem d_Mo_blow_2 : decode b_Mo_blow 2 = .ok (.iload_n 2, 1) := by decide +kernel
theorem d_Mo_blow_3 : decode b_Mo_blow 3 = .ok (.bipush 32, 2) := by decide +kernel
theorem d_Mo_blow_5 : decode b_Mo_blow 5 = .ok (.if_icmp .ge (43), 3) := by decide +kernel
theorem d_Mo_blow_8 : decode b_Mo_blow 8 = .ok (.aload_n 0, 1) := by decide +kernel
theorem d_Mo_blow_9 : decode b_Mo_blow 9 = .ok (.getfield 35, 3) := by decide +kernel
theorem d_Mo_blow_12 : decode b_Mo_blow 12 = .ok (.iload_n 1, 1) := by decide +kernel
theorem d_Mo_blow_13 : decode b_Mo_blow 13 = .ok (.if_icmp .ge (29), 3) := by decide +kernel
theorem d_Mo_blow_16 : decode b_Mo_blow 16 = .ok (.aload_n 0, 1) := by decide +kernel
theorem d_Mo_blow_17 : decode b_Mo_blow 17 = .ok (.getfield 35, 3) := by decide +kernel
theorem d_Mo_blow_20 : decode b_Mo_blow 20 = .ok (.bipush 32, 2) := by decide +kernel
theorem d_Mo_blow_22 : decode b_Mo_blow 22 = .ok (.if_icmp .ge (20), 3) := by decide +kernel
theorem d_Mo_blow_25 : decode b_Mo_blow 25 = .ok (.aload_n 0, 1) := by decide +kernel
theorem d_Mo_blow_26 : decode b_Mo_blow 26 = .ok (.invokevirtual 102, 3) := by decide +kernel
theorem d_Mo_blow_29 : decode b_Mo_blow 29 = .ok (.ifCond .eq (13), 3) := by decide +kernel
theorem d_Mo_blow_32 : decode b_Mo_blow 32 = .ok (.aload_n 0, 1) := by decide +kernel
theorem d_Mo_blow_33 : decode b_Mo_blow 33 = .ok (.dup, 1) := by decide +kernel
theorem d_Mo_blow_34 : decode b_Mo_blow 34 = .ok (.getfield 35, 3) := by decide +kernel
theorem d_Mo_blow_37 : decode b_Mo_blow 37 = .ok (.iconst 1, 1) := by decide +kernel
theorem d_Mo_blow_38 : decode b_Mo_blow 38 = .ok (.iadd, 1) := by decide +kernel
theorem d_Mo_blow_39 : decode b_Mo_blow 39 = .ok (.putfield 35, 3) := by decide +kernel
theorem d_Mo_blow_42 : decode b_Mo_blow 42 = .ok (.iinc 2 (1), 3) := by decide +kernel
theorem d_Mo_blow_45 : decode b_Mo_blow 45 = .ok (.goto (-43), 3) := by decide +kernel
theorem d_Mo_blow_48 : decode b_Mo_blow 48 = .ok (.return_, 1) := by decide +kernel
theorem d_Mo_answer_0 : decode b_Mo_answer 0 = .ok (.aload_n 0, 1) := by decide +kernel
theorem d_Mo_answer_1 : decode b_Mo_answer 1 = .ok (.getfield 95, 3) := by decide +kernel
theorem d_Mo_answer_4 : decode b_Mo_answer 4 = .ok (.ifCond .ne (5), 3) := by decide +kernel
theorem d_Mo_answer_7 : decode b_Mo_answer 7 = .ok (.iload_n 1, 1) := by decide +kernel
theorem d_Mo_answer_8 : decode b_Mo_answer 8 = .ok (.ireturn, 1) := by decide +kernel
theorem d_Mo_answer_9 : decode b_Mo_answer 9 = .ok (.aload_n 0, 1) := by decide +kernel
theorem d_Mo_answer_10 : decode b_Mo_answer 10 = .ok (.iconst 0, 1) := by decide +kernel
theorem d_Mo_answer_11 : decode b_Mo_answer 11 = .ok (.putfield 95, 3) := by decide +kernel
theorem d_Mo_answer_14 : decode b_Mo_answer 14 = .ok (.aload_n 0, 1) := by decide +kernel
theorem d_Mo_answer_15 : decode b_Mo_answer 15 = .ok (.iconst (-1), 1) := by decide +kernel
theorem d_Mo_answer_16 : decode b_Mo_answer 16 = .ok (.putfield 17, 3) := by decide +kernel
theorem d_Mo_answer_19 : decode b_Mo_answer 19 = .ok (.aload_n 0, 1) := by decide +kernel
theorem d_Mo_answer_20 : decode b_Mo_answer 20 = .ok (.iconst 0, 1) := by decide +kernel
theorem d_Mo_answer_21 : decode b_Mo_answer 21 = .ok (.putfield 106, 3) := by decide +kernel
theorem d_Mo_answer_24 : decode b_Mo_answer 24 = .ok (.aload_n 0, 1) := by decide +kernel
theorem d_Mo_answer_25 : decode b_Mo_answer 25 = .ok (.iconst 0, 1) := by decide +kernel
theorem d_Mo_answer_26 : decode b_Mo_answer 26 = .ok (.putfield 109, 3) := by decide +kernel
theorem d_Mo_answer_29 : decode b_Mo_answer 29 = .ok (.aload_n 0, 1) := by decide +kernel
theorem d_Mo_answer_30 : decode b_Mo_answer 30 = .ok (.iconst 0, 1) := by decide +kernel
theorem d_Mo_answer_31 : decode b_Mo_answer 31 = .ok (.putfield 112, 3) := by decide +kernel
theorem d_Mo_answer_34 : decode b_Mo_answer 34 = .ok (.iconst (-1), 1) := by decide +kernel
theorem d_Mo_answer_35 : decode b_Mo_answer 35 = .ok (.ireturn, 1) := by decide +kernel
theorem d_Mo_good_0 : decode b_Mo_good 0 = .ok (.bipush 34, 2) := by decide +kernel
theorem d_Mo_good_2 : decode b_Mo_good 2 = .ok (.iconst 3, 1) := by decide +kernel
theorem d_Mo_good_3 : decode b_Mo_good 3 = .ok (.iload_n 1, 1) := by decide +kernel
theorem d_Mo_good_4 : decode b_Mo_good 4 = .ok (.imul, 1) := by decide +kernel
theorem d_Mo_good_5 : decode b_Mo_good 5 = .ok (.iadd, 1) := by decide +kernel
theorem d_Mo_good_6 : decode b_Mo_good 6 = .ok (.istore_n 2, 1) := by decide +kernel
theorem d_Mo_good_7 : decode b_Mo_good 7 = .ok (.aload_n 0, 1) := by decide +kernel
theorem d_Mo_good_8 : decode b_Mo_good 8 = .ok (.getfield 7, 3) := by decide +kernel
theorem d_Mo_good_11 : decode b_Mo_good 11 = .ok (.iload_n 2, 1) := by decide +kernel
theorem d_Mo_good_12 : decode b_Mo_good 12 = .ok (.iconst 2, 1) := by decide +kernel
theorem d_Mo_good_13 : decode b_Mo_good 13 = .ok (.iadd, 1) := by decide +kernel
theorem d_Mo_good_14 : decode b_Mo_good 14 = .ok (.iaload, 1) := by decide +kernel
theorem d_Mo_good_15 : decode b_Mo_good 15 = .ok (.aload_n 0, 1) := by decide +kernel
theorem d_Mo_good_16 : decode b_Mo_good 16 = .ok (.getfield 7, 3) := by decide +kernel
theorem d_Mo_good_19 : decode b_Mo_good 19 = .ok (.iload_n 2, 1) := by decide +kernel
theorem d_Mo_good_20 : decode b_Mo_good 20 = .ok (.iaload, 1) := by decide +kernel
theorem d_Mo_good_21 : decode b_Mo_good 21 = .ok (.aload_n 0, 1) := by decide +kernel
theorem d_Mo_good_22 : decode b_Mo_good 22 = .ok (.getfield 7, 3) := by decide +kernel
theorem d_Mo_good_25 : decode b_Mo_good 25 = .ok (.iload_n 2, 1) := by decide +kernel
theorem d_Mo_good_26 : decode b_Mo_good 26 = .ok (.iconst 1, 1) := by decide +kernel
theorem d_Mo_good_27 : decode b_Mo_good 27 = .ok (.iadd, 1) := by decide +kernel
theorem d_Mo_good_28 : decode b_Mo_good 28 = .ok (.iaload, 1) := by decide +kernel
theorem d_Mo_good_29 : decode b_Mo_good 29 = .ok (.invokestatic 46, 3) := by decide +kernel
theorem d_Mo_good_32 : decode b_Mo_good 32 = .ok (.if_icmp .ne (7), 3) := by decide +kernel
theorem d_Mo_good_35 : decode b_Mo_good 35 = .ok (.iconst 1, 1) := by decide +kernel
theorem d_Mo_good_36 : decode b_Mo_good 36 = .ok (.goto (4), 3) := by decide +kernel
theorem d_Mo_good_39 : decode b_Mo_good 39 = .ok (.iconst 0, 1) := by decide +kernel
theorem d_Mo_good_40 : decode b_Mo_good 40 = .ok (.ireturn, 1) := by decide +kernel
theorem d_Mo_current_0 : decode b_Mo_current 0 = .ok (.aload_n 0, 1) := by decide +kernel
theorem d_Mo_current_1 : decode b_Mo_current 1 = .ok (.iconst 0, 1) := by decide +kernel
theorem d_Mo_current_2 : decode b_Mo_current 2 = .ok (.invokevirtual 115, 3) := by decide +kernel
theorem d_Mo_current_5 : decode b_Mo_current 5 = .ok (.istore_n 1, 1) := by decide +kernel
theorem d_Mo_current_6 : decode b_Mo_current 6 = .ok (.aload_n 0, 1) := by decide +kernel
theorem d_Mo_current_7 : decode b_Mo_current 7 = .ok (.iconst 1, 1) := by decide +kernel
theorem d_Mo_current_8 : decode b_Mo_current 8 = .ok (.invokevirtual 115, 3) := by decide +kernel
theorem d_Mo_current_11 : decode b_Mo_current 11 = .ok (.istore_n 2, 1) := by decide +kernel
theorem d_Mo_current_12 : decode b_Mo_current 12 = .ok (.iload_n 1, 1) := by decide +kernel
theorem d_Mo_current_13 : decode b_Mo_current 13 = .ok (.ifCond .eq (32), 3) := by decide +kernel
theorem d_Mo_current_16 : decode b_Mo_current 16 = .ok (.iload_n 2, 1) := by decide +kernel
theorem d_Mo_current_17 : decode b_Mo_current 17 = .ok (.ifCond .eq (28), 3) := by decide +kernel
theorem d_Mo_current_20 : decode b_Mo_current 20 = .ok (.aload_n 0, 1) := by decide +kernel
theorem d_Mo_current_21 : decode b_Mo_current 21 = .ok (.getfield 7, 3) := by decide +kernel
theorem d_Mo_current_24 : decode b_Mo_current 24 = .ok (.bipush 37, 2) := by decide +kernel
theorem d_Mo_current_26 : decode b_Mo_current 26 = .ok (.iaload, 1) := by decide +kernel
theorem d_Mo_current_27 : decode b_Mo_current 27 = .ok (.aload_n 0, 1) := by decide +kernel
theorem d_Mo_current_28 : decode b_Mo_current 28 = .ok (.getfield 7, 3) := by decide +kernel
theorem d_Mo_current_31 : decode b_Mo_current 31 = .ok (.bipush 34, 2) := by decide +kernel
theorem d_Mo_current_33 : decode b_Mo_current 33 = .ok (.iaload, 1) := by decide +kernel
theorem d_Mo_current_34 : decode b_Mo_current 34 = .ok (.if_icmp .le (7), 3) := by decide +kernel
theorem d_Mo_current_37 : decode b_Mo_current 37 = .ok (.iconst 1, 1) := by decide +kernel
theorem d_Mo_current_38 : decode b_Mo_current 38 = .ok (.goto (24), 3) := by decide +kernel
theorem d_Mo_current_41 : decode b_Mo_current 41 = .ok (.iconst 0, 1) := by decide +kernel
theorem d_Mo_current_42 : decode b_Mo_current 42 = .ok (.goto (20), 3) := by decide +kernel
theorem d_Mo_current_45 : decode b_Mo_current 45 = .ok (.iload_n 1, 1) := by decide +kernel
theorem d_Mo_current_46 : decode b_Mo_current 46 = .ok (.ifCond .eq (7), 3) := by decide +kernel
theorem d_Mo_current_49 : decode b_Mo_current 49 = .ok (.iconst 0, 1) := by decide +kernel
theorem d_Mo_current_50 : decode b_Mo_current 50 = .ok (.goto (12), 3) := by decide +kernel
theorem d_Mo_current_53 : decode b_Mo_current 53 = .ok (.iload_n 2, 1) := by decide +kernel
theorem d_Mo_current_54 : decode b_Mo_current 54 = .ok (.ifCond .eq (7), 3) := by decide +kernel
theorem d_Mo_current_57 : decode b_Mo_current 57 = .ok (.iconst 1, 1) := by decide +kernel
theorem d_Mo_current_58 : decode b_Mo_current 58 = .ok (.goto (4), 3) := by decide +kernel
theorem d_Mo_current_61 : decode b_Mo_current 61 = .ok (.iconst (-1), 1) := by decide +kernel
theorem d_Mo_current_62 : decode b_Mo_current 62 = .ok (.ireturn, 1) := by decide +kernel
theorem d_Mo_entry_0 : decode b_Mo_entry 0 = .ok (.aload_n 0, 1) := by decide +kernel
theorem d_Mo_entry_1 : decode b_Mo_entry 1 = .ok (.invokevirtual 118, 3) := by decide +kernel
theorem d_Mo_entry_4 : decode b_Mo_entry 4 = .ok (.istore_n 1, 1) := by decide +kernel
theorem d_Mo_entry_5 : decode b_Mo_entry 5 = .ok (.iload_n 1, 1) := by decide +kernel
theorem d_Mo_entry_6 : decode b_Mo_entry 6 = .ok (.ifCond .ge (7), 3) := by decide +kernel
theorem d_Mo_entry_9 : decode b_Mo_entry 9 = .ok (.iconst 0, 1) := by decide +kernel
theorem d_Mo_entry_10 : decode b_Mo_entry 10 = .ok (.goto (14), 3) := by decide +kernel
theorem d_Mo_entry_13 : decode b_Mo_entry 13 = .ok (.aload_n 0, 1) := by decide +kernel
theorem d_Mo_entry_14 : decode b_Mo_entry 14 = .ok (.getfield 7, 3) := by decide +kernel
theorem d_Mo_entry_17 : decode b_Mo_entry 17 = .ok (.bipush 35, 2) := by decide +kernel
theorem d_Mo_entry_19 : decode b_Mo_entry 19 = .ok (.iconst 3, 1) := by decide +kernel
theorem d_Mo_entry_20 : decode b_Mo_entry 20 = .ok (.iload_n 1, 1) := by decide +kernel
theorem d_Mo_entry_21 : decode b_Mo_entry 21 = .ok (.imul, 1) := by decide +kernel
theorem d_Mo_entry_22 : decode b_Mo_entry 22 = .ok (.iadd, 1) := by decide +kernel
theorem d_Mo_entry_23 : decode b_Mo_entry 23 = .ok (.iaload, 1) := by decide +kernel
theorem d_Mo_entry_24 : decode b_Mo_entry 24 = .ok (.ireturn, 1) := by decide +kernel
theorem d_Mo_home_0 : decode b_Mo_home 0 = .ok (.aload_n 0, 1) := by decide +kernel
theorem d_Mo_home_1 : decode b_Mo_home 1 = .ok (.invokevirtual 121, 3) := by decide +kernel
theorem d_Mo_home_4 : decode b_Mo_home 4 = .ok (.iconst 1, 1) := by decide +kernel
theorem d_Mo_home_5 : decode b_Mo_home 5 = .ok (.iand, 1) := by decide +kernel
theorem d_Mo_home_6 : decode b_Mo_home 6 = .ok (.ireturn, 1) := by decide +kernel
theorem d_Mo_state_0 : decode b_Mo_state 0 = .ok (.iload_n 1, 1) := by decide +kernel
theorem d_Mo_state_1 : decode b_Mo_state 1 = .ok (.ifCond .eq (8), 3) := by decide +kernel
theorem d_Mo_state_4 : decode b_Mo_state 4 = .ok (.iload_n 1, 1) := by decide +kernel
theorem d_Mo_state_5 : decode b_Mo_state 5 = .ok (.iconst 1, 1) := by decide +kernel
theorem d_Mo_state_6 : decode b_Mo_state 6 = .ok (.if_icmp .ne (18), 3) := by decide +kernel
theorem d_Mo_state_9 : decode b_Mo_state 9 = .ok (.aload_n 0, 1) := by decide +kernel
theorem d_Mo_state_10 : decode b_Mo_state 10 = .ok (.invokevirtual 121, 3) := by decide +kernel
theorem d_Mo_state_13 : decode b_Mo_state 13 = .ok (.iconst 1, 1) := by decide +kernel
theorem d_Mo_state_14 : decode b_Mo_state 14 = .ok (.iconst 2, 1) := by decide +kernel
theorem d_Mo_state_15 : decode b_Mo_state 15 = .ok (.iload_n 1, 1) := by decide +kernel
theorem d_Mo_state_16 : decode b_Mo_state 16 = .ok (.imul, 1) := by decide +kernel
theorem d_Mo_state_17 : decode b_Mo_state 17 = .ok (.iadd, 1) := by decide +kernel
theorem d_Mo_state_18 : decode b_Mo_state 18 = .ok (.ishr, 1) := by decide +kernel
theorem d_Mo_state_19 : decode b_Mo_state 19 = .ok (.iconst 3, 1) := by decide +kernel
theorem d_Mo_state_20 : decode b_Mo_state 20 = .ok (.iand, 1) := by decide +kernel
theorem d_Mo_state_21 : decode b_Mo_state 21 = .ok (.goto (4), 3) := by decide +kernel
theorem d_Mo_state_24 : decode b_Mo_state 24 = .ok (.iconst (-1), 1) := by decide +kernel
theorem d_Mo_state_25 : decode b_Mo_state 25 = .ok (.ireturn, 1) := by decide +kernel
theorem d_Mo_table_0 : decode b_Mo_table 0 = .ok (.aload_n 0, 1) := by decide +kernel
theorem d_Mo_table_1 : decode b_Mo_table 1 = .ok (.invokevirtual 118, 3) := by decide +kernel
theorem d_Mo_table_4 : decode b_Mo_table 4 = .ok (.istore 4, 2) := by decide +kernel
theorem d_Mo_table_6 : decode b_Mo_table 6 = .ok (.iconst 1, 1) := by decide +kernel
theorem d_Mo_table_7 : decode b_Mo_table 7 = .ok (.iload 4, 2) := by decide +kernel
theorem d_Mo_table_9 : decode b_Mo_table 9 = .ok (.ifCond .ge (7), 3) := by decide +kernel
theorem d_Mo_table_12 : decode b_Mo_table 12 = .ok (.iconst 0, 1) := by decide +kernel
theorem d_Mo_table_13 : decode b_Mo_table 13 = .ok (.goto (15), 3) := by decide +kernel
theorem d_Mo_table_16 : decode b_Mo_table 16 = .ok (.aload_n 0, 1) := by decide +kernel
theorem d_Mo_table_17 : decode b_Mo_table 17 = .ok (.getfield 7, 3) := by decide +kernel
theorem d_Mo_table_20 : decode b_Mo_table 20 = .ok (.bipush 34, 2) := by decide +kernel
theorem d_Mo_table_22 : decode b_Mo_table 22 = .ok (.iconst 3, 1) := by decide +kernel
theorem d_Mo_table_23 : decode b_Mo_table 23 = .ok (.iload 4, 2) := by decide +kernel
theorem d_Mo_table_25 : decode b_Mo_table 25 = .ok (.imul, 1) := by decide +kernel
theorem d_Mo_table_26 : decode b_Mo_table 26 = .ok (.iadd, 1) := by decide +kernel
theorem d_Mo_table_27 : decode b_Mo_table 27 = .ok (.iaload, 1) := by decide +kernel
theorem d_Mo_table_28 : decode b_Mo_table 28 = .ok (.iadd, 1) := by decide +kernel
theorem d_Mo_table_29 : decode b_Mo_table 29 = .ok (.istore 5, 2) := by decide +kernel
theorem d_Mo_table_31 : decode b_Mo_table 31 = .ok (.aload_n 0, 1) := by decide +kernel
theorem d_Mo_table_32 : decode b_Mo_table 32 = .ok (.iconst 1, 1) := by decide +kernel
theorem d_Mo_table_33 : decode b_Mo_table 33 = .ok (.iload_n 1, 1) := by decide +kernel
theorem d_Mo_table_34 : decode b_Mo_table 34 = .ok (.isub, 1) := by decide +kernel
theorem d_Mo_table_35 : decode b_Mo_table 35 = .ok (.invokevirtual 124, 3) := by decide +kernel
theorem d_Mo_table_38 : decode b_Mo_table 38 = .ok (.istore 6, 2) := by decide +kernel
theorem d_Mo_table_40 : decode b_Mo_table 40 = .ok (.iload_n 3, 1) := by decide +kernel
theorem d_Mo_table_41 : decode b_Mo_table 41 = .ok (.iload_n 1, 1) := by decide +kernel
theorem d_Mo_table_42 : decode b_Mo_table 42 = .ok (.ifCond .ne (15), 3) := by decide +kernel
theorem d_Mo_table_45 : decode b_Mo_table 45 = .ok (.iconst 2, 1) := by decide +kernel
theorem d_Mo_table_46 : decode b_Mo_table 46 = .ok (.iload_n 2, 1) := by decide +kernel
theorem d_Mo_table_47 : decode b_Mo_table 47 = .ok (.imul, 1) := by decide +kernel
theorem d_Mo_table_48 : decode b_Mo_table 48 = .ok (.bipush 8, 2) := by decide +kernel
theorem d_Mo_table_50 : decode b_Mo_table 50 = .ok (.iload 6, 2) := by decide +kernel
theorem d_Mo_table_52 : decode b_Mo_table 52 = .ok (.imul, 1) := by decide +kernel
theorem d_Mo_table_53 : decode b_Mo_table 53 = .ok (.iadd, 1) := by decide +kernel
theorem d_Mo_table_54 : decode b_Mo_table 54 = .ok (.goto (12), 3) := by decide +kernel
theorem d_Mo_table_57 : decode b_Mo_table 57 = .ok (.iconst 2, 1) := by decide +kernel
theorem d_Mo_table_58 : decode b_Mo_table 58 = .ok (.iload 6, 2) := by decide +kernel
theorem d_Mo_table_60 : decode b_Mo_table 60 = .ok (.imul, 1) := by decide +kernel
theorem d_Mo_table_61 : decode b_Mo_table 61 = .ok (.bipush 8, 2) := by decide +kernel
theorem d_Mo_table_63 : decode b_Mo_table 63 = .ok (.iload_n 2, 1) := by decide +kernel
theorem d_Mo_table_64 : decode b_Mo_table 64 = .ok (.imul, 1) := by decide +kernel
theorem d_Mo_table_65 : decode b_Mo_table 65 = .ok (.iadd, 1) := by decide +kernel
theorem d_Mo_table_66 : decode b_Mo_table 66 = .ok (.iadd, 1) := by decide +kernel
theorem d_Mo_table_67 : decode b_Mo_table 67 = .ok (.istore 7, 2) := by decide +kernel
theorem d_Mo_table_69 : decode b_Mo_table 69 = .ok (.iload 4, 2) := by decide +kernel
theorem d_Mo_table_71 : decode b_Mo_table 71 = .ok (.ifCond .ne (8), 3) := by decide +kernel
theorem d_Mo_table_74 : decode b_Mo_table 74 = .ok (.bipush 37, 2) := by decide +kernel
theorem d_Mo_table_76 : decode b_Mo_table 76 = .ok (.goto (5), 3) := by decide +kernel
theorem d_Mo_table_79 : decode b_Mo_table 79 = .ok (.bipush 34, 2) := by decide +kernel
theorem d_Mo_table_81 : decode b_Mo_table 81 = .ok (.istore 8, 2) := by decide +kernel
theorem d_Mo_table_83 : decode b_Mo_table 83 = .ok (.aload_n 0, 1) := by decide +kernel
theorem d_Mo_table_84 : decode b_Mo_table 84 = .ok (.iload 8, 2) := by decide +kernel
theorem d_Mo_table_86 : decode b_Mo_table 86 = .ok (.iload 5, 2) := by decide +kernel
theorem d_Mo_table_88 : decode b_Mo_table 88 = .ok (.invokevirtual 127, 3) := by decide +kernel
theorem d_Mo_table_91 : decode b_Mo_table 91 = .ok (.aload_n 0, 1) := by decide +kernel
theorem d_Mo_table_92 : decode b_Mo_table 92 = .ok (.iload 8, 2) := by decide +kernel
theorem d_Mo_table_94 : decode b_Mo_table 94 = .ok (.iconst 1, 1) := by decide +kernel
theorem d_Mo_table_95 : decode b_Mo_table 95 = .ok (.iadd, 1) := by decide +kernel
theorem d_Mo_table_96 : decode b_Mo_table 96 = .ok (.iload 7, 2) := by decide +kernel
theorem d_Mo_table_98 : decode b_Mo_table 98 = .ok (.invokevirtual 127, 3) := by decide +kernel
theorem d_Mo_table_101 : decode b_Mo_table 101 = .ok (.aload_n 0, 1) := by decide +kernel
theorem d_Mo_table_102 : decode b_Mo_table 102 = .ok (.iload 8, 2) := by decide +kernel
theorem d_Mo_table_104 : decode b_Mo_table 104 = .ok (.iconst 2, 1) := by decide +kernel
theorem d_Mo_table_105 : decode b_Mo_table 105 = .ok (.iadd, 1) := by decide +kernel
theorem d_Mo_table_106 : decode b_Mo_table 106 = .ok (.iload 5, 2) := by decide +kernel
theorem d_Mo_table_108 : decode b_Mo_table 108 = .ok (.iload 7, 2) := by decide +kernel
theorem d_Mo_table_110 : decode b_Mo_table 110 = .ok (.invokestatic 46, 3) := by decide +kernel
theorem d_Mo_table_113 : decode b_Mo_table 113 = .ok (.invokevirtual 127, 3) := by decide +kernel
theorem d_Mo_table_116 : decode b_Mo_table 116 = .ok (.return_, 1) := by decide +kernel
theorem d_Mo_attempt_0 : decode b_Mo_attempt 0 = .ok (.aload_n 0, 1) := by decide +kernel
theorem d_Mo_attempt_1 : decode b_Mo_attempt 1 = .ok (.iconst 0, 1) := by decide +kernel
theorem d_Mo_attempt_2 : decode b_Mo_attempt 2 = .ok (.putfield 109, 3) := by decide +kernel
theorem d_Mo_attempt_5 : decode b_Mo_attempt 5 = .ok (.aload_n 0, 1) := by decide +kernel
theorem d_Mo_attempt_6 : decode b_Mo_attempt 6 = .ok (.iconst 0, 1) := by decide +kernel
theorem d_Mo_attempt_7 : decode b_Mo_attempt 7 = .ok (.putfield 112, 3) := by decide +kernel
theorem d_Mo_attempt_10 : decode b_Mo_attempt 10 = .ok (.bipush 17, 2) := by decide +kernel
theorem d_Mo_attempt_12 : decode b_Mo_attempt 12 = .ok (.iload_n 1, 1) := by decide +kernel
theorem d_Mo_attempt_13 : decode b_Mo_attempt 13 = .ok (.imul, 1) := by decide +kernel
theorem d_Mo_attempt_14 : decode b_Mo_attempt 14 = .ok (.istore_n 2, 1) := by decide +kernel
theorem d_Mo_attempt_15 : decode b_Mo_attempt 15 = .ok (.aload_n 0, 1) := by decide +kernel
theorem d_Mo_attempt_16 : decode b_Mo_attempt 16 = .ok (.getfield 7, 3) := by decide +kernel
theorem d_Mo_attempt_19 : decode b_Mo_attempt 19 = .ok (.iload_n 2, 1) := by decide +kernel
theorem d_Mo_attempt_20 : decode b_Mo_attempt 20 = .ok (.iaload, 1) := by decide +kernel
theorem d_Mo_attempt_21 : decode b_Mo_attempt 21 = .ok (.istore_n 3, 1) := by decide +kernel
theorem d_Mo_attempt_22 : decode b_Mo_attempt 22 = .ok (.iload_n 3, 1) := by decide +kernel
theorem d_Mo_attempt_23 : decode b_Mo_attempt 23 = .ok (.iconst 1, 1) := by decide +kernel
theorem d_Mo_attempt_24 : decode b_Mo_attempt 24 = .ok (.if_icmp .lt (25), 3) := by decide +kernel
theorem d_Mo_attempt_27 : decode b_Mo_attempt 27 = .ok (.iload_n 3, 1) := by decide +kernel
theorem d_Mo_attempt_28 : decode b_Mo_attempt 28 = .ok (.bipush 32, 2) := by decide +kernel
theorem d_Mo_attempt_30 : decode b_Mo_attempt 30 = .ok (.if_icmp .gt (19), 3) := by decide +kernel
theorem d_Mo_attempt_33 : decode b_Mo_attempt 33 = .ok (.iload_n 3, 1) := by decide +kernel
theorem d_Mo_attempt_34 : decode b_Mo_attempt 34 = .ok (.aload_n 0, 1) := by decide +kernel
theorem d_Mo_attempt_35 : decode b_Mo_attempt 35 = .ok (.getfield 35, 3) := by decide +kernel
theorem d_Mo_attempt_38 : decode b_Mo_attempt 38 = .ok (.if_icmp .lt (11), 3) := by decide +kernel
theorem d_Mo_attempt_41 : decode b_Mo_attempt 41 = .ok (.aload_n 0, 1) := by decide +kernel
theorem d_Mo_attempt_42 : decode b_Mo_attempt 42 = .ok (.iload_n 2, 1) := by decide +kernel
theorem d_Mo_attempt_43 : decode b_Mo_attempt 43 = .ok (.invokevirtual 91, 3) := by decide +kernel
theorem d_Mo_attempt_46 : decode b_Mo_attempt 46 = .ok (.ifCond .ne (5), 3) := by decide +kernel
theorem d_Mo_attempt_49 : decode b_Mo_attempt 49 = .ok (.iconst 0, 1) := by decide +kernel
theorem d_Mo_attempt_50 : decode b_Mo_attempt 50 = .ok (.ireturn, 1) := by decide +kernel
theorem d_Mo_attempt_51 : decode b_Mo_attempt 51 = .ok (.aload_n 0, 1) := by decide +kernel
theorem d_Mo_attempt_52 : decode b_Mo_attempt 52 = .ok (.iload_n 2, 1) := by decide +kernel
theorem d_Mo_attempt_53 : decode b_Mo_attempt 53 = .ok (.invokevirtual 88, 3) := by decide +kernel
theorem d_Mo_attempt_56 : decode b_Mo_attempt 56 = .ok (.istore 4, 2) := by decide +kernel
theorem d_Mo_attempt_58 : decode b_Mo_attempt 58 = .ok (.iconst 0, 1) := by decide +kernel
theorem d_Mo_attempt_59 : decode b_Mo_attempt 59 = .ok (.istore 5, 2) := by decide +kernel
theorem d_Mo_attempt_61 : decode b_Mo_attempt 61 = .ok (.iload 5, 2) := by decide +kernel
theorem d_Mo_attempt_63 : decode b_Mo_attempt 63 = .ok (.iload 4, 2) := by decide +kernel
theorem d_Mo_attempt_65 : decode b_Mo_attempt 65 = .ok (.if_icmp .ge (45), 3) := by decide +kernel
theorem d_Mo_attempt_68 : decode b_Mo_attempt 68 = .ok (.aload_n 0, 1) := by decide +kernel
theorem d_Mo_attempt_69 : decode b_Mo_attempt 69 = .ok (.getfield 20, 3) := by decide +kernel
theorem d_Mo_attempt_72 : decode b_Mo_attempt 72 = .ok (.iload 5, 2) := by decide +kernel
theorem d_Mo_attempt_74 : decode b_Mo_attempt 74 = .ok (.aload_n 0, 1) := by decide +kernel
theorem d_Mo_attempt_75 : decode b_Mo_attempt 75 = .ok (.getfield 7, 3) := by decide +kernel
theorem d_Mo_attempt_78 : decode b_Mo_attempt 78 = .ok (.iload_n 2, 1) := by decide +kernel
theorem d_Mo_attempt_79 : decode b_Mo_attempt 79 = .ok (.iconst 1, 1) := by decide +kernel
theorem d_Mo_attempt_80 : decode b_Mo_attempt 80 = .ok (.iadd, 1) := by decide +kernel
theorem d_Mo_attempt_81 : decode b_Mo_attempt 81 = .ok (.iload 5, 2) := by decide +kernel
theorem d_Mo_attempt_83 : decode b_Mo_attempt 83 = .ok (.iadd, 1) := by decide +kernel
theorem d_Mo_attempt_84 : decode b_Mo_attempt 84 = .ok (.iaload, 1) := by decide +kernel
theorem d_Mo_attempt_85 : decode b_Mo_attempt 85 = .ok (.iastore, 1) := by decide +kernel
theorem d_Mo_attempt_86 : decode b_Mo_attempt 86 = .ok (.aload_n 0, 1) := by decide +kernel
theorem d_Mo_attempt_87 : decode b_Mo_attempt 87 = .ok (.aload_n 0, 1) := by decide +kernel
theorem d_Mo_attempt_88 : decode b_Mo_attempt 88 = .ok (.getfield 112, 3) := by decide +kernel
theorem d_Mo_attempt_91 : decode b_Mo_attempt 91 = .ok (.aload_n 0, 1) := by decide +kernel
theorem d_Mo_attempt_92 : decode b_Mo_attempt 92 = .ok (.getfield 20, 3) := by decide +kernel
theorem d_Mo_attempt_95 : decode b_Mo_attempt 95 = .ok (.iload 5, 2) := by decide +kernel
theorem d_Mo_attempt_97 : decode b_Mo_attempt 97 = .ok (.iaload, 1) := by decide +kernel
theorem d_Mo_attempt_98 : decode b_Mo_attempt 98 = .ok (.invokestatic 52, 3) := by decide +kernel
theorem d_Mo_attempt_101 : decode b_Mo_attempt 101 = .ok (.putfield 112, 3) := by decide +kernel
theorem d_Mo_attempt_104 : decode b_Mo_attempt 104 = .ok (.iinc 5 (1), 3) := by decide +kernel
theorem d_Mo_attempt_107 : decode b_Mo_attempt 107 = .ok (.goto (-46), 3) := by decide +kernel
theorem d_Mo_attempt_110 : decode b_Mo_attempt 110 = .ok (.aload_n 0, 1) := by decide +kernel
theorem d_Mo_attempt_111 : decode b_Mo_attempt 111 = .ok (.iload 4, 2) := by decide +kernel
theorem d_Mo_attempt_113 : decode b_Mo_attempt 113 = .ok (.putfield 109, 3) := by decide +kernel
theorem d_Mo_attempt_116 : decode b_Mo_attempt 116 = .ok (.iload 4, 2) := by decide +kernel
theorem d_Mo_attempt_118 : decode b_Mo_attempt 118 = .ok (.iconst 3, 1) := by decide +kernel
theorem d_Mo_attempt_119 : decode b_Mo_attempt 119 = .ok (.if_icmp .ne (7), 3) := by decide +kernel
theorem d_Mo_attempt_122 : decode b_Mo_attempt 122 = .ok (.iconst 1, 1) := by decide +kernel
theorem d_Mo_attempt_123 : decode b_Mo_attempt 123 = .ok (.goto (4), 3) := by decide +kernel
theorem d_Mo_attempt_126 : decode b_Mo_attempt 126 = .ok (.iconst 0, 1) := by decide +kernel
theorem d_Mo_attempt_127 : decode b_Mo_attempt 127 = .ok (.ireturn, 1) := by decide +kernel
theorem d_Mo_update_0 : decode b_Mo_update 0 = .ok (.aload_n 0, 1) := by decide +kernel
theorem d_Mo_update_1 : decode b_Mo_update 1 = .ok (.iload_n 1, 1) := by decide +kernel
theorem d_Mo_update_2 : decode b_Mo_update 2 = .ok (.iconst 0, 1) := by decide +kernel
theorem d_Mo_update_3 : decode b_Mo_update 3 = .ok (.invokevirtual 84, 3) := by decide +kernel
theorem d_Mo_update_6 : decode b_Mo_update 6 = .ok (.ifCond .ne (18), 3) := by decide +kernel
theorem d_Mo_update_9 : decode b_Mo_update 9 = .ok (.aload_n 0, 1) := by decide +kernel
theorem d_Mo_update_10 : decode b_Mo_update 10 = .ok (.getfield 17, 3) := by decide +kernel
theorem d_Mo_update_13 : decode b_Mo_update 13 = .ok (.iconst (-1), 1) := by decide +kernel
theorem d_Mo_update_14 : decode b_Mo_update 14 = .ok (.if_icmp .eq (10), 3) := by decide +kernel
theorem d_Mo_update_17 : decode b_Mo_update 17 = .ok (.aload_n 0, 1) := by decide +kernel
theorem d_Mo_update_18 : decode b_Mo_update 18 = .ok (.getfield 106, 3) := by decide +kernel
theorem d_Mo_update_21 : decode b_Mo_update 21 = .ok (.ifCond .eq (6), 3) := by decide +kernel
theorem d_Mo_update_24 : decode b_Mo_update 24 = .ok (.bipush (-2), 2) := by decide +kernel
theorem d_Mo_update_26 : decode b_Mo_update 26 = .ok (.ireturn, 1) := by decide +kernel
theorem d_Mo_update_27 : decode b_Mo_update 27 = .ok (.aload_n 0, 1) := by decide +kernel
theorem d_Mo_update_28 : decode b_Mo_update 28 = .ok (.getfield 17, 3) := by decide +kernel
theorem d_Mo_update_31 : decode b_Mo_update 31 = .ok (.iconst 2, 1) := by decide +kernel
theorem d_Mo_update_32 : decode b_Mo_update 32 = .ok (.if_icmp .ne (12), 3) := by decide +kernel
theorem d_Mo_update_35 : decode b_Mo_update 35 = .ok (.iconst 1, 1) := by decide +kernel
theorem d_Mo_update_36 : decode b_Mo_update 36 = .ok (.aload_n 0, 1) := by decide +kernel
theorem d_Mo_update_37 : decode b_Mo_update 37 = .ok (.invokevirtual 130, 3) := by decide +kernel
theorem d_Mo_update_40 : decode b_Mo_update 40 = .ok (.isub, 1) := by decide +kernel
theorem d_Mo_update_41 : decode b_Mo_update 41 = .ok (.goto (9), 3) := by decide +kernel
theorem d_Mo_update_44 : decode b_Mo_update 44 = .ok (.iconst 1, 1) := by decide +kernel
theorem d_Mo_update_45 : decode b_Mo_update 45 = .ok (.aload_n 0, 1) := by decide +kernel
theorem d_Mo_update_46 : decode b_Mo_update 46 = .ok (.getfield 17, 3) := by decide +kernel
theorem d_Mo_update_49 : decode b_Mo_update 49 = .ok (.isub, 1) := by decide +kernel
theorem d_Mo_update_50 : decode b_Mo_update 50 = .ok (.istore_n 2, 1) := by decide +kernel
theorem d_Mo_update_51 : decode b_Mo_update 51 = .ok (.aload_n 0, 1) := by decide +kernel
theorem d_Mo_update_52 : decode b_Mo_update 52 = .ok (.iload_n 2, 1) := by decide +kernel
theorem d_Mo_update_53 : decode b_Mo_update 53 = .ok (.iconst 0, 1) := by decide +kernel
theorem d_Mo_update_54 : decode b_Mo_update 54 = .ok (.iconst 1, 1) := by decide +kernel
theorem d_Mo_update_55 : decode b_Mo_update 55 = .ok (.iload_n 2, 1) := by decide +kernel
theorem d_Mo_update_56 : decode b_Mo_update 56 = .ok (.isub, 1) := by decide +kernel
theorem d_Mo_update_57 : decode b_Mo_update 57 = .ok (.invokevirtual 133, 3) := by decide +kernel
theorem d_Mo_update_60 : decode b_Mo_update 60 = .ok (.iconst 0, 1) := by decide +kernel
theorem d_Mo_update_61 : decode b_Mo_update 61 = .ok (.istore_n 3, 1) := by decide +kernel
theorem d_Mo_update_62 : decode b_Mo_update 62 = .ok (.iload_n 3, 1) := by decide +kernel
theorem d_Mo_update_63 : decode b_Mo_update 63 = .ok (.bipush 17, 2) := by decide +kernel
theorem d_Mo_update_65 : decode b_Mo_update 65 = .ok (.if_icmp .ge (33), 3) := by decide +kernel
theorem d_Mo_update_68 : decode b_Mo_update 68 = .ok (.aload_n 0, 1) := by decide +kernel
theorem d_Mo_update_69 : decode b_Mo_update 69 = .ok (.bipush 17, 2) := by decide +kernel
theorem d_Mo_update_71 : decode b_Mo_update 71 = .ok (.iload_n 2, 1) := by decide +kernel
theorem d_Mo_update_72 : decode b_Mo_update 72 = .ok (.imul, 1) := by decide +kernel
theorem d_Mo_update_73 : decode b_Mo_update 73 = .ok (.iload_n 3, 1) := by decide +kernel
theorem d_Mo_update_74 : decode b_Mo_update 74 = .ok (.iadd, 1) := by decide +kernel
theorem d_Mo_update_75 : decode b_Mo_update 75 = .ok (.aload_n 0, 1) := by decide +kernel
theorem d_Mo_update_76 : decode b_Mo_update 76 = .ok (.getfield 7, 3) := by decide +kernel
theorem d_Mo_update_79 : decode b_Mo_update 79 = .ok (.bipush 40, 2) := by decide +kernel
theorem d_Mo_update_81 : decode b_Mo_update 81 = .ok (.bipush 17, 2) := by decide +kernel
theorem d_Mo_update_83 : decode b_Mo_update 83 = .ok (.iload_n 1, 1) := by decide +kernel
theorem d_Mo_update_84 : decode b_Mo_update 84 = .ok (.imul, 1) := by decide +kernel
theorem d_Mo_update_85 : decode b_Mo_update 85 = .ok (.iadd, 1) := by decide +kernel
theorem d_Mo_update_86 : decode b_Mo_update 86 = .ok (.iload_n 3, 1) := by decide +kernel
theorem d_Mo_update_87 : decode b_Mo_update 87 = .ok (.iadd, 1) := by decide +kernel
theorem d_Mo_update_88 : decode b_Mo_update 88 = .ok (.iaload, 1) := by decide +kernel
theorem d_Mo_update_89 : decode b_Mo_update 89 = .ok (.invokevirtual 127, 3) := by decide +kernel
theorem d_Mo_update_92 : decode b_Mo_update 92 = .ok (.iinc 3 (1), 3) := by decide +kernel
theorem d_Mo_update_95 : decode b_Mo_update 95 = .ok (.goto (-33), 3) := by decide +kernel
theorem d_Mo_update_98 : decode b_Mo_update 98 = .ok (.aload_n 0, 1) := by decide +kernel
theorem d_Mo_update_99 : decode b_Mo_update 99 = .ok (.iload_n 2, 1) := by decide +kernel
theorem d_Mo_update_100 : decode b_Mo_update 100 = .ok (.iconst 2, 1) := by decide +kernel
theorem d_Mo_update_101 : decode b_Mo_update 101 = .ok (.aload_n 0, 1) := by decide +kernel
theorem d_Mo_update_102 : decode b_Mo_update 102 = .ok (.invokevirtual 130, 3) := by decide +kernel
theorem d_Mo_update_105 : decode b_Mo_update 105 = .ok (.invokevirtual 133, 3) := by decide +kernel
theorem d_Mo_update_108 : decode b_Mo_update 108 = .ok (.aload_n 0, 1) := by decide +kernel
theorem d_Mo_update_109 : decode b_Mo_update 109 = .ok (.iconst 0, 1) := by decide +kernel
theorem d_Mo_update_110 : decode b_Mo_update 110 = .ok (.invokevirtual 137, 3) := by decide +kernel
theorem d_Mo_update_113 : decode b_Mo_update 113 = .ok (.ireturn, 1) := by decide +kernel
theorem d_Mo_boot_0 : decode b_Mo_boot 0 = .ok (.aload_n 0, 1) := by decide +kernel
theorem d_Mo_boot_1 : decode b_Mo_boot 1 = .ok (.iconst (-1), 1) := by decide +kernel
theorem d_Mo_boot_2 : decode b_Mo_boot 2 = .ok (.putfield 17, 3) := by decide +kernel
theorem d_Mo_boot_5 : decode b_Mo_boot 5 = .ok (.aload_n 0, 1) := by decide +kernel
theorem d_Mo_boot_6 : decode b_Mo_boot 6 = .ok (.iconst 0, 1) := by decide +kernel
theorem d_Mo_boot_7 : decode b_Mo_boot 7 = .ok (.putfield 106, 3) := by decide +kernel
theorem d_Mo_boot_10 : decode b_Mo_boot 10 = .ok (.iconst 1, 1) := by decide +kernel
theorem d_Mo_boot_11 : decode b_Mo_boot 11 = .ok (.aload_n 0, 1) := by decide +kernel
theorem d_Mo_boot_12 : decode b_Mo_boot 12 = .ok (.invokevirtual 130, 3) := by decide +kernel
theorem d_Mo_boot_15 : decode b_Mo_boot 15 = .ok (.isub, 1) := by decide +kernel
theorem d_Mo_boot_16 : decode b_Mo_boot 16 = .ok (.istore_n 1, 1) := by decide +kernel
theorem d_Mo_boot_17 : decode b_Mo_boot 17 = .ok (.aload_n 0, 1) := by decide +kernel
theorem d_Mo_boot_18 : decode b_Mo_boot 18 = .ok (.iload_n 1, 1) := by decide +kernel
theorem d_Mo_boot_19 : decode b_Mo_boot 19 = .ok (.invokevirtual 124, 3) := by decide +kernel
theorem d_Mo_boot_22 : decode b_Mo_boot 22 = .ok (.iconst 2, 1) := by decide +kernel
theorem d_Mo_boot_23 : decode b_Mo_boot 23 = .ok (.if_icmp .ne (7), 3) := by decide +kernel
theorem d_Mo_boot_26 : decode b_Mo_boot 26 = .ok (.iload_n 1, 1) := by decide +kernel
theorem d_Mo_boot_27 : decode b_Mo_boot 27 = .ok (.goto (21), 3) := by decide +kernel
theorem d_Mo_boot_30 : decode b_Mo_boot 30 = .ok (.aload_n 0, 1) := by decide +kernel
theorem d_Mo_boot_31 : decode b_Mo_boot 31 = .ok (.iconst 1, 1) := by decide +kernel
theorem d_Mo_boot_32 : decode b_Mo_boot 32 = .ok (.iload_n 1, 1) := by decide +kernel
theorem d_Mo_boot_33 : decode b_Mo_boot 33 = .ok (.isub, 1) := by decide +kernel
theorem d_Mo_boot_34 : decode b_Mo_boot 34 = .ok (.invokevirtual 124, 3) := by decide +kernel
theorem d_Mo_boot_37 : decode b_Mo_boot 37 = .ok (.iconst 2, 1) := by decide +kernel
theorem d_Mo_boot_38 : decode b_Mo_boot 38 = .ok (.if_icmp .ne (9), 3) := by decide +kernel
theorem d_Mo_boot_41 : decode b_Mo_boot 41 = .ok (.iconst 1, 1) := by decide +kernel
theorem d_Mo_boot_42 : decode b_Mo_boot 42 = .ok (.iload_n 1, 1) := by decide +kernel
theorem d_Mo_boot_43 : decode b_Mo_boot 43 = .ok (.isub, 1) := by decide +kernel
theorem d_Mo_boot_44 : decode b_Mo_boot 44 = .ok (.goto (4), 3) := by decide +kernel
theorem d_Mo_boot_47 : decode b_Mo_boot 47 = .ok (.iconst (-1), 1) := by decide +kernel
theorem d_Mo_boot_48 : decode b_Mo_boot 48 = .ok (.istore_n 2, 1) := by decide +kernel
theorem d_Mo_boot_49 : decode b_Mo_boot 49 = .ok (.iload_n 2, 1) := by decide +kernel
theorem d_Mo_boot_50 : decode b_Mo_boot 50 = .ok (.ifCond .lt (37), 3) := by decide +kernel
theorem d_Mo_boot_53 : decode b_Mo_boot 53 = .ok (.aload_n 0, 1) := by decide +kernel
theorem d_Mo_boot_54 : decode b_Mo_boot 54 = .ok (.iload_n 2, 1) := by decide +kernel
theorem d_Mo_boot_55 : decode b_Mo_boot 55 = .ok (.iconst 1, 1) := by decide +kernel
theorem d_Mo_boot_56 : decode b_Mo_boot 56 = .ok (.aload_n 0, 1) := by decide +kernel
theorem d_Mo_boot_57 : decode b_Mo_boot 57 = .ok (.invokevirtual 130, 3) := by decide +kernel
theorem d_Mo_boot_60 : decode b_Mo_boot 60 = .ok (.invokevirtual 133, 3) := by decide +kernel
theorem d_Mo_boot_63 : decode b_Mo_boot 63 = .ok (.aload_n 0, 1) := by decide +kernel
theorem d_Mo_boot_64 : decode b_Mo_boot 64 = .ok (.iload_n 2, 1) := by decide +kernel
theorem d_Mo_boot_65 : decode b_Mo_boot 65 = .ok (.invokevirtual 140, 3) := by decide +kernel
theorem d_Mo_boot_68 : decode b_Mo_boot 68 = .ok (.ifCond .eq (19), 3) := by decide +kernel
theorem d_Mo_boot_71 : decode b_Mo_boot 71 = .ok (.aload_n 0, 1) := by decide +kernel
theorem d_Mo_boot_72 : decode b_Mo_boot 72 = .ok (.iload_n 2, 1) := by decide +kernel
theorem d_Mo_boot_73 : decode b_Mo_boot 73 = .ok (.putfield 17, 3) := by decide +kernel
theorem d_Mo_boot_76 : decode b_Mo_boot 76 = .ok (.aload_n 0, 1) := by decide +kernel
theorem d_Mo_boot_77 : decode b_Mo_boot 77 = .ok (.iconst 1, 1) := by decide +kernel
theorem d_Mo_boot_78 : decode b_Mo_boot 78 = .ok (.putfield 106, 3) := by decide +kernel
theorem d_Mo_boot_81 : decode b_Mo_boot 81 = .ok (.aload_n 0, 1) := by decide +kernel
theorem d_Mo_boot_82 : decode b_Mo_boot 82 = .ok (.iload_n 2, 1) := by decide +kernel
theorem d_Mo_boot_83 : decode b_Mo_boot 83 = .ok (.invokevirtual 137, 3) := by decide +kernel
theorem d_Mo_boot_86 : decode b_Mo_boot 86 = .ok (.ireturn, 1) := by decide +kernel
theorem d_Mo_boot_87 : decode b_Mo_boot 87 = .ok (.aload_n 0, 1) := by decide +kernel
theorem d_Mo_boot_88 : decode b_Mo_boot 88 = .ok (.invokevirtual 130, 3) := by decide +kernel
theorem d_Mo_boot_91 : decode b_Mo_boot 91 = .ok (.istore_n 3, 1) := by decide +kernel
theorem d_Mo_boot_92 : decode b_Mo_boot 92 = .ok (.iconst 0, 1) := by decide +kernel
theorem d_Mo_boot_93 : decode b_Mo_boot 93 = .ok (.istore 4, 2) := by decide +kernel
theorem d_Mo_boot_95 : decode b_Mo_boot 95 = .ok (.iload 4, 2) := by decide +kernel
theorem d_Mo_boot_97 : decode b_Mo_boot 97 = .ok (.iconst 2, 1) := by decide +kernel
theorem d_Mo_boot_98 : decode b_Mo_boot 98 = .ok (.if_icmp .ge (69), 3) := by decide +kernel
theorem d_Mo_boot_101 : decode b_Mo_boot 101 = .ok (.iload 4, 2) := by decide +kernel
theorem d_Mo_boot_103 : decode b_Mo_boot 103 = .ok (.ifCond .ne (7), 3) := by decide +kernel
theorem d_Mo_boot_106 : decode b_Mo_boot 106 = .ok (.iload_n 3, 1) := by decide +kernel
theorem d_Mo_boot_107 : decode b_Mo_boot 107 = .ok (.goto (6), 3) := by decide +kernel
theorem d_Mo_boot_110 : decode b_Mo_boot 110 = .ok (.iconst 1, 1) := by decide +kernel
theorem d_Mo_boot_111 : decode b_Mo_boot 111 = .ok (.iload_n 3, 1) := by decide +kernel
theorem d_Mo_boot_112 : decode b_Mo_boot 112 = .ok (.isub, 1) := by decide +kernel
theorem d_Mo_boot_113 : decode b_Mo_boot 113 = .ok (.istore 5, 2) := by decide +kernel
theorem d_Mo_boot_115 : decode b_Mo_boot 115 = .ok (.aload_n 0, 1) := by decide +kernel
theorem d_Mo_boot_116 : decode b_Mo_boot 116 = .ok (.iload 5, 2) := by decide +kernel
theorem d_Mo_boot_118 : decode b_Mo_boot 118 = .ok (.invokevirtual 124, 3) := by decide +kernel
theorem d_Mo_boot_121 : decode b_Mo_boot 121 = .ok (.iconst 3, 1) := by decide +kernel
theorem d_Mo_boot_122 : decode b_Mo_boot 122 = .ok (.if_icmp .ne (39), 3) := by decide +kernel
theorem d_Mo_boot_125 : decode b_Mo_boot 125 = .ok (.aload_n 0, 1) := by decide +kernel
theorem d_Mo_boot_126 : decode b_Mo_boot 126 = .ok (.iload 5, 2) := by decide +kernel
theorem d_Mo_boot_128 : decode b_Mo_boot 128 = .ok (.invokevirtual 140, 3) := by decide +kernel
theorem d_Mo_boot_131 : decode b_Mo_boot 131 = .ok (.ifCond .eq (30), 3) := by decide +kernel
theorem d_Mo_boot_134 : decode b_Mo_boot 134 = .ok (.aload_n 0, 1) := by decide +kernel
theorem d_Mo_boot_135 : decode b_Mo_boot 135 = .ok (.aload_n 0, 1) := by decide +kernel
theorem d_Mo_boot_136 : decode b_Mo_boot 136 = .ok (.getfield 7, 3) := by decide +kernel
theorem d_Mo_boot_139 : decode b_Mo_boot 139 = .ok (.bipush 17, 2) := by decide +kernel
theorem d_Mo_boot_141 : decode b_Mo_boot 141 = .ok (.iload 5, 2) := by decide +kernel
theorem d_Mo_boot_143 : decode b_Mo_boot 143 = .ok (.imul, 1) := by decide +kernel
theorem d_Mo_boot_144 : decode b_Mo_boot 144 = .ok (.iaload, 1) := by decide +kernel
theorem d_Mo_boot_145 : decode b_Mo_boot 145 = .ok (.invokevirtual 143, 3) := by decide +kernel
theorem d_Mo_boot_148 : decode b_Mo_boot 148 = .ok (.aload_n 0, 1) := by decide +kernel
theorem d_Mo_boot_149 : decode b_Mo_boot 149 = .ok (.iload 5, 2) := by decide +kernel
theorem d_Mo_boot_151 : decode b_Mo_boot 151 = .ok (.putfield 17, 3) := by decide +kernel
theorem d_Mo_boot_154 : decode b_Mo_boot 154 = .ok (.aload_n 0, 1) := by decide +kernel
theorem d_Mo_boot_155 : decode b_Mo_boot 155 = .ok (.iload 5, 2) := by decide +kernel
theorem d_Mo_boot_157 : decode b_Mo_boot 157 = .ok (.invokevirtual 137, 3) := by decide +kernel
theorem d_Mo_boot_160 : decode b_Mo_boot 160 = .ok (.ireturn, 1) := by decide +kernel
theorem d_Mo_boot_161 : decode b_Mo_boot 161 = .ok (.iinc 4 (1), 3) := by decide +kernel
theorem d_Mo_boot_164 : decode b_Mo_boot 164 = .ok (.goto (-69), 3) := by decide +kernel
theorem d_Mo_boot_167 : decode b_Mo_boot 167 = .ok (.aload_n 0, 1) := by decide +kernel
theorem d_Mo_boot_168 : decode b_Mo_boot 168 = .ok (.iconst 0, 1) := by decide +kernel
theorem d_Mo_boot_169 : decode b_Mo_boot 169 = .ok (.putfield 109, 3) := by decide +kernel
theorem d_Mo_boot_172 : decode b_Mo_boot 172 = .ok (.aload_n 0, 1) := by decide +kernel
theorem d_Mo_boot_173 : decode b_Mo_boot 173 = .ok (.iconst 0, 1) := by decide +kernel
theorem d_Mo_boot_174 : decode b_Mo_boot 174 = .ok (.putfield 112, 3) := by decide +kernel
theorem d_Mo_boot_177 : decode b_Mo_boot 177 = .ok (.aload_n 0, 1) := by decide +kernel
theorem d_Mo_boot_178 : decode b_Mo_boot 178 = .ok (.iconst 2, 1) := by decide +kernel
theorem d_Mo_boot_179 : decode b_Mo_boot 179 = .ok (.putfield 17, 3) := by decide +kernel
theorem d_Mo_boot_182 : decode b_Mo_boot 182 = .ok (.aload_n 0, 1) := by decide +kernel
theorem d_Mo_boot_183 : decode b_Mo_boot 183 = .ok (.iconst 2, 1) := by decide +kernel
theorem d_Mo_boot_184 : decode b_Mo_boot 184 = .ok (.invokevirtual 137, 3) := by decide +kernel
theorem d_Mo_boot_187 : decode b_Mo_boot 187 = .ok (.ireturn, 1) := by decide +kernel
theorem d_Mo_confirm_0 : decode b_Mo_confirm 0 = .ok (.aload_n 0, 1) := by decide +kernel
theorem d_Mo_confirm_1 : decode b_Mo_confirm 1 = .ok (.getfield 106, 3) := by decide +kernel
theorem d_Mo_confirm_4 : decode b_Mo_confirm 4 = .ok (.ifCond .ne (6), 3) := by decide +kernel
theorem d_Mo_confirm_7 : decode b_Mo_confirm 7 = .ok (.bipush (-2), 2) := by decide +kernel
theorem d_Mo_confirm_9 : decode b_Mo_confirm 9 = .ok (.ireturn, 1) := by decide +kernel
theorem d_Mo_confirm_10 : decode b_Mo_confirm 10 = .ok (.aload_n 0, 1) := by decide +kernel
theorem d_Mo_confirm_11 : decode b_Mo_confirm 11 = .ok (.aload_n 0, 1) := by decide +kernel
theorem d_Mo_confirm_12 : decode b_Mo_confirm 12 = .ok (.getfield 17, 3) := by decide +kernel
theorem d_Mo_confirm_15 : decode b_Mo_confirm 15 = .ok (.iconst 3, 1) := by decide +kernel
theorem d_Mo_confirm_16 : decode b_Mo_confirm 16 = .ok (.aload_n 0, 1) := by decide +kernel
theorem d_Mo_confirm_17 : decode b_Mo_confirm 17 = .ok (.getfield 17, 3) := by decide +kernel
theorem d_Mo_confirm_20 : decode b_Mo_confirm 20 = .ok (.invokevirtual 133, 3) := by decide +kernel
theorem d_Mo_confirm_23 : decode b_Mo_confirm 23 = .ok (.aload_n 0, 1) := by decide +kernel
theorem d_Mo_confirm_24 : decode b_Mo_confirm 24 = .ok (.aload_n 0, 1) := by decide +kernel
theorem d_Mo_confirm_25 : decode b_Mo_confirm 25 = .ok (.getfield 7, 3) := by decide +kernel
theorem d_Mo_confirm_28 : decode b_Mo_confirm 28 = .ok (.bipush 17, 2) := by decide +kernel
theorem d_Mo_confirm_30 : decode b_Mo_confirm 30 = .ok (.aload_n 0, 1) := by decide +kernel
theorem d_Mo_confirm_31 : decode b_Mo_confirm 31 = .ok (.getfield 17, 3) := by decide +kernel
theorem d_Mo_confirm_34 : decode b_Mo_confirm 34 = .ok (.imul, 1) := by decide +kernel
theorem d_Mo_confirm_35 : decode b_Mo_confirm 35 = .ok (.iaload, 1) := by decide +kernel
theorem d_Mo_confirm_36 : decode b_Mo_confirm 36 = .ok (.invokevirtual 143, 3) := by decide +kernel
theorem d_Mo_confirm_39 : decode b_Mo_confirm 39 = .ok (.aload_n 0, 1) := by decide +kernel
theorem d_Mo_confirm_40 : decode b_Mo_confirm 40 = .ok (.iconst 0, 1) := by decide +kernel
theorem d_Mo_confirm_41 : decode b_Mo_confirm 41 = .ok (.putfield 106, 3) := by decide +kernel
theorem d_Mo_confirm_44 : decode b_Mo_confirm 44 = .ok (.aload_n 0, 1) := by decide +kernel
theorem d_Mo_confirm_45 : decode b_Mo_confirm 45 = .ok (.iconst 0, 1) := by decide +kernel
theorem d_Mo_confirm_46 : decode b_Mo_confirm 46 = .ok (.invokevirtual 137, 3) := by decide +kernel
theorem d_Mo_confirm_49 : decode b_Mo_confirm 49 = .ok (.ireturn, 1) := by decide +kernel
theorem d_Mo_running_0 : decode b_Mo_running 0 = .ok (.aload_n 0, 1) := by decide +kernel
theorem d_Mo_running_1 : decode b_Mo_running 1 = .ok (.getfield 17, 3) := by decide +kernel
theorem d_Mo_running_4 : decode b_Mo_running 4 = .ok (.ireturn, 1) := by decide +kernel
theorem d_Mo_onTrial_0 : decode b_Mo_onTrial 0 = .ok (.aload_n 0, 1) := by decide +kernel
theorem d_Mo_onTrial_1 : decode b_Mo_onTrial 1 = .ok (.getfield 106, 3) := by decide +kernel
theorem d_Mo_onTrial_4 : decode b_Mo_onTrial 4 = .ok (.ireturn, 1) := by decide +kernel
theorem d_Mo_counter_0 : decode b_Mo_counter 0 = .ok (.aload_n 0, 1) := by decide +kernel
theorem d_Mo_counter_1 : decode b_Mo_counter 1 = .ok (.getfield 35, 3) := by decide +kernel
theorem d_Mo_counter_4 : decode b_Mo_counter 4 = .ok (.ireturn, 1) := by decide +kernel
theorem d_Mo_peek_0 : decode b_Mo_peek 0 = .ok (.iload_n 1, 1) := by decide +kernel
theorem d_Mo_peek_1 : decode b_Mo_peek 1 = .ok (.ifCond .lt (9), 3) := by decide +kernel
theorem d_Mo_peek_4 : decode b_Mo_peek 4 = .ok (.iload_n 1, 1) := by decide +kernel
theorem d_Mo_peek_5 : decode b_Mo_peek 5 = .ok (.bipush 39, 2) := by decide +kernel
theorem d_Mo_peek_7 : decode b_Mo_peek 7 = .ok (.if_icmp .le (7), 3) := by decide +kernel
theorem d_Mo_peek_10 : decode b_Mo_peek 10 = .ok (.iconst 0, 1) := by decide +kernel
theorem d_Mo_peek_11 : decode b_Mo_peek 11 = .ok (.goto (9), 3) := by decide +kernel
theorem d_Mo_peek_14 : decode b_Mo_peek 14 = .ok (.aload_n 0, 1) := by decide +kernel
theorem d_Mo_peek_15 : decode b_Mo_peek 15 = .ok (.getfield 7, 3) := by decide +kernel
theorem d_Mo_peek_18 : decode b_Mo_peek 18 = .ok (.iload_n 1, 1) := by decide +kernel
theorem d_Mo_peek_19 : decode b_Mo_peek 19 = .ok (.iaload, 1) := by decide +kernel
theorem d_Mo_peek_20 : decode b_Mo_peek 20 = .ok (.ireturn, 1) := by decide +kernel
theorem d_Mo_poke_0 : decode b_Mo_poke 0 = .ok (.iload_n 1, 1) := by decide +kernel
theorem d_Mo_poke_1 : decode b_Mo_poke 1 = .ok (.ifCond .lt (9), 3) := by decide +kernel
theorem d_Mo_poke_4 : decode b_Mo_poke 4 = .ok (.iload_n 1, 1) := by decide +kernel
theorem d_Mo_poke_5 : decode b_Mo_poke 5 = .ok (.bipush 39, 2) := by decide +kernel
theorem d_Mo_poke_7 : decode b_Mo_poke 7 = .ok (.if_icmp .le (5), 3) := by decide +kernel
theorem d_Mo_poke_10 : decode b_Mo_poke 10 = .ok (.iconst 0, 1) := by decide +kernel
theorem d_Mo_poke_11 : decode b_Mo_poke 11 = .ok (.ireturn, 1) := by decide +kernel
theorem d_Mo_poke_12 : decode b_Mo_poke 12 = .ok (.aload_n 0, 1) := by decide +kernel
theorem d_Mo_poke_13 : decode b_Mo_poke 13 = .ok (.getfield 7, 3) := by decide +kernel
theorem d_Mo_poke_16 : decode b_Mo_poke 16 = .ok (.iload_n 1, 1) := by decide +kernel
theorem d_Mo_poke_17 : decode b_Mo_poke 17 = .ok (.iload_n 2, 1) := by decide +kernel
theorem d_Mo_poke_18 : decode b_Mo_poke 18 = .ok (.iastore, 1) := by decide +kernel
theorem d_Mo_poke_19 : decode b_Mo_poke 19 = .ok (.iconst 1, 1) := by decide +kernel
theorem d_Mo_poke_20 : decode b_Mo_poke 20 = .ok (.ireturn, 1) := by decide +kernel
theorem d_Mo_register_0 : decode b_Mo_register 0 = .ok (.aload_n 0, 1) := by decide +kernel
theorem d_Mo_register_1 : decode b_Mo_register 1 = .ok (.getfield 112, 3) := by decide +kernel
theorem d_Mo_register_4 : decode b_Mo_register 4 = .ok (.ireturn, 1) := by decide +kernel
theorem d_Mo_log_0 : decode b_Mo_log 0 = .ok (.iload_n 1, 1) := by decide +kernel
theorem d_Mo_log_1 : decode b_Mo_log 1 = .ok (.iconst (-1), 1) := by decide +kernel
theorem d_Mo_log_2 : decode b_Mo_log 2 = .ok (.if_icmp .ne (10), 3) := by decide +kernel
theorem d_Mo_log_5 : decode b_Mo_log 5 = .ok (.aload_n 0, 1) := by decide +kernel
theorem d_Mo_log_6 : decode b_Mo_log 6 = .ok (.getfield 109, 3) := by decide +kernel
theorem d_Mo_log_9 : decode b_Mo_log 9 = .ok (.goto (25), 3) := by decide +kernel
theorem d_Mo_log_12 : decode b_Mo_log 12 = .ok (.iload_n 1, 1) := by decide +kernel
theorem d_Mo_log_13 : decode b_Mo_log 13 = .ok (.ifCond .lt (20), 3) := by decide +kernel
theorem d_Mo_log_16 : decode b_Mo_log 16 = .ok (.iload_n 1, 1) := by decide +kernel
theorem d_Mo_log_17 : decode b_Mo_log 17 = .ok (.aload_n 0, 1) := by decide +kernel
theorem d_Mo_log_18 : decode b_Mo_log 18 = .ok (.getfield 109, 3) := by decide +kernel
theorem d_Mo_log_21 : decode b_Mo_log 21 = .ok (.if_icmp .ge (12), 3) := by decide +kernel
theorem d_Mo_log_24 : decode b_Mo_log 24 = .ok (.aload_n 0, 1) := by decide +kernel
theorem d_Mo_log_25 : decode b_Mo_log 25 = .ok (.getfield 20, 3) := by decide +kernel
theorem d_Mo_log_28 : decode b_Mo_log 28 = .ok (.iload_n 1, 1) := by decide +kernel
theorem d_Mo_log_29 : decode b_Mo_log 29 = .ok (.iaload, 1) := by decide +kernel
theorem d_Mo_log_30 : decode b_Mo_log 30 = .ok (.goto (4), 3) := by decide +kernel
theorem d_Mo_log_33 : decode b_Mo_log 33 = .ok (.iconst 0, 1) := by decide +kernel
theorem d_Mo_log_34 : decode b_Mo_log 34 = .ok (.ireturn, 1) := by decide +kernel
theorem d_Mo_writes_0 : decode b_Mo_writes 0 = .ok (.aload_n 0, 1) := by decide +kernel
theorem d_Mo_writes_1 : decode b_Mo_writes 1 = .ok (.getfield 99, 3) := by decide +kernel
theorem d_Mo_writes_4 : decode b_Mo_writes 4 = .ok (.ireturn, 1) := by decide +kernel
