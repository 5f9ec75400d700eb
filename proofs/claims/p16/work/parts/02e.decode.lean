theorem dX4_init_20 : decode cX4_init 20 = .ok (.putfield 18, 3) := by decide +kernel
theorem dX4_init_23 : decode cX4_init 23 = .ok (.aload_n 0, 1) := by decide +kernel
theorem dX4_init_24 : decode cX4_init 24 = .ok (.new 22, 3) := by decide +kernel
theorem dX4_init_27 : decode cX4_init 27 = .ok (.dup, 1) := by decide +kernel
theorem dX4_init_28 : decode cX4_init 28 = .ok (.invokespecial 24, 3) := by decide +kernel
theorem dX4_init_31 : decode cX4_init 31 = .ok (.putfield 25, 3) := by decide +kernel
theorem dX4_init_34 : decode cX4_init 34 = .ok (.aload_n 0, 1) := by decide +kernel
theorem dX4_init_35 : decode cX4_init 35 = .ok (.new 29, 3) := by decide +kernel
theorem dX4_init_38 : decode cX4_init 38 = .ok (.dup, 1) := by decide +kernel
theorem dX4_init_39 : decode cX4_init 39 = .ok (.invokespecial 31, 3) := by decide +kernel
theorem dX4_init_42 : decode cX4_init 42 = .ok (.putfield 32, 3) := by decide +kernel
theorem dX4_init_45 : decode cX4_init 45 = .ok (.aload_n 0, 1) := by decide +kernel
theorem dX4_init_46 : decode cX4_init 46 = .ok (.new 36, 3) := by decide +kernel
theorem dX4_init_49 : decode cX4_init 49 = .ok (.dup, 1) := by decide +kernel
theorem dX4_init_50 : decode cX4_init 50 = .ok (.invokespecial 38, 3) := by decide +kernel
theorem dX4_init_53 : decode cX4_init 53 = .ok (.putfield 39, 3) := by decide +kernel
theorem dX4_init_56 : decode cX4_init 56 = .ok (.aload_n 0, 1) := by decide +kernel
theorem dX4_init_57 : decode cX4_init 57 = .ok (.bipush 80, 2) := by decide +kernel
theorem dX4_init_59 : decode cX4_init 59 = .ok (.putfield 43, 3) := by decide +kernel
theorem dX4_init_62 : decode cX4_init 62 = .ok (.aload_n 0, 1) := by decide +kernel
theorem dX4_init_63 : decode cX4_init 63 = .ok (.sipush 1000, 3) := by decide +kernel
theorem dX4_init_66 : decode cX4_init 66 = .ok (.putfield 47, 3) := by decide +kernel
theorem dX4_init_69 : decode cX4_init 69 = .ok (.iconst 0, 1) := by decide +kernel
theorem dX4_init_70 : decode cX4_init 70 = .ok (.istore_n 1, 1) := by decide +kernel
theorem dX4_init_71 : decode cX4_init 71 = .ok (.iload_n 1, 1) := by decide +kernel
theorem dX4_init_72 : decode cX4_init 72 = .ok (.iconst 4, 1) := by decide +kernel
theorem dX4_init_73 : decode cX4_init 73 = .ok (.if_icmp .ge 23, 3) := by decide +kernel
theorem dX4_init_76 : decode cX4_init 76 = .ok (.aload_n 0, 1) := by decide +kernel
theorem dX4_init_77 : decode cX4_init 77 = .ok (.getfield 18, 3) := by decide +kernel
theorem dX4_init_80 : decode cX4_init 80 = .ok (.iload_n 1, 1) := by decide +kernel
theorem dX4_init_81 : decode cX4_init 81 = .ok (.new 16, 3) := by decide +kernel
theorem dX4_init_84 : decode cX4_init 84 = .ok (.dup, 1) := by decide +kernel
theorem dX4_init_85 : decode cX4_init 85 = .ok (.iload_n 1, 1) := by decide +kernel
theorem dX4_init_86 : decode cX4_init 86 = .ok (.invokespecial 50, 3) := by decide +kernel
theorem dX4_init_89 : decode cX4_init 89 = .ok (.aastore, 1) := by decide +kernel
theorem dX4_init_90 : decode cX4_init 90 = .ok (.iinc 1 1, 3) := by decide +kernel
theorem dX4_init_93 : decode cX4_init 93 = .ok (.goto (-22), 3) := by decide +kernel
theorem dX4_init_96 : decode cX4_init 96 = .ok (.aload_n 0, 1) := by decide +kernel
theorem dX4_init_97 : decode cX4_init 97 = .ok (.invokevirtual 53, 3) := by decide +kernel
theorem dX4_init_100 : decode cX4_init 100 = .ok (.return_, 1) := by decide +kernel
theorem dX4_loan_0 : decode cX4_loan 0 = .ok (.iload_n 1, 1) := by decide +kernel
theorem dX4_loan_1 : decode cX4_loan 1 = .ok (.invokestatic 56, 3) := by decide +kernel
theorem dX4_loan_4 : decode cX4_loan 4 = .ok (.iload_n 2, 1) := by decide +kernel
theorem dX4_loan_5 : decode cX4_loan 5 = .ok (.invokestatic 59, 3) := by decide +kernel
theorem dX4_loan_8 : decode cX4_loan 8 = .ok (.iload_n 3, 1) := by decide +kernel
theorem dX4_loan_9 : decode cX4_loan 9 = .ok (.iconst 1, 1) := by decide +kernel
theorem dX4_loan_10 : decode cX4_loan 10 = .ok (.bipush 99, 2) := by decide +kernel
theorem dX4_loan_12 : decode cX4_loan 12 = .ok (.invokestatic 62, 3) := by decide +kernel
theorem dX4_loan_15 : decode cX4_loan 15 = .ok (.bipush 99, 2) := by decide +kernel
theorem dX4_loan_17 : decode cX4_loan 17 = .ok (.aload_n 0, 1) := by decide +kernel
theorem dX4_loan_18 : decode cX4_loan 18 = .ok (.getfield 12, 3) := by decide +kernel
theorem dX4_loan_21 : decode cX4_loan 21 = .ok (.iload_n 1, 1) := by decide +kernel
theorem dX4_loan_22 : decode cX4_loan 22 = .ok (.iload_n 2, 1) := by decide +kernel
theorem dX4_loan_23 : decode cX4_loan 23 = .ok (.invokevirtual 66, 3) := by decide +kernel
theorem dX4_loan_26 : decode cX4_loan 26 = .ok (.iload_n 3, 1) := by decide +kernel
theorem dX4_loan_27 : decode cX4_loan 27 = .ok (.iadd, 1) := by decide +kernel
theorem dX4_loan_28 : decode cX4_loan 28 = .ok (.invokestatic 70, 3) := by decide +kernel
theorem dX4_loan_31 : decode cX4_loan 31 = .ok (.istore 4, 2) := by decide +kernel
theorem dX4_loan_33 : decode cX4_loan 33 = .ok (.aload_n 0, 1) := by decide +kernel
theorem dX4_loan_34 : decode cX4_loan 34 = .ok (.getfield 12, 3) := by decide +kernel
theorem dX4_loan_37 : decode cX4_loan 37 = .ok (.iload_n 1, 1) := by decide +kernel
theorem dX4_loan_38 : decode cX4_loan 38 = .ok (.iload_n 2, 1) := by decide +kernel
theorem dX4_loan_39 : decode cX4_loan 39 = .ok (.iload 4, 2) := by decide +kernel
theorem dX4_loan_41 : decode cX4_loan 41 = .ok (.invokevirtual 75, 3) := by decide +kernel
theorem dX4_loan_44 : decode cX4_loan 44 = .ok (.aload_n 0, 1) := by decide +kernel
theorem dX4_loan_45 : decode cX4_loan 45 = .ok (.invokevirtual 78, 3) := by decide +kernel
theorem dX4_loan_48 : decode cX4_loan 48 = .ok (.iload 4, 2) := by decide +kernel
theorem dX4_loan_50 : decode cX4_loan 50 = .ok (.ireturn, 1) := by decide +kernel
theorem dX4_strike_0 : decode cX4_strike 0 = .ok (.iload_n 1, 1) := by decide +kernel
theorem dX4_strike_1 : decode cX4_strike 1 = .ok (.invokestatic 56, 3) := by decide +kernel
theorem dX4_strike_4 : decode cX4_strike 4 = .ok (.iload_n 2, 1) := by decide +kernel
theorem dX4_strike_5 : decode cX4_strike 5 = .ok (.invokestatic 59, 3) := by decide +kernel
theorem dX4_strike_8 : decode cX4_strike 8 = .ok (.aload_n 0, 1) := by decide +kernel
theorem dX4_strike_9 : decode cX4_strike 9 = .ok (.getfield 12, 3) := by decide +kernel
theorem dX4_strike_12 : decode cX4_strike 12 = .ok (.iload_n 1, 1) := by decide +kernel
theorem dX4_strike_13 : decode cX4_strike 13 = .ok (.iload_n 2, 1) := by decide +kernel
theorem dX4_strike_14 : decode cX4_strike 14 = .ok (.invokevirtual 66, 3) := by decide +kernel
theorem dX4_strike_17 : decode cX4_strike 17 = .ok (.istore_n 3, 1) := by decide +kernel
theorem dX4_strike_18 : decode cX4_strike 18 = .ok (.iload_n 3, 1) := by decide +kernel
theorem dX4_strike_19 : decode cX4_strike 19 = .ok (.ifCond .ne 13, 3) := by decide +kernel
theorem dX4_strike_22 : decode cX4_strike 22 = .ok (.new 81, 3) := by decide +kernel
theorem dX4_strike_25 : decode cX4_strike 25 = .ok (.dup, 1) := by decide +kernel
theorem dX4_strike_26 : decode cX4_strike 26 = .ok (.ldc 83, 2) := by decide +kernel
theorem dX4_strike_28 : decode cX4_strike 28 = .ok (.invokespecial 85, 3) := by decide +kernel
theorem dX4_strike_31 : decode cX4_strike 31 = .ok (.athrow, 1) := by decide +kernel
theorem dX4_strike_32 : decode cX4_strike 32 = .ok (.aload_n 0, 1) := by decide +kernel
theorem dX4_strike_33 : decode cX4_strike 33 = .ok (.getfield 12, 3) := by decide +kernel
theorem dX4_strike_36 : decode cX4_strike 36 = .ok (.iload_n 1, 1) := by decide +kernel
theorem dX4_strike_37 : decode cX4_strike 37 = .ok (.iload_n 2, 1) := by decide +kernel
theorem dX4_strike_38 : decode cX4_strike 38 = .ok (.iconst 0, 1) := by decide +kernel
theorem dX4_strike_39 : decode cX4_strike 39 = .ok (.invokevirtual 75, 3) := by decide +kernel
theorem dX4_strike_42 : decode cX4_strike 42 = .ok (.aload_n 0, 1) := by decide +kernel
theorem dX4_strike_43 : decode cX4_strike 43 = .ok (.invokevirtual 78, 3) := by decide +kernel
theorem dX4_strike_46 : decode cX4_strike 46 = .ok (.iload_n 3, 1) := by decide +kernel
theorem dX4_strike_47 : decode cX4_strike 47 = .ok (.ireturn, 1) := by decide +kernel
theorem dX4_fade_0 : decode cX4_fade 0 = .ok (.aload_n 0, 1) := by decide +kernel
theorem dX4_fade_1 : decode cX4_fade 1 = .ok (.getfield 12, 3) := by decide +kernel
theorem dX4_fade_4 : decode cX4_fade 4 = .ok (.invokevirtual 88, 3) := by decide +kernel
theorem dX4_fade_7 : decode cX4_fade 7 = .ok (.istore_n 1, 1) := by decide +kernel
theorem dX4_fade_8 : decode cX4_fade 8 = .ok (.aload_n 0, 1) := by decide +kernel
theorem dX4_fade_9 : decode cX4_fade 9 = .ok (.invokevirtual 78, 3) := by decide +kernel
theorem dX4_fade_12 : decode cX4_fade 12 = .ok (.iload_n 1, 1) := by decide +kernel
theorem dX4_fade_13 : decode cX4_fade 13 = .ok (.ireturn, 1) := by decide +kernel
theorem dX4_bar_0 : decode cX4_bar 0 = .ok (.iload_n 1, 1) := by decide +kernel
theorem dX4_bar_1 : decode cX4_bar 1 = .ok (.invokestatic 59, 3) := by decide +kernel
theorem dX4_bar_4 : decode cX4_bar 4 = .ok (.iload_n 2, 1) := by decide +kernel
theorem dX4_bar_5 : decode cX4_bar 5 = .ok (.iconst 0, 1) := by decide +kernel
theorem dX4_bar_6 : decode cX4_bar 6 = .ok (.iconst 2, 1) := by decide +kernel
theorem dX4_bar_7 : decode cX4_bar 7 = .ok (.invokestatic 62, 3) := by decide +kernel
theorem dX4_bar_10 : decode cX4_bar 10 = .ok (.aload_n 0, 1) := by decide +kernel
theorem dX4_bar_11 : decode cX4_bar 11 = .ok (.getfield 12, 3) := by decide +kernel
theorem dX4_bar_14 : decode cX4_bar 14 = .ok (.iload_n 1, 1) := by decide +kernel
theorem dX4_bar_15 : decode cX4_bar 15 = .ok (.invokevirtual 92, 3) := by decide +kernel
theorem dX4_bar_18 : decode cX4_bar 18 = .ok (.istore_n 3, 1) := by decide +kernel
theorem dX4_bar_19 : decode cX4_bar 19 = .ok (.aload_n 0, 1) := by decide +kernel
theorem dX4_bar_20 : decode cX4_bar 20 = .ok (.getfield 12, 3) := by decide +kernel
theorem dX4_bar_23 : decode cX4_bar 23 = .ok (.iload_n 1, 1) := by decide +kernel
theorem dX4_bar_24 : decode cX4_bar 24 = .ok (.iload_n 2, 1) := by decide +kernel
theorem dX4_bar_25 : decode cX4_bar 25 = .ok (.invokevirtual 96, 3) := by decide +kernel
theorem dX4_bar_28 : decode cX4_bar 28 = .ok (.aload_n 0, 1) := by decide +kernel
theorem dX4_bar_29 : decode cX4_bar 29 = .ok (.invokevirtual 78, 3) := by decide +kernel
theorem dX4_bar_32 : decode cX4_bar 32 = .ok (.iload_n 3, 1) := by decide +kernel
theorem dX4_bar_33 : decode cX4_bar 33 = .ok (.ireturn, 1) := by decide +kernel
theorem dX4_walk_0 : decode cX4_walk 0 = .ok (.iload_n 1, 1) := by decide +kernel
theorem dX4_walk_1 : decode cX4_walk 1 = .ok (.bipush 50, 2) := by decide +kernel
theorem dX4_walk_3 : decode cX4_walk 3 = .ok (.bipush 90, 2) := by decide +kernel
theorem dX4_walk_5 : decode cX4_walk 5 = .ok (.invokestatic 62, 3) := by decide +kernel
theorem dX4_walk_8 : decode cX4_walk 8 = .ok (.iload_n 2, 1) := by decide +kernel
theorem dX4_walk_9 : decode cX4_walk 9 = .ok (.bipush 100, 2) := by decide +kernel
theorem dX4_walk_11 : decode cX4_walk 11 = .ok (.ldc 100, 2) := by decide +kernel
theorem dX4_walk_13 : decode cX4_walk 13 = .ok (.invokestatic 62, 3) := by decide +kernel
theorem dX4_walk_16 : decode cX4_walk 16 = .ok (.aload_n 0, 1) := by decide +kernel
theorem dX4_walk_17 : decode cX4_walk 17 = .ok (.iload_n 1, 1) := by decide +kernel
theorem dX4_walk_18 : decode cX4_walk 18 = .ok (.putfield 43, 3) := by decide +kernel
theorem dX4_walk_21 : decode cX4_walk 21 = .ok (.aload_n 0, 1) := by decide +kernel
theorem dX4_walk_22 : decode cX4_walk 22 = .ok (.iload_n 2, 1) := by decide +kernel
theorem dX4_walk_23 : decode cX4_walk 23 = .ok (.putfield 47, 3) := by decide +kernel
theorem dX4_walk_26 : decode cX4_walk 26 = .ok (.aload_n 0, 1) := by decide +kernel
theorem dX4_walk_27 : decode cX4_walk 27 = .ok (.invokevirtual 53, 3) := by decide +kernel
theorem dX4_walk_30 : decode cX4_walk 30 = .ok (.return_, 1) := by decide +kernel
theorem dX4_landed_0 : decode cX4_landed 0 = .ok (.iload_n 1, 1) := by decide +kernel
theorem dX4_landed_1 : decode cX4_landed 1 = .ok (.invokestatic 56, 3) := by decide +kernel
theorem dX4_landed_4 : decode cX4_landed 4 = .ok (.iload_n 2, 1) := by decide +kernel
theorem dX4_landed_5 : decode cX4_landed 5 = .ok (.invokestatic 101, 3) := by decide +kernel
theorem dX4_landed_8 : decode cX4_landed 8 = .ok (.aload_n 0, 1) := by decide +kernel
theorem dX4_landed_9 : decode cX4_landed 9 = .ok (.getfield 18, 3) := by decide +kernel
theorem dX4_landed_12 : decode cX4_landed 12 = .ok (.iload_n 1, 1) := by decide +kernel
theorem dX4_landed_13 : decode cX4_landed 13 = .ok (.aaload, 1) := by decide +kernel
theorem dX4_landed_14 : decode cX4_landed 14 = .ok (.iload_n 2, 1) := by decide +kernel
theorem dX4_landed_15 : decode cX4_landed 15 = .ok (.invokevirtual 104, 3) := by decide +kernel
theorem dX4_landed_18 : decode cX4_landed 18 = .ok (.l2i, 1) := by decide +kernel
theorem dX4_landed_19 : decode cX4_landed 19 = .ok (.ireturn, 1) := by decide +kernel
theorem dX4_rest_0 : decode cX4_rest 0 = .ok (.iload_n 1, 1) := by decide +kernel
theorem dX4_rest_1 : decode cX4_rest 1 = .ok (.invokestatic 56, 3) := by decide +kernel
theorem dX4_rest_4 : decode cX4_rest 4 = .ok (.iload_n 2, 1) := by decide +kernel
theorem dX4_rest_5 : decode cX4_rest 5 = .ok (.invokestatic 101, 3) := by decide +kernel
theorem dX4_rest_8 : decode cX4_rest 8 = .ok (.aload_n 0, 1) := by decide +kernel
theorem dX4_rest_9 : decode cX4_rest 9 = .ok (.getfield 18, 3) := by decide +kernel
theorem dX4_rest_12 : decode cX4_rest 12 = .ok (.iload_n 1, 1) := by decide +kernel
theorem dX4_rest_13 : decode cX4_rest 13 = .ok (.aaload, 1) := by decide +kernel
theorem dX4_rest_14 : decode cX4_rest 14 = .ok (.iload_n 2, 1) := by decide +kernel
theorem dX4_rest_15 : decode cX4_rest 15 = .ok (.invokevirtual 108, 3) := by decide +kernel
theorem dX4_rest_18 : decode cX4_rest 18 = .ok (.l2i, 1) := by decide +kernel
theorem dX4_rest_19 : decode cX4_rest 19 = .ok (.ireturn, 1) := by decide +kernel
theorem dX4_sent_0 : decode cX4_sent 0 = .ok (.iload_n 1, 1) := by decide +kernel
theorem dX4_sent_1 : decode cX4_sent 1 = .ok (.invokestatic 56, 3) := by decide +kernel
theorem dX4_sent_4 : decode cX4_sent 4 = .ok (.iload_n 2, 1) := by decide +kernel
theorem dX4_sent_5 : decode cX4_sent 5 = .ok (.invokestatic 101, 3) := by decide +kernel
theorem dX4_sent_8 : decode cX4_sent 8 = .ok (.iload_n 3, 1) := by decide +kernel
theorem dX4_sent_9 : decode cX4_sent 9 = .ok (.invokestatic 101, 3) := by decide +kernel
theorem dX4_sent_12 : decode cX4_sent 12 = .ok (.aload_n 0, 1) := by decide +kernel
theorem dX4_sent_13 : decode cX4_sent 13 = .ok (.getfield 18, 3) := by decide +kernel
theorem dX4_sent_16 : decode cX4_sent 16 = .ok (.iload_n 1, 1) := by decide +kernel
theorem dX4_sent_17 : decode cX4_sent 17 = .ok (.aaload, 1) := by decide +kernel
theorem dX4_sent_18 : decode cX4_sent 18 = .ok (.iload_n 2, 1) := by decide +kernel
theorem dX4_sent_19 : decode cX4_sent 19 = .ok (.iload_n 3, 1) := by decide +kernel
theorem dX4_sent_20 : decode cX4_sent 20 = .ok (.invokevirtual 111, 3) := by decide +kernel
theorem dX4_sent_23 : decode cX4_sent 23 = .ok (.l2i, 1) := by decide +kernel
theorem dX4_sent_24 : decode cX4_sent 24 = .ok (.ireturn, 1) := by decide +kernel
theorem dX4_pushes_0 : decode cX4_pushes 0 = .ok (.iconst 0, 1) := by decide +kernel
theorem dX4_pushes_1 : decode cX4_pushes 1 = .ok (.istore_n 1, 1) := by decide +kernel
theorem dX4_pushes_2 : decode cX4_pushes 2 = .ok (.iconst 0, 1) := by decide +kernel
theorem dX4_pushes_3 : decode cX4_pushes 3 = .ok (.istore_n 2, 1) := by decide +kernel
theorem dX4_pushes_4 : decode cX4_pushes 4 = .ok (.iload_n 2, 1) := by decide +kernel
theorem dX4_pushes_5 : decode cX4_pushes 5 = .ok (.iconst 4, 1) := by decide +kernel
theorem dX4_pushes_6 : decode cX4_pushes 6 = .ok (.if_icmp .ge 21, 3) := by decide +kernel
theorem dX4_pushes_9 : decode cX4_pushes 9 = .ok (.iload_n 1, 1) := by decide +kernel
theorem dX4_pushes_10 : decode cX4_pushes 10 = .ok (.aload_n 0, 1) := by decide +kernel
theorem dX4_pushes_11 : decode cX4_pushes 11 = .ok (.getfield 18, 3) := by decide +kernel
theorem dX4_pushes_14 : decode cX4_pushes 14 = .ok (.iload_n 2, 1) := by decide +kernel
theorem dX4_pushes_15 : decode cX4_pushes 15 = .ok (.aaload, 1) := by decide +kernel
theorem dX4_pushes_16 : decode cX4_pushes 16 = .ok (.invokevirtual 115, 3) := by decide +kernel
theorem dX4_pushes_19 : decode cX4_pushes 19 = .ok (.iadd, 1) := by decide +kernel
theorem dX4_pushes_20 : decode cX4_pushes 20 = .ok (.istore_n 1, 1) := by decide +kernel
theorem dX4_pushes_21 : decode cX4_pushes 21 = .ok (.iinc 2 1, 3) := by decide +kernel
theorem dX4_pushes_24 : decode cX4_pushes 24 = .ok (.goto (-20), 3) := by decide +kernel
theorem dX4_pushes_27 : decode cX4_pushes 27 = .ok (.iload_n 1, 1) := by decide +kernel
theorem dX4_pushes_28 : decode cX4_pushes 28 = .ok (.ireturn, 1) := by decide +kernel
theorem dX4_text_0 : decode cX4_text 0 = .ok (.iload_n 1, 1) := by decide +kernel
theorem dX4_text_1 : decode cX4_text 1 = .ok (.invokestatic 56, 3) := by decide +kernel
theorem dX4_text_4 : decode cX4_text 4 = .ok (.iload_n 2, 1) := by decide +kernel
theorem dX4_text_5 : decode cX4_text 5 = .ok (.invokestatic 59, 3) := by decide +kernel
theorem dX4_text_8 : decode cX4_text 8 = .ok (.iload_n 3, 1) := by decide +kernel
theorem dX4_text_9 : decode cX4_text 9 = .ok (.invokestatic 118, 3) := by decide +kernel
theorem dX4_text_12 : decode cX4_text 12 = .ok (.aload_n 0, 1) := by decide +kernel
theorem dX4_text_13 : decode cX4_text 13 = .ok (.iload_n 1, 1) := by decide +kernel
theorem dX4_text_14 : decode cX4_text 14 = .ok (.iload_n 2, 1) := by decide +kernel
theorem dX4_text_15 : decode cX4_text 15 = .ok (.invokevirtual 147, 3) := by decide +kernel
theorem dX4_text_18 : decode cX4_text 18 = .ok (.iload_n 3, 1) := by decide +kernel
theorem dX4_text_19 : decode cX4_text 19 = .ok (.aload_n 0, 1) := by decide +kernel
theorem dX4_text_20 : decode cX4_text 20 = .ok (.getfield 39, 3) := by decide +kernel
theorem dX4_text_23 : decode cX4_text 23 = .ok (.invokevirtual 150, 3) := by decide +kernel
theorem dX4_text_26 : decode cX4_text 26 = .ok (.if_icmp .ge 14, 3) := by decide +kernel
theorem dX4_text_29 : decode cX4_text 29 = .ok (.aload_n 0, 1) := by decide +kernel
theorem dX4_text_30 : decode cX4_text 30 = .ok (.getfield 39, 3) := by decide +kernel
theorem dX4_text_33 : decode cX4_text 33 = .ok (.iload_n 3, 1) := by decide +kernel
theorem dX4_text_34 : decode cX4_text 34 = .ok (.invokevirtual 153, 3) := by decide +kernel
theorem dX4_text_37 : decode cX4_text 37 = .ok (.goto 4, 3) := by decide +kernel
theorem dX4_text_40 : decode cX4_text 40 = .ok (.iconst 0, 1) := by decide +kernel
theorem dX4_text_41 : decode cX4_text 41 = .ok (.ireturn, 1) := by decide +kernel
theorem dX4_checkReader_0 : decode cX4_checkReader 0 = .ok (.iload_n 0, 1) := by decide +kernel
theorem dX4_checkReader_1 : decode cX4_checkReader 1 = .ok (.ifCond .lt 8, 3) := by decide +kernel
theorem dX4_checkReader_4 : decode cX4_checkReader 4 = .ok (.iload_n 0, 1) := by decide +kernel
theorem dX4_checkReader_5 : decode cX4_checkReader 5 = .ok (.iconst 4, 1) := by decide +kernel
theorem dX4_checkReader_6 : decode cX4_checkReader 6 = .ok (.if_icmp .lt 13, 3) := by decide +kernel
theorem dX4_checkReader_9 : decode cX4_checkReader 9 = .ok (.new 157, 3) := by decide +kernel
theorem dX4_checkReader_12 : decode cX4_checkReader 12 = .ok (.dup, 1) := by decide +kernel
theorem dX4_checkReader_13 : decode cX4_checkReader 13 = .ok (.ldc 159, 2) := by decide +kernel
theorem dX4_checkReader_15 : decode cX4_checkReader 15 = .ok (.invokespecial 161, 3) := by decide +kernel
theorem dX4_checkReader_18 : decode cX4_checkReader 18 = .ok (.athrow, 1) := by decide +kernel
theorem dX4_checkReader_19 : decode cX4_checkReader 19 = .ok (.return_, 1) := by decide +kernel
theorem dX4_checkBook_0 : decode cX4_checkBook 0 = .ok (.iload_n 0, 1) := by decide +kernel
theorem dX4_checkBook_1 : decode cX4_checkBook 1 = .ok (.ifCond .lt 8, 3) := by decide +kernel
theorem dX4_checkBook_4 : decode cX4_checkBook 4 = .ok (.iload_n 0, 1) := by decide +kernel
theorem dX4_checkBook_5 : decode cX4_checkBook 5 = .ok (.iconst 5, 1) := by decide +kernel
theorem dX4_checkBook_6 : decode cX4_checkBook 6 = .ok (.if_icmp .lt 13, 3) := by decide +kernel
theorem dX4_checkBook_9 : decode cX4_checkBook 9 = .ok (.new 157, 3) := by decide +kernel
theorem dX4_checkBook_12 : decode cX4_checkBook 12 = .ok (.dup, 1) := by decide +kernel
theorem dX4_checkBook_13 : decode cX4_checkBook 13 = .ok (.ldc 162, 2) := by decide +kernel
theorem dX4_checkBook_15 : decode cX4_checkBook 15 = .ok (.invokespecial 161, 3) := by decide +kernel
theorem dX4_checkBook_18 : decode cX4_checkBook 18 = .ok (.athrow, 1) := by decide +kernel
theorem dX4_checkBook_19 : decode cX4_checkBook 19 = .ok (.return_, 1) := by decide +kernel
theorem dX4_checkNode_0 : decode cX4_checkNode 0 = .ok (.iload_n 0, 1) := by decide +kernel
theorem dX4_checkNode_1 : decode cX4_checkNode 1 = .ok (.ifCond .lt 9, 3) := by decide +kernel
theorem dX4_checkNode_4 : decode cX4_checkNode 4 = .ok (.iload_n 0, 1) := by decide +kernel
theorem dX4_checkNode_5 : decode cX4_checkNode 5 = .ok (.bipush 9, 2) := by decide +kernel
theorem dX4_checkNode_7 : decode cX4_checkNode 7 = .ok (.if_icmp .lt 13, 3) := by decide +kernel
theorem dX4_checkNode_10 : decode cX4_checkNode 10 = .ok (.new 157, 3) := by decide +kernel
theorem dX4_checkNode_13 : decode cX4_checkNode 13 = .ok (.dup, 1) := by decide +kernel
theorem dX4_checkNode_14 : decode cX4_checkNode 14 = .ok (.ldc 164, 2) := by decide +kernel
theorem dX4_checkNode_16 : decode cX4_checkNode 16 = .ok (.invokespecial 161, 3) := by decide +kernel
theorem dX4_checkNode_19 : decode cX4_checkNode 19 = .ok (.athrow, 1) := by decide +kernel
theorem dX4_checkNode_20 : decode cX4_checkNode 20 = .ok (.return_, 1) := by decide +kernel
theorem dX4_checkPlace_0 : decode cX4_checkPlace 0 = .ok (.iload_n 0, 1) := by decide +kernel
theorem dX4_checkPlace_1 : decode cX4_checkPlace 1 = .ok (.ifCond .ge 13, 3) := by decide +kernel
theorem dX4_checkPlace_4 : decode cX4_checkPlace 4 = .ok (.new 157, 3) := by decide +kernel
theorem dX4_checkPlace_7 : decode cX4_checkPlace 7 = .ok (.dup, 1) := by decide +kernel
theorem dX4_checkPlace_8 : decode cX4_checkPlace 8 = .ok (.ldc 166, 2) := by decide +kernel
theorem dX4_checkPlace_10 : decode cX4_checkPlace 10 = .ok (.invokespecial 161, 3) := by decide +kernel
theorem dX4_checkPlace_13 : decode cX4_checkPlace 13 = .ok (.athrow, 1) := by decide +kernel
theorem dX4_checkPlace_14 : decode cX4_checkPlace 14 = .ok (.return_, 1) := by decide +kernel
theorem dX4_checkRange_0 : decode cX4_checkRange 0 = .ok (.iload_n 0, 1) := by decide +kernel
theorem dX4_checkRange_1 : decode cX4_checkRange 1 = .ok (.iload_n 1, 1) := by decide +kernel
theorem dX4_checkRange_2 : decode cX4_checkRange 2 = .ok (.if_icmp .lt 8, 3) := by decide +kernel
theorem dX4_checkRange_5 : decode cX4_checkRange 5 = .ok (.iload_n 0, 1) := by decide +kernel
theorem dX4_checkRange_6 : decode cX4_checkRange 6 = .ok (.iload_n 2, 1) := by decide +kernel
theorem dX4_checkRange_7 : decode cX4_checkRange 7 = .ok (.if_icmp .le 13, 3) := by decide +kernel
theorem dX4_checkRange_10 : decode cX4_checkRange 10 = .ok (.new 168, 3) := by decide +kernel
theorem dX4_checkRange_13 : decode cX4_checkRange 13 = .ok (.dup, 1) := by decide +kernel
theorem dX4_checkRange_14 : decode cX4_checkRange 14 = .ok (.ldc 170, 2) := by decide +kernel
theorem dX4_checkRange_16 : decode cX4_checkRange 16 = .ok (.invokespecial 172, 3) := by decide +kernel
theorem dX4_checkRange_19 : decode cX4_checkRange 19 = .ok (.athrow, 1) := by decide +kernel
theorem dX4_checkRange_20 : decode cX4_checkRange 20 = .ok (.return_, 1) := by decide +kernel
theorem dX4_beginWalks_0 : decode cX4_beginWalks 0 = .ok (.iconst 0, 1) := by decide +kernel
theorem dX4_beginWalks_1 : decode cX4_beginWalks 1 = .ok (.istore_n 1, 1) := by decide +kernel
theorem dX4_beginWalks_2 : decode cX4_beginWalks 2 = .ok (.iload_n 1, 1) := by decide +kernel
theorem dX4_beginWalks_3 : decode cX4_beginWalks 3 = .ok (.iconst 4, 1) := by decide +kernel
theorem dX4_beginWalks_4 : decode cX4_beginWalks 4 = .ok (.if_icmp .ge 39, 3) := by decide +kernel
theorem dX4_beginWalks_7 : decode cX4_beginWalks 7 = .ok (.aload_n 0, 1) := by decide +kernel
theorem dX4_beginWalks_8 : decode cX4_beginWalks 8 = .ok (.getfield 18, 3) := by decide +kernel
theorem dX4_beginWalks_11 : decode cX4_beginWalks 11 = .ok (.iload_n 1, 1) := by decide +kernel
theorem dX4_beginWalks_12 : decode cX4_beginWalks 12 = .ok (.aaload, 1) := by decide +kernel
theorem dX4_beginWalks_13 : decode cX4_beginWalks 13 = .ok (.invokevirtual 173, 3) := by decide +kernel
theorem dX4_beginWalks_16 : decode cX4_beginWalks 16 = .ok (.aload_n 0, 1) := by decide +kernel
theorem dX4_beginWalks_17 : decode cX4_beginWalks 17 = .ok (.getfield 18, 3) := by decide +kernel
theorem dX4_beginWalks_20 : decode cX4_beginWalks 20 = .ok (.iload_n 1, 1) := by decide +kernel
theorem dX4_beginWalks_21 : decode cX4_beginWalks 21 = .ok (.aaload, 1) := by decide +kernel
theorem dX4_beginWalks_22 : decode cX4_beginWalks 22 = .ok (.aload_n 0, 1) := by decide +kernel
theorem dX4_beginWalks_23 : decode cX4_beginWalks 23 = .ok (.getfield 12, 3) := by decide +kernel
theorem dX4_beginWalks_26 : decode cX4_beginWalks 26 = .ok (.aload_n 0, 1) := by decide +kernel
theorem dX4_beginWalks_27 : decode cX4_beginWalks 27 = .ok (.getfield 43, 3) := by decide +kernel
theorem dX4_beginWalks_30 : decode cX4_beginWalks 30 = .ok (.aload_n 0, 1) := by decide +kernel
theorem dX4_beginWalks_31 : decode cX4_beginWalks 31 = .ok (.getfield 47, 3) := by decide +kernel
theorem dX4_beginWalks_34 : decode cX4_beginWalks 34 = .ok (.invokevirtual 176, 3) := by decide +kernel
theorem dX4_beginWalks_37 : decode cX4_beginWalks 37 = .ok (.iinc 1 1, 3) := by decide +kernel
theorem dX4_beginWalks_40 : decode cX4_beginWalks 40 = .ok (.goto (-38), 3) := by decide +kernel
theorem dX4_beginWalks_43 : decode cX4_beginWalks 43 = .ok (.return_, 1) := by decide +kernel
theorem dX4_mendWalks_0 : decode cX4_mendWalks 0 = .ok (.iconst 0, 1) := by decide +kernel
theorem dX4_mendWalks_1 : decode cX4_mendWalks 1 = .ok (.istore_n 1, 1) := by decide +kernel
theorem dX4_mendWalks_2 : decode cX4_mendWalks 2 = .ok (.iload_n 1, 1) := by decide +kernel
theorem dX4_mendWalks_3 : decode cX4_mendWalks 3 = .ok (.iconst 4, 1) := by decide +kernel
theorem dX4_mendWalks_4 : decode cX4_mendWalks 4 = .ok (.if_icmp .ge 43, 3) := by decide +kernel
theorem dX4_mendWalks_7 : decode cX4_mendWalks 7 = .ok (.aload_n 0, 1) := by decide +kernel
theorem dX4_mendWalks_8 : decode cX4_mendWalks 8 = .ok (.getfield 18, 3) := by decide +kernel
theorem dX4_mendWalks_11 : decode cX4_mendWalks 11 = .ok (.iload_n 1, 1) := by decide +kernel
theorem dX4_mendWalks_12 : decode cX4_mendWalks 12 = .ok (.aaload, 1) := by decide +kernel
theorem dX4_mendWalks_13 : decode cX4_mendWalks 13 = .ok (.aload_n 0, 1) := by decide +kernel
theorem dX4_mendWalks_14 : decode cX4_mendWalks 14 = .ok (.getfield 12, 3) := by decide +kernel
theorem dX4_mendWalks_17 : decode cX4_mendWalks 17 = .ok (.invokevirtual 179, 3) := by decide +kernel
theorem dX4_mendWalks_20 : decode cX4_mendWalks 20 = .ok (.aload_n 0, 1) := by decide +kernel
theorem dX4_mendWalks_21 : decode cX4_mendWalks 21 = .ok (.getfield 18, 3) := by decide +kernel
theorem dX4_mendWalks_24 : decode cX4_mendWalks 24 = .ok (.iload_n 1, 1) := by decide +kernel
theorem dX4_mendWalks_25 : decode cX4_mendWalks 25 = .ok (.aaload, 1) := by decide +kernel
theorem dX4_mendWalks_26 : decode cX4_mendWalks 26 = .ok (.aload_n 0, 1) := by decide +kernel
theorem dX4_mendWalks_27 : decode cX4_mendWalks 27 = .ok (.getfield 12, 3) := by decide +kernel
theorem dX4_mendWalks_30 : decode cX4_mendWalks 30 = .ok (.aload_n 0, 1) := by decide +kernel
theorem dX4_mendWalks_31 : decode cX4_mendWalks 31 = .ok (.getfield 43, 3) := by decide +kernel
theorem dX4_mendWalks_34 : decode cX4_mendWalks 34 = .ok (.aload_n 0, 1) := by decide +kernel
theorem dX4_mendWalks_35 : decode cX4_mendWalks 35 = .ok (.getfield 47, 3) := by decide +kernel
theorem dX4_mendWalks_38 : decode cX4_mendWalks 38 = .ok (.invokevirtual 176, 3) := by decide +kernel
theorem dX4_mendWalks_41 : decode cX4_mendWalks 41 = .ok (.iinc 1 1, 3) := by decide +kernel
theorem dX4_mendWalks_44 : decode cX4_mendWalks 44 = .ok (.goto (-42), 3) := by decide +kernel
theorem dX4_mendWalks_47 : decode cX4_mendWalks 47 = .ok (.return_, 1) := by decide +kernel
theorem dX4_writeLine_0 : decode cX4_writeLine 0 = .ok (.aload_n 0, 1) := by decide +kernel
theorem dX4_writeLine_1 : decode cX4_writeLine 1 = .ok (.getfield 39, 3) := by decide +kernel
theorem dX4_writeLine_4 : decode cX4_writeLine 4 = .ok (.iconst 0, 1) := by decide +kernel
theorem dX4_writeLine_5 : decode cX4_writeLine 5 = .ok (.invokevirtual 210, 3) := by decide +kernel
theorem dX4_writeLine_8 : decode cX4_writeLine 8 = .ok (.aload_n 0, 1) := by decide +kernel
theorem dX4_writeLine_9 : decode cX4_writeLine 9 = .ok (.getfield 12, 3) := by decide +kernel
theorem dX4_writeLine_12 : decode cX4_writeLine 12 = .ok (.iload_n 1, 1) := by decide +kernel
theorem dX4_writeLine_13 : decode cX4_writeLine 13 = .ok (.iload_n 2, 1) := by decide +kernel
theorem dX4_writeLine_14 : decode cX4_writeLine 14 = .ok (.invokevirtual 66, 3) := by decide +kernel
theorem dX4_writeLine_17 : decode cX4_writeLine 17 = .ok (.istore_n 3, 1) := by decide +kernel
theorem dX4_writeLine_18 : decode cX4_writeLine 18 = .ok (.iload_n 3, 1) := by decide +kernel
theorem dX4_writeLine_19 : decode cX4_writeLine 19 = .ok (.ifCond .ne 14, 3) := by decide +kernel
theorem dX4_writeLine_22 : decode cX4_writeLine 22 = .ok (.aload_n 0, 1) := by decide +kernel
theorem dX4_writeLine_23 : decode cX4_writeLine 23 = .ok (.getfield 39, 3) := by decide +kernel
theorem dX4_writeLine_26 : decode cX4_writeLine 26 = .ok (.ldc 213, 2) := by decide +kernel
theorem dX4_writeLine_28 : decode cX4_writeLine 28 = .ok (.invokevirtual 215, 3) := by decide +kernel
theorem dX4_writeLine_31 : decode cX4_writeLine 31 = .ok (.pop, 1) := by decide +kernel
theorem dX4_writeLine_32 : decode cX4_writeLine 32 = .ok (.return_, 1) := by decide +kernel
theorem dX4_writeLine_33 : decode cX4_writeLine 33 = .ok (.aload_n 0, 1) := by decide +kernel
theorem dX4_writeLine_34 : decode cX4_writeLine 34 = .ok (.getfield 39, 3) := by decide +kernel
theorem dX4_writeLine_37 : decode cX4_writeLine 37 = .ok (.bipush 114, 2) := by decide +kernel
theorem dX4_writeLine_39 : decode cX4_writeLine 39 = .ok (.invokevirtual 219, 3) := by decide +kernel
theorem dX4_writeLine_42 : decode cX4_writeLine 42 = .ok (.iload_n 1, 1) := by decide +kernel
theorem dX4_writeLine_43 : decode cX4_writeLine 43 = .ok (.invokevirtual 222, 3) := by decide +kernel
theorem dX4_writeLine_46 : decode cX4_writeLine 46 = .ok (.ldc 225, 2) := by decide +kernel
theorem dX4_writeLine_48 : decode cX4_writeLine 48 = .ok (.invokevirtual 215, 3) := by decide +kernel
theorem dX4_writeLine_51 : decode cX4_writeLine 51 = .ok (.iload_n 2, 1) := by decide +kernel
theorem dX4_writeLine_52 : decode cX4_writeLine 52 = .ok (.invokevirtual 222, 3) := by decide +kernel
theorem dX4_writeLine_55 : decode cX4_writeLine 55 = .ok (.pop, 1) := by decide +kernel
theorem dX4_writeLine_56 : decode cX4_writeLine 56 = .ok (.aload_n 0, 1) := by decide +kernel
theorem dX4_writeLine_57 : decode cX4_writeLine 57 = .ok (.getfield 39, 3) := by decide +kernel
theorem dX4_writeLine_60 : decode cX4_writeLine 60 = .ok (.bipush 58, 2) := by decide +kernel
theorem dX4_writeLine_62 : decode cX4_writeLine 62 = .ok (.invokevirtual 219, 3) := by decide +kernel
theorem dX4_writeLine_65 : decode cX4_writeLine 65 = .ok (.iload_n 3, 1) := by decide +kernel
theorem dX4_writeLine_66 : decode cX4_writeLine 66 = .ok (.invokevirtual 222, 3) := by decide +kernel
theorem dX4_writeLine_69 : decode cX4_writeLine 69 = .ok (.aload_n 0, 1) := by decide +kernel
theorem dX4_writeLine_70 : decode cX4_writeLine 70 = .ok (.getfield 12, 3) := by decide +kernel
theorem dX4_writeLine_73 : decode cX4_writeLine 73 = .ok (.iload_n 2, 1) := by decide +kernel
theorem dX4_writeLine_74 : decode cX4_writeLine 74 = .ok (.invokevirtual 92, 3) := by decide +kernel
theorem dX4_writeLine_77 : decode cX4_writeLine 77 = .ok (.invokestatic 227, 3) := by decide +kernel
theorem dX4_writeLine_80 : decode cX4_writeLine 80 = .ok (.invokevirtual 215, 3) := by decide +kernel
theorem dX4_writeLine_83 : decode cX4_writeLine 83 = .ok (.pop, 1) := by decide +kernel
theorem dX4_writeLine_84 : decode cX4_writeLine 84 = .ok (.return_, 1) := by decide +kernel
theorem dX4_barText_0 : decode cX4_barText 0 = .ok (.iload_n 0, 1) := by decide +kernel
theorem dX4_barText_1 : decode cX4_barText 1 = .ok (.ifCond .ne 6, 3) := by decide +kernel
theorem dX4_barText_4 : decode cX4_barText 4 = .ok (.ldc 231, 2) := by decide +kernel
theorem dX4_barText_6 : decode cX4_barText 6 = .ok (.areturn, 1) := by decide +kernel
theorem dX4_barText_7 : decode cX4_barText 7 = .ok (.iload_n 0, 1) := by decide +kernel
theorem dX4_barText_8 : decode cX4_barText 8 = .ok (.iconst 1, 1) := by decide +kernel
theorem dX4_barText_9 : decode cX4_barText 9 = .ok (.if_icmp .ne 8, 3) := by decide +kernel
theorem dX4_barText_12 : decode cX4_barText 12 = .ok (.ldc 233, 2) := by decide +kernel
theorem dX4_barText_14 : decode cX4_barText 14 = .ok (.goto 5, 3) := by decide +kernel
theorem dX4_barText_17 : decode cX4_barText 17 = .ok (.ldc 235, 2) := by decide +kernel
theorem dX4_barText_19 : decode cX4_barText 19 = .ok (.areturn, 1) := by decide +kernel
theorem dJ5_init_d00df_0 : decode cJ5_init_d00df 0 = .ok (.aload_n 0, 1) := by decide +kernel
theorem dJ5_init_d00df_1 : decode cJ5_init_d00df 1 = .ok (.invokespecial 3, 3) := by decide +kernel
theorem dJ5_init_d00df_4 : decode cJ5_init_d00df 4 = .ok (.getstatic 18, 3) := by decide +kernel
theorem dJ5_init_d00df_7 : decode cJ5_init_d00df 7 = .ok (.ifCond .eq 18, 3) := by decide +kernel
theorem dJ5_init_d00df_10 : decode cJ5_init_d00df 10 = .ok (.aload_n 0, 1) := by decide +kernel
theorem dJ5_init_d00df_11 : decode cJ5_init_d00df 11 = .ok (.iload_n 1, 1) := by decide +kernel
theorem dJ5_init_d00df_12 : decode cJ5_init_d00df 12 = .ok (.newarray .byte, 2) := by decide +kernel
theorem dJ5_init_d00df_14 : decode cJ5_init_d00df 14 = .ok (.putfield 15, 3) := by decide +kernel
theorem dJ5_init_d00df_17 : decode cJ5_init_d00df 17 = .ok (.aload_n 0, 1) := by decide +kernel
theorem dJ5_init_d00df_18 : decode cJ5_init_d00df 18 = .ok (.iconst 0, 1) := by decide +kernel
theorem dJ5_init_d00df_19 : decode cJ5_init_d00df 19 = .ok (.putfield 22, 3) := by decide +kernel
theorem dJ5_init_d00df_22 : decode cJ5_init_d00df 22 = .ok (.goto 16, 3) := by decide +kernel
theorem dJ5_init_d00df_25 : decode cJ5_init_d00df 25 = .ok (.aload_n 0, 1) := by decide +kernel
theorem dJ5_init_d00df_26 : decode cJ5_init_d00df 26 = .ok (.iload_n 1, 1) := by decide +kernel
theorem dJ5_init_d00df_27 : decode cJ5_init_d00df 27 = .ok (.invokestatic 26, 3) := by decide +kernel
theorem dJ5_init_d00df_30 : decode cJ5_init_d00df 30 = .ok (.putfield 15, 3) := by decide +kernel
theorem dJ5_init_d00df_33 : decode cJ5_init_d00df 33 = .ok (.aload_n 0, 1) := by decide +kernel
theorem dJ5_init_d00df_34 : decode cJ5_init_d00df 34 = .ok (.iconst 1, 1) := by decide +kernel
theorem dJ5_init_d00df_35 : decode cJ5_init_d00df 35 = .ok (.putfield 22, 3) := by decide +kernel
theorem dJ5_init_d00df_38 : decode cJ5_init_d00df 38 = .ok (.return_, 1) := by decide +kernel
theorem dJ5_length_8abf5_0 : decode cJ5_length_8abf5 0 = .ok (.aload_n 0, 1) := by decide +kernel
theorem dJ5_length_8abf5_1 : decode cJ5_length_8abf5 1 = .ok (.getfield 79, 3) := by decide +kernel
theorem dJ5_length_8abf5_4 : decode cJ5_length_8abf5 4 = .ok (.ireturn, 1) := by decide +kernel
theorem dJ5_ensureCapacityInternal_d00df_0 : decode cJ5_ensureCapacityInternal_d00df 0 = .ok (.aload_n 0, 1) := by decide +kernel
theorem dJ5_ensureCapacityInternal_d00df_1 : decode cJ5_ensureCapacityInternal_d00df 1 = .ok (.getfield 15, 3) := by decide +kernel
theorem dJ5_ensureCapacityInternal_d00df_4 : decode cJ5_ensureCapacityInternal_d00df 4 = .ok (.arraylength, 1) := by decide +kernel
theorem dJ5_ensureCapacityInternal_d00df_5 : decode cJ5_ensureCapacityInternal_d00df 5 = .ok (.aload_n 0, 1) := by decide +kernel
theorem dJ5_ensureCapacityInternal_d00df_6 : decode cJ5_ensureCapacityInternal_d00df 6 = .ok (.getfield 22, 3) := by decide +kernel
theorem dJ5_ensureCapacityInternal_d00df_9 : decode cJ5_ensureCapacityInternal_d00df 9 = .ok (.ishr, 1) := by decide +kernel
theorem dJ5_ensureCapacityInternal_d00df_10 : decode cJ5_ensureCapacityInternal_d00df 10 = .ok (.istore_n 2, 1) := by decide +kernel
theorem dJ5_ensureCapacityInternal_d00df_11 : decode cJ5_ensureCapacityInternal_d00df 11 = .ok (.iload_n 1, 1) := by decide +kernel
theorem dJ5_ensureCapacityInternal_d00df_12 : decode cJ5_ensureCapacityInternal_d00df 12 = .ok (.iload_n 2, 1) := by decide +kernel
theorem dJ5_ensureCapacityInternal_d00df_13 : decode cJ5_ensureCapacityInternal_d00df 13 = .ok (.isub, 1) := by decide +kernel
theorem dJ5_ensureCapacityInternal_d00df_14 : decode cJ5_ensureCapacityInternal_d00df 14 = .ok (.ifCond .le 24, 3) := by decide +kernel
theorem dJ5_ensureCapacityInternal_d00df_17 : decode cJ5_ensureCapacityInternal_d00df 17 = .ok (.aload_n 0, 1) := by decide +kernel
theorem dJ5_ensureCapacityInternal_d00df_18 : decode cJ5_ensureCapacityInternal_d00df 18 = .ok (.aload_n 0, 1) := by decide +kernel
theorem dJ5_ensureCapacityInternal_d00df_19 : decode cJ5_ensureCapacityInternal_d00df 19 = .ok (.getfield 15, 3) := by decide +kernel
theorem dJ5_ensureCapacityInternal_d00df_22 : decode cJ5_ensureCapacityInternal_d00df 22 = .ok (.aload_n 0, 1) := by decide +kernel
theorem dJ5_ensureCapacityInternal_d00df_23 : decode cJ5_ensureCapacityInternal_d00df 23 = .ok (.iload_n 1, 1) := by decide +kernel
theorem dJ5_ensureCapacityInternal_d00df_24 : decode cJ5_ensureCapacityInternal_d00df 24 = .ok (.invokevirtual 104, 3) := by decide +kernel
theorem dJ5_ensureCapacityInternal_d00df_27 : decode cJ5_ensureCapacityInternal_d00df 27 = .ok (.aload_n 0, 1) := by decide +kernel
theorem dJ5_ensureCapacityInternal_d00df_28 : decode cJ5_ensureCapacityInternal_d00df 28 = .ok (.getfield 22, 3) := by decide +kernel
theorem dJ5_ensureCapacityInternal_d00df_31 : decode cJ5_ensureCapacityInternal_d00df 31 = .ok (.ishl, 1) := by decide +kernel
theorem dJ5_ensureCapacityInternal_d00df_32 : decode cJ5_ensureCapacityInternal_d00df 32 = .ok (.invokestatic 108, 3) := by decide +kernel
theorem dJ5_ensureCapacityInternal_d00df_35 : decode cJ5_ensureCapacityInternal_d00df 35 = .ok (.putfield 15, 3) := by decide +kernel
theorem dJ5_ensureCapacityInternal_d00df_38 : decode cJ5_ensureCapacityInternal_d00df 38 = .ok (.return_, 1) := by decide +kernel
theorem dJ5_newCapacity_0f7a4_0 : decode cJ5_newCapacity_0f7a4 0 = .ok (.aload_n 0, 1) := by decide +kernel
theorem dJ5_newCapacity_0f7a4_1 : decode cJ5_newCapacity_0f7a4 1 = .ok (.getfield 15, 3) := by decide +kernel
theorem dJ5_newCapacity_0f7a4_4 : decode cJ5_newCapacity_0f7a4 4 = .ok (.arraylength, 1) := by decide +kernel
theorem dJ5_newCapacity_0f7a4_5 : decode cJ5_newCapacity_0f7a4 5 = .ok (.istore_n 2, 1) := by decide +kernel
theorem dJ5_newCapacity_0f7a4_6 : decode cJ5_newCapacity_0f7a4 6 = .ok (.iload_n 1, 1) := by decide +kernel
theorem dJ5_newCapacity_0f7a4_7 : decode cJ5_newCapacity_0f7a4 7 = .ok (.aload_n 0, 1) := by decide +kernel
theorem dJ5_newCapacity_0f7a4_8 : decode cJ5_newCapacity_0f7a4 8 = .ok (.getfield 22, 3) := by decide +kernel
theorem dJ5_newCapacity_0f7a4_11 : decode cJ5_newCapacity_0f7a4 11 = .ok (.ishl, 1) := by decide +kernel
theorem dJ5_newCapacity_0f7a4_12 : decode cJ5_newCapacity_0f7a4 12 = .ok (.istore_n 3, 1) := by decide +kernel
theorem dJ5_newCapacity_0f7a4_13 : decode cJ5_newCapacity_0f7a4 13 = .ok (.iload_n 3, 1) := by decide +kernel
theorem dJ5_newCapacity_0f7a4_14 : decode cJ5_newCapacity_0f7a4 14 = .ok (.iload_n 2, 1) := by decide +kernel
theorem dJ5_newCapacity_0f7a4_15 : decode cJ5_newCapacity_0f7a4 15 = .ok (.isub, 1) := by decide +kernel
theorem dJ5_newCapacity_0f7a4_16 : decode cJ5_newCapacity_0f7a4 16 = .ok (.istore 4, 2) := by decide +kernel
theorem dJ5_newCapacity_0f7a4_18 : decode cJ5_newCapacity_0f7a4 18 = .ok (.iload_n 2, 1) := by decide +kernel
theorem dJ5_newCapacity_0f7a4_19 : decode cJ5_newCapacity_0f7a4 19 = .ok (.iload 4, 2) := by decide +kernel
theorem dJ5_newCapacity_0f7a4_21 : decode cJ5_newCapacity_0f7a4 21 = .ok (.iload_n 2, 1) := by decide +kernel
theorem dJ5_newCapacity_0f7a4_22 : decode cJ5_newCapacity_0f7a4 22 = .ok (.iconst 2, 1) := by decide +kernel
theorem dJ5_newCapacity_0f7a4_23 : decode cJ5_newCapacity_0f7a4 23 = .ok (.aload_n 0, 1) := by decide +kernel
theorem dJ5_newCapacity_0f7a4_24 : decode cJ5_newCapacity_0f7a4 24 = .ok (.getfield 22, 3) := by decide +kernel
theorem dJ5_newCapacity_0f7a4_27 : decode cJ5_newCapacity_0f7a4 27 = .ok (.ishl, 1) := by decide +kernel
theorem dJ5_newCapacity_0f7a4_28 : decode cJ5_newCapacity_0f7a4 28 = .ok (.iadd, 1) := by decide +kernel
theorem dJ5_newCapacity_0f7a4_29 : decode cJ5_newCapacity_0f7a4 29 = .ok (.invokestatic 114, 3) := by decide +kernel
theorem dJ5_newCapacity_0f7a4_32 : decode cJ5_newCapacity_0f7a4 32 = .ok (.istore 5, 2) := by decide +kernel
theorem dJ5_newCapacity_0f7a4_34 : decode cJ5_newCapacity_0f7a4 34 = .ok (.iload 5, 2) := by decide +kernel
theorem dJ5_newCapacity_0f7a4_36 : decode cJ5_newCapacity_0f7a4 36 = .ok (.ldc 39, 2) := by decide +kernel
theorem dJ5_newCapacity_0f7a4_38 : decode cJ5_newCapacity_0f7a4 38 = .ok (.if_icmp .ne 13, 3) := by decide +kernel
theorem dJ5_newCapacity_0f7a4_41 : decode cJ5_newCapacity_0f7a4 41 = .ok (.new 120, 3) := by decide +kernel
theorem dJ5_newCapacity_0f7a4_44 : decode cJ5_newCapacity_0f7a4 44 = .ok (.dup, 1) := by decide +kernel
theorem dJ5_newCapacity_0f7a4_45 : decode cJ5_newCapacity_0f7a4 45 = .ok (.ldc 122, 2) := by decide +kernel
theorem dJ5_newCapacity_0f7a4_47 : decode cJ5_newCapacity_0f7a4 47 = .ok (.invokespecial 124, 3) := by decide +kernel
theorem dJ5_newCapacity_0f7a4_50 : decode cJ5_newCapacity_0f7a4 50 = .ok (.athrow, 1) := by decide +kernel
theorem dJ5_newCapacity_0f7a4_51 : decode cJ5_newCapacity_0f7a4 51 = .ok (.iload 5, 2) := by decide +kernel
theorem dJ5_newCapacity_0f7a4_53 : decode cJ5_newCapacity_0f7a4 53 = .ok (.aload_n 0, 1) := by decide +kernel
theorem dJ5_newCapacity_0f7a4_54 : decode cJ5_newCapacity_0f7a4 54 = .ok (.getfield 22, 3) := by decide +kernel
theorem dJ5_newCapacity_0f7a4_57 : decode cJ5_newCapacity_0f7a4 57 = .ok (.ishr, 1) := by decide +kernel
theorem dJ5_newCapacity_0f7a4_58 : decode cJ5_newCapacity_0f7a4 58 = .ok (.ireturn, 1) := by decide +kernel
theorem dJ5_inflate_da8c8_0 : decode cJ5_inflate_da8c8 0 = .ok (.aload_n 0, 1) := by decide +kernel
theorem dJ5_inflate_da8c8_1 : decode cJ5_inflate_da8c8 1 = .ok (.invokevirtual 83, 3) := by decide +kernel
theorem dJ5_inflate_da8c8_4 : decode cJ5_inflate_da8c8 4 = .ok (.ifCond .ne 4, 3) := by decide +kernel
theorem dJ5_inflate_da8c8_7 : decode cJ5_inflate_da8c8 7 = .ok (.return_, 1) := by decide +kernel
theorem dJ5_inflate_da8c8_8 : decode cJ5_inflate_da8c8 8 = .ok (.aload_n 0, 1) := by decide +kernel
theorem dJ5_inflate_da8c8_9 : decode cJ5_inflate_da8c8 9 = .ok (.getfield 15, 3) := by decide +kernel
theorem dJ5_inflate_da8c8_12 : decode cJ5_inflate_da8c8 12 = .ok (.arraylength, 1) := by decide +kernel
theorem dJ5_inflate_da8c8_13 : decode cJ5_inflate_da8c8 13 = .ok (.invokestatic 26, 3) := by decide +kernel
theorem dJ5_inflate_da8c8_16 : decode cJ5_inflate_da8c8 16 = .ok (.astore_n 1, 1) := by decide +kernel
theorem dJ5_inflate_da8c8_17 : decode cJ5_inflate_da8c8 17 = .ok (.aload_n 0, 1) := by decide +kernel
theorem dJ5_inflate_da8c8_18 : decode cJ5_inflate_da8c8 18 = .ok (.getfield 15, 3) := by decide +kernel
theorem dJ5_inflate_da8c8_21 : decode cJ5_inflate_da8c8 21 = .ok (.iconst 0, 1) := by decide +kernel
theorem dJ5_inflate_da8c8_22 : decode cJ5_inflate_da8c8 22 = .ok (.aload_n 1, 1) := by decide +kernel
theorem dJ5_inflate_da8c8_23 : decode cJ5_inflate_da8c8 23 = .ok (.iconst 0, 1) := by decide +kernel
theorem dJ5_inflate_da8c8_24 : decode cJ5_inflate_da8c8 24 = .ok (.aload_n 0, 1) := by decide +kernel
theorem dJ5_inflate_da8c8_25 : decode cJ5_inflate_da8c8 25 = .ok (.getfield 79, 3) := by decide +kernel
theorem dJ5_inflate_da8c8_28 : decode cJ5_inflate_da8c8 28 = .ok (.invokestatic 125, 3) := by decide +kernel
theorem dJ5_inflate_da8c8_31 : decode cJ5_inflate_da8c8 31 = .ok (.aload_n 0, 1) := by decide +kernel
theorem dJ5_inflate_da8c8_32 : decode cJ5_inflate_da8c8 32 = .ok (.aload_n 1, 1) := by decide +kernel
theorem dJ5_inflate_da8c8_33 : decode cJ5_inflate_da8c8 33 = .ok (.putfield 15, 3) := by decide +kernel
theorem dJ5_inflate_da8c8_36 : decode cJ5_inflate_da8c8 36 = .ok (.aload_n 0, 1) := by decide +kernel
theorem dJ5_inflate_da8c8_37 : decode cJ5_inflate_da8c8 37 = .ok (.iconst 1, 1) := by decide +kernel
theorem dJ5_inflate_da8c8_38 : decode cJ5_inflate_da8c8 38 = .ok (.putfield 22, 3) := by decide +kernel
theorem dJ5_inflate_da8c8_41 : decode cJ5_inflate_da8c8 41 = .ok (.return_, 1) := by decide +kernel
theorem dJ5_setLength_d00df_0 : decode cJ5_setLength_d00df 0 = .ok (.iload_n 1, 1) := by decide +kernel
theorem dJ5_setLength_d00df_1 : decode cJ5_setLength_d00df 1 = .ok (.ifCond .ge 12, 3) := by decide +kernel
theorem dJ5_setLength_d00df_4 : decode cJ5_setLength_d00df 4 = .ok (.new 129, 3) := by decide +kernel
theorem dJ5_setLength_d00df_7 : decode cJ5_setLength_d00df 7 = .ok (.dup, 1) := by decide +kernel
theorem dJ5_setLength_d00df_8 : decode cJ5_setLength_d00df 8 = .ok (.iload_n 1, 1) := by decide +kernel
theorem dJ5_setLength_d00df_9 : decode cJ5_setLength_d00df 9 = .ok (.invokespecial 131, 3) := by decide +kernel
theorem dJ5_setLength_d00df_12 : decode cJ5_setLength_d00df 12 = .ok (.athrow, 1) := by decide +kernel
theorem dJ5_setLength_d00df_13 : decode cJ5_setLength_d00df 13 = .ok (.aload_n 0, 1) := by decide +kernel
theorem dJ5_setLength_d00df_14 : decode cJ5_setLength_d00df 14 = .ok (.iload_n 1, 1) := by decide +kernel
theorem dJ5_setLength_d00df_15 : decode cJ5_setLength_d00df 15 = .ok (.invokevirtual 100, 3) := by decide +kernel
theorem dJ5_setLength_d00df_18 : decode cJ5_setLength_d00df 18 = .ok (.aload_n 0, 1) := by decide +kernel
theorem dJ5_setLength_d00df_19 : decode cJ5_setLength_d00df 19 = .ok (.getfield 79, 3) := by decide +kernel
theorem dJ5_setLength_d00df_22 : decode cJ5_setLength_d00df 22 = .ok (.iload_n 1, 1) := by decide +kernel
theorem dJ5_setLength_d00df_23 : decode cJ5_setLength_d00df 23 = .ok (.if_icmp .ge 40, 3) := by decide +kernel
theorem dJ5_setLength_d00df_26 : decode cJ5_setLength_d00df 26 = .ok (.aload_n 0, 1) := by decide +kernel
theorem dJ5_setLength_d00df_27 : decode cJ5_setLength_d00df 27 = .ok (.invokevirtual 83, 3) := by decide +kernel
theorem dJ5_setLength_d00df_30 : decode cJ5_setLength_d00df 30 = .ok (.ifCond .eq 18, 3) := by decide +kernel
theorem dJ5_setLength_d00df_33 : decode cJ5_setLength_d00df 33 = .ok (.aload_n 0, 1) := by decide +kernel
theorem dJ5_setLength_d00df_34 : decode cJ5_setLength_d00df 34 = .ok (.getfield 15, 3) := by decide +kernel
theorem dJ5_setLength_d00df_37 : decode cJ5_setLength_d00df 37 = .ok (.aload_n 0, 1) := by decide +kernel
theorem dJ5_setLength_d00df_38 : decode cJ5_setLength_d00df 38 = .ok (.getfield 79, 3) := by decide +kernel
theorem dJ5_setLength_d00df_41 : decode cJ5_setLength_d00df 41 = .ok (.iload_n 1, 1) := by decide +kernel
theorem dJ5_setLength_d00df_42 : decode cJ5_setLength_d00df 42 = .ok (.invokestatic 133, 3) := by decide +kernel
theorem dJ5_setLength_d00df_45 : decode cJ5_setLength_d00df 45 = .ok (.goto 31, 3) := by decide +kernel
theorem dJ5_setLength_d00df_48 : decode cJ5_setLength_d00df 48 = .ok (.aload_n 0, 1) := by decide +kernel
theorem dJ5_setLength_d00df_49 : decode cJ5_setLength_d00df 49 = .ok (.getfield 15, 3) := by decide +kernel
theorem dJ5_setLength_d00df_52 : decode cJ5_setLength_d00df 52 = .ok (.aload_n 0, 1) := by decide +kernel
theorem dJ5_setLength_d00df_53 : decode cJ5_setLength_d00df 53 = .ok (.getfield 79, 3) := by decide +kernel
theorem dJ5_setLength_d00df_56 : decode cJ5_setLength_d00df 56 = .ok (.iload_n 1, 1) := by decide +kernel
theorem dJ5_setLength_d00df_57 : decode cJ5_setLength_d00df 57 = .ok (.invokestatic 137, 3) := by decide +kernel
theorem dJ5_setLength_d00df_60 : decode cJ5_setLength_d00df 60 = .ok (.goto 16, 3) := by decide +kernel
theorem dJ5_setLength_d00df_63 : decode cJ5_setLength_d00df 63 = .ok (.aload_n 0, 1) := by decide +kernel
theorem dJ5_setLength_d00df_64 : decode cJ5_setLength_d00df 64 = .ok (.getfield 79, 3) := by decide +kernel
theorem dJ5_setLength_d00df_67 : decode cJ5_setLength_d00df 67 = .ok (.iload_n 1, 1) := by decide +kernel
theorem dJ5_setLength_d00df_68 : decode cJ5_setLength_d00df 68 = .ok (.if_icmp .le 8, 3) := by decide +kernel
theorem dJ5_setLength_d00df_71 : decode cJ5_setLength_d00df 71 = .ok (.aload_n 0, 1) := by decide +kernel
theorem dJ5_setLength_d00df_72 : decode cJ5_setLength_d00df 72 = .ok (.iconst 1, 1) := by decide +kernel
theorem dJ5_setLength_d00df_73 : decode cJ5_setLength_d00df 73 = .ok (.putfield 73, 3) := by decide +kernel
theorem dJ5_setLength_d00df_76 : decode cJ5_setLength_d00df 76 = .ok (.aload_n 0, 1) := by decide +kernel
theorem dJ5_setLength_d00df_77 : decode cJ5_setLength_d00df 77 = .ok (.iload_n 1, 1) := by decide +kernel
theorem dJ5_setLength_d00df_78 : decode cJ5_setLength_d00df 78 = .ok (.putfield 79, 3) := by decide +kernel
theorem dJ5_setLength_d00df_81 : decode cJ5_setLength_d00df 81 = .ok (.return_, 1) := by decide +kernel
theorem dJ5_charAt_5068e_0 : decode cJ5_charAt_5068e 0 = .ok (.aload_n 0, 1) := by decide +kernel
theorem dJ5_charAt_5068e_1 : decode cJ5_charAt_5068e 1 = .ok (.getfield 22, 3) := by decide +kernel
theorem dJ5_charAt_5068e_4 : decode cJ5_charAt_5068e 4 = .ok (.istore_n 2, 1) := by decide +kernel
theorem dJ5_charAt_5068e_5 : decode cJ5_charAt_5068e 5 = .ok (.aload_n 0, 1) := by decide +kernel
theorem dJ5_charAt_5068e_6 : decode cJ5_charAt_5068e 6 = .ok (.getfield 15, 3) := by decide +kernel
theorem dJ5_charAt_5068e_9 : decode cJ5_charAt_5068e 9 = .ok (.astore_n 3, 1) := by decide +kernel
theorem dJ5_charAt_5068e_10 : decode cJ5_charAt_5068e 10 = .ok (.aload_n 0, 1) := by decide +kernel
theorem dJ5_charAt_5068e_11 : decode cJ5_charAt_5068e 11 = .ok (.getfield 79, 3) := by decide +kernel
theorem dJ5_charAt_5068e_14 : decode cJ5_charAt_5068e 14 = .ok (.aload_n 3, 1) := by decide +kernel
theorem dJ5_charAt_5068e_15 : decode cJ5_charAt_5068e 15 = .ok (.arraylength, 1) := by decide +kernel
theorem dJ5_charAt_5068e_16 : decode cJ5_charAt_5068e 16 = .ok (.iload_n 2, 1) := by decide +kernel
theorem dJ5_charAt_5068e_17 : decode cJ5_charAt_5068e 17 = .ok (.ishr, 1) := by decide +kernel
theorem dJ5_charAt_5068e_18 : decode cJ5_charAt_5068e 18 = .ok (.invokestatic 138, 3) := by decide +kernel
theorem dJ5_charAt_5068e_21 : decode cJ5_charAt_5068e 21 = .ok (.istore 4, 2) := by decide +kernel
theorem dJ5_charAt_5068e_23 : decode cJ5_charAt_5068e 23 = .ok (.iload_n 1, 1) := by decide +kernel
theorem dJ5_charAt_5068e_24 : decode cJ5_charAt_5068e 24 = .ok (.iload 4, 2) := by decide +kernel
theorem dJ5_charAt_5068e_26 : decode cJ5_charAt_5068e 26 = .ok (.invokestatic 144, 3) := by decide +kernel
theorem dJ5_charAt_5068e_29 : decode cJ5_charAt_5068e 29 = .ok (.iload_n 2, 1) := by decide +kernel
theorem dJ5_charAt_5068e_30 : decode cJ5_charAt_5068e 30 = .ok (.ifCond .ne 12, 3) := by decide +kernel
theorem dJ5_charAt_5068e_33 : decode cJ5_charAt_5068e 33 = .ok (.aload_n 3, 1) := by decide +kernel
theorem dJ5_charAt_5068e_34 : decode cJ5_charAt_5068e 34 = .ok (.iload_n 1, 1) := by decide +kernel
theorem dJ5_charAt_5068e_35 : decode cJ5_charAt_5068e 35 = .ok (.baload, 1) := by decide +kernel
theorem dJ5_charAt_5068e_36 : decode cJ5_charAt_5068e 36 = .ok (.sipush 255, 3) := by decide +kernel
theorem dJ5_charAt_5068e_39 : decode cJ5_charAt_5068e 39 = .ok (.iand, 1) := by decide +kernel
theorem dJ5_charAt_5068e_40 : decode cJ5_charAt_5068e 40 = .ok (.i2c, 1) := by decide +kernel
theorem dJ5_charAt_5068e_41 : decode cJ5_charAt_5068e 41 = .ok (.ireturn, 1) := by decide +kernel
theorem dJ5_charAt_5068e_42 : decode cJ5_charAt_5068e 42 = .ok (.aload_n 3, 1) := by decide +kernel
theorem dJ5_charAt_5068e_43 : decode cJ5_charAt_5068e 43 = .ok (.iload_n 1, 1) := by decide +kernel
theorem dJ5_charAt_5068e_44 : decode cJ5_charAt_5068e 44 = .ok (.invokestatic 148, 3) := by decide +kernel
theorem dJ5_charAt_5068e_47 : decode cJ5_charAt_5068e 47 = .ok (.ireturn, 1) := by decide +kernel
theorem dJ5_append_cf1ce_0 : decode cJ5_append_cf1ce 0 = .ok (.aload_n 1, 1) := by decide +kernel
theorem dJ5_append_cf1ce_1 : decode cJ5_append_cf1ce 1 = .ok (.ifnonnull 8, 3) := by decide +kernel
theorem dJ5_append_cf1ce_4 : decode cJ5_append_cf1ce 4 = .ok (.aload_n 0, 1) := by decide +kernel
theorem dJ5_append_cf1ce_5 : decode cJ5_append_cf1ce 5 = .ok (.invokevirtual 204, 3) := by decide +kernel
theorem dJ5_append_cf1ce_8 : decode cJ5_append_cf1ce 8 = .ok (.areturn, 1) := by decide +kernel
theorem dJ5_append_cf1ce_9 : decode cJ5_append_cf1ce 9 = .ok (.aload_n 1, 1) := by decide +kernel
theorem dJ5_append_cf1ce_10 : decode cJ5_append_cf1ce 10 = .ok (.invokevirtual 32, 3) := by decide +kernel
theorem dJ5_append_cf1ce_13 : decode cJ5_append_cf1ce 13 = .ok (.istore_n 2, 1) := by decide +kernel
theorem dJ5_append_cf1ce_14 : decode cJ5_append_cf1ce 14 = .ok (.aload_n 0, 1) := by decide +kernel
theorem dJ5_append_cf1ce_15 : decode cJ5_append_cf1ce 15 = .ok (.aload_n 0, 1) := by decide +kernel
theorem dJ5_append_cf1ce_16 : decode cJ5_append_cf1ce 16 = .ok (.getfield 79, 3) := by decide +kernel
theorem dJ5_append_cf1ce_19 : decode cJ5_append_cf1ce 19 = .ok (.iload_n 2, 1) := by decide +kernel
theorem dJ5_append_cf1ce_20 : decode cJ5_append_cf1ce 20 = .ok (.iadd, 1) := by decide +kernel
theorem dJ5_append_cf1ce_21 : decode cJ5_append_cf1ce 21 = .ok (.invokevirtual 100, 3) := by decide +kernel
theorem dJ5_append_cf1ce_24 : decode cJ5_append_cf1ce 24 = .ok (.aload_n 0, 1) := by decide +kernel
theorem dJ5_append_cf1ce_25 : decode cJ5_append_cf1ce 25 = .ok (.aload_n 0, 1) := by decide +kernel
theorem dJ5_append_cf1ce_26 : decode cJ5_append_cf1ce 26 = .ok (.getfield 79, 3) := by decide +kernel
theorem dJ5_append_cf1ce_29 : decode cJ5_append_cf1ce 29 = .ok (.aload_n 1, 1) := by decide +kernel
theorem dJ5_append_cf1ce_30 : decode cJ5_append_cf1ce 30 = .ok (.invokevirtual 208, 3) := by decide +kernel
theorem dJ5_append_cf1ce_33 : decode cJ5_append_cf1ce 33 = .ok (.aload_n 0, 1) := by decide +kernel
theorem dJ5_append_cf1ce_34 : decode cJ5_append_cf1ce 34 = .ok (.dup, 1) := by decide +kernel
theorem dJ5_append_cf1ce_35 : decode cJ5_append_cf1ce 35 = .ok (.getfield 79, 3) := by decide +kernel
theorem dJ5_append_cf1ce_38 : decode cJ5_append_cf1ce 38 = .ok (.iload_n 2, 1) := by decide +kernel
