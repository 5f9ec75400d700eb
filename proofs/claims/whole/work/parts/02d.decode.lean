theorem dX0_init_0 : decode cX0_init 0 = .ok (.aload_n 0, 1) := by decide +kernel
theorem dX0_init_1 : decode cX0_init 1 = .ok (.invokespecial 3, 3) := by decide +kernel
theorem dX0_init_4 : decode cX0_init 4 = .ok (.aload_n 0, 1) := by decide +kernel
theorem dX0_init_5 : decode cX0_init 5 = .ok (.bipush 9, 2) := by decide +kernel
theorem dX0_init_7 : decode cX0_init 7 = .ok (.bipush 9, 2) := by decide +kernel
theorem dX0_init_9 : decode cX0_init 9 = .ok (.multianewarray 9 2, 4) := by decide +kernel
theorem dX0_init_13 : decode cX0_init 13 = .ok (.putfield 11, 3) := by decide +kernel
theorem dX0_init_16 : decode cX0_init 16 = .ok (.aload_n 0, 1) := by decide +kernel
theorem dX0_init_17 : decode cX0_init 17 = .ok (.bipush 9, 2) := by decide +kernel
theorem dX0_init_19 : decode cX0_init 19 = .ok (.newarray .double, 2) := by decide +kernel
theorem dX0_init_21 : decode cX0_init 21 = .ok (.putfield 16, 3) := by decide +kernel
theorem dX0_init_24 : decode cX0_init 24 = .ok (.aload_n 0, 1) := by decide +kernel
theorem dX0_init_25 : decode cX0_init 25 = .ok (.bipush 9, 2) := by decide +kernel
theorem dX0_init_27 : decode cX0_init 27 = .ok (.newarray .double, 2) := by decide +kernel
theorem dX0_init_29 : decode cX0_init 29 = .ok (.putfield 20, 3) := by decide +kernel
theorem dX0_init_32 : decode cX0_init 32 = .ok (.return_, 1) := by decide +kernel
theorem dX0_solutionOf_0 : decode cX0_solutionOf 0 = .ok (.aload_n 0, 1) := by decide +kernel
theorem dX0_solutionOf_1 : decode cX0_solutionOf 1 = .ok (.getfield 20, 3) := by decide +kernel
theorem dX0_solutionOf_4 : decode cX0_solutionOf 4 = .ok (.iload_n 1, 1) := by decide +kernel
theorem dX0_solutionOf_5 : decode cX0_solutionOf 5 = .ok (.daload, 1) := by decide +kernel
theorem dX0_solutionOf_6 : decode cX0_solutionOf 6 = .ok (.dreturn, 1) := by decide +kernel
theorem dX0_solve_0 : decode cX0_solve 0 = .ok (.aload_n 0, 1) := by decide +kernel
theorem dX0_solve_1 : decode cX0_solve 1 = .ok (.aload_n 1, 1) := by decide +kernel
theorem dX0_solve_2 : decode cX0_solve 2 = .ok (.iload_n 2, 1) := by decide +kernel
theorem dX0_solve_3 : decode cX0_solve 3 = .ok (.iload_n 3, 1) := by decide +kernel
theorem dX0_solve_4 : decode cX0_solve 4 = .ok (.invokevirtual 23, 3) := by decide +kernel
theorem dX0_solve_7 : decode cX0_solve 7 = .ok (.iconst 0, 1) := by decide +kernel
theorem dX0_solve_8 : decode cX0_solve 8 = .ok (.istore 4, 2) := by decide +kernel
theorem dX0_solve_10 : decode cX0_solve 10 = .ok (.iload 4, 2) := by decide +kernel
theorem dX0_solve_12 : decode cX0_solve 12 = .ok (.bipush 9, 2) := by decide +kernel
theorem dX0_solve_14 : decode cX0_solve 14 = .ok (.if_icmp .ge 15, 3) := by decide +kernel
theorem dX0_solve_17 : decode cX0_solve 17 = .ok (.aload_n 0, 1) := by decide +kernel
theorem dX0_solve_18 : decode cX0_solve 18 = .ok (.iload 4, 2) := by decide +kernel
theorem dX0_solve_20 : decode cX0_solve 20 = .ok (.invokevirtual 27, 3) := by decide +kernel
theorem dX0_solve_23 : decode cX0_solve 23 = .ok (.iinc 4 1, 3) := by decide +kernel
theorem dX0_solve_26 : decode cX0_solve 26 = .ok (.goto (-16), 3) := by decide +kernel
theorem dX0_solve_29 : decode cX0_solve 29 = .ok (.bipush 8, 2) := by decide +kernel
theorem dX0_solve_31 : decode cX0_solve 31 = .ok (.istore 4, 2) := by decide +kernel
theorem dX0_solve_33 : decode cX0_solve 33 = .ok (.iload 4, 2) := by decide +kernel
theorem dX0_solve_35 : decode cX0_solve 35 = .ok (.ifCond .lt 15, 3) := by decide +kernel
theorem dX0_solve_38 : decode cX0_solve 38 = .ok (.aload_n 0, 1) := by decide +kernel
theorem dX0_solve_39 : decode cX0_solve 39 = .ok (.iload 4, 2) := by decide +kernel
theorem dX0_solve_41 : decode cX0_solve 41 = .ok (.invokevirtual 31, 3) := by decide +kernel
theorem dX0_solve_44 : decode cX0_solve 44 = .ok (.iinc 4 (-1), 3) := by decide +kernel
theorem dX0_solve_47 : decode cX0_solve 47 = .ok (.goto (-14), 3) := by decide +kernel
theorem dX0_solve_50 : decode cX0_solve 50 = .ok (.return_, 1) := by decide +kernel
theorem dX0_fill_0 : decode cX0_fill 0 = .ok (.iload_n 3, 1) := by decide +kernel
theorem dX0_fill_1 : decode cX0_fill 1 = .ok (.i2d, 1) := by decide +kernel
theorem dX0_fill_2 : decode cX0_fill 2 = .ok (.ldc2_w 34, 3) := by decide +kernel
theorem dX0_fill_5 : decode cX0_fill 5 = .ok (.ddiv, 1) := by decide +kernel
theorem dX0_fill_6 : decode cX0_fill 6 = .ok (.dstore 4, 2) := by decide +kernel
theorem dX0_fill_8 : decode cX0_fill 8 = .ok (.iconst 0, 1) := by decide +kernel
theorem dX0_fill_9 : decode cX0_fill 9 = .ok (.istore 6, 2) := by decide +kernel
theorem dX0_fill_11 : decode cX0_fill 11 = .ok (.iload 6, 2) := by decide +kernel
theorem dX0_fill_13 : decode cX0_fill 13 = .ok (.bipush 9, 2) := by decide +kernel
theorem dX0_fill_15 : decode cX0_fill 15 = .ok (.if_icmp .ge 81, 3) := by decide +kernel
theorem dX0_fill_18 : decode cX0_fill 18 = .ok (.iconst 0, 1) := by decide +kernel
theorem dX0_fill_19 : decode cX0_fill 19 = .ok (.istore 7, 2) := by decide +kernel
theorem dX0_fill_21 : decode cX0_fill 21 = .ok (.iload 7, 2) := by decide +kernel
theorem dX0_fill_23 : decode cX0_fill 23 = .ok (.bipush 9, 2) := by decide +kernel
theorem dX0_fill_25 : decode cX0_fill 25 = .ok (.if_icmp .ge 44, 3) := by decide +kernel
theorem dX0_fill_28 : decode cX0_fill 28 = .ok (.aload_n 0, 1) := by decide +kernel
theorem dX0_fill_29 : decode cX0_fill 29 = .ok (.getfield 11, 3) := by decide +kernel
theorem dX0_fill_32 : decode cX0_fill 32 = .ok (.iload 6, 2) := by decide +kernel
theorem dX0_fill_34 : decode cX0_fill 34 = .ok (.aaload, 1) := by decide +kernel
theorem dX0_fill_35 : decode cX0_fill 35 = .ok (.iload 7, 2) := by decide +kernel
theorem dX0_fill_37 : decode cX0_fill 37 = .ok (.iload 6, 2) := by decide +kernel
theorem dX0_fill_39 : decode cX0_fill 39 = .ok (.iload 7, 2) := by decide +kernel
theorem dX0_fill_41 : decode cX0_fill 41 = .ok (.if_icmp .ne 7, 3) := by decide +kernel
theorem dX0_fill_44 : decode cX0_fill 44 = .ok (.dconst 1, 1) := by decide +kernel
theorem dX0_fill_45 : decode cX0_fill 45 = .ok (.goto 4, 3) := by decide +kernel
theorem dX0_fill_48 : decode cX0_fill 48 = .ok (.dconst 0, 1) := by decide +kernel
theorem dX0_fill_49 : decode cX0_fill 49 = .ok (.dload 4, 2) := by decide +kernel
theorem dX0_fill_51 : decode cX0_fill 51 = .ok (.aload_n 1, 1) := by decide +kernel
theorem dX0_fill_52 : decode cX0_fill 52 = .ok (.iload_n 2, 1) := by decide +kernel
theorem dX0_fill_53 : decode cX0_fill 53 = .ok (.iload 7, 2) := by decide +kernel
theorem dX0_fill_55 : decode cX0_fill 55 = .ok (.iload 6, 2) := by decide +kernel
theorem dX0_fill_57 : decode cX0_fill 57 = .ok (.invokestatic 36, 3) := by decide +kernel
theorem dX0_fill_60 : decode cX0_fill 60 = .ok (.dmul, 1) := by decide +kernel
theorem dX0_fill_61 : decode cX0_fill 61 = .ok (.dsub, 1) := by decide +kernel
theorem dX0_fill_62 : decode cX0_fill 62 = .ok (.dastore, 1) := by decide +kernel
theorem dX0_fill_63 : decode cX0_fill 63 = .ok (.iinc 7 1, 3) := by decide +kernel
theorem dX0_fill_66 : decode cX0_fill 66 = .ok (.goto (-45), 3) := by decide +kernel
theorem dX0_fill_69 : decode cX0_fill 69 = .ok (.aload_n 0, 1) := by decide +kernel
theorem dX0_fill_70 : decode cX0_fill 70 = .ok (.getfield 16, 3) := by decide +kernel
theorem dX0_fill_73 : decode cX0_fill 73 = .ok (.iload 6, 2) := by decide +kernel
theorem dX0_fill_75 : decode cX0_fill 75 = .ok (.iload 6, 2) := by decide +kernel
theorem dX0_fill_77 : decode cX0_fill 77 = .ok (.iload_n 2, 1) := by decide +kernel
theorem dX0_fill_78 : decode cX0_fill 78 = .ok (.if_icmp .ne 10, 3) := by decide +kernel
theorem dX0_fill_81 : decode cX0_fill 81 = .ok (.dconst 1, 1) := by decide +kernel
theorem dX0_fill_82 : decode cX0_fill 82 = .ok (.dload 4, 2) := by decide +kernel
theorem dX0_fill_84 : decode cX0_fill 84 = .ok (.dsub, 1) := by decide +kernel
theorem dX0_fill_85 : decode cX0_fill 85 = .ok (.goto 4, 3) := by decide +kernel
theorem dX0_fill_88 : decode cX0_fill 88 = .ok (.dconst 0, 1) := by decide +kernel
theorem dX0_fill_89 : decode cX0_fill 89 = .ok (.dastore, 1) := by decide +kernel
theorem dX0_fill_90 : decode cX0_fill 90 = .ok (.iinc 6 1, 3) := by decide +kernel
theorem dX0_fill_93 : decode cX0_fill 93 = .ok (.goto (-82), 3) := by decide +kernel
theorem dX0_fill_96 : decode cX0_fill 96 = .ok (.return_, 1) := by decide +kernel
theorem dX0_partSent_0 : decode cX0_partSent 0 = .ok (.aload_n 0, 1) := by decide +kernel
theorem dX0_partSent_1 : decode cX0_partSent 1 = .ok (.iload_n 2, 1) := by decide +kernel
theorem dX0_partSent_2 : decode cX0_partSent 2 = .ok (.invokevirtual 40, 3) := by decide +kernel
theorem dX0_partSent_5 : decode cX0_partSent 5 = .ok (.ifCond .ne 14, 3) := by decide +kernel
theorem dX0_partSent_8 : decode cX0_partSent 8 = .ok (.iload_n 3, 1) := by decide +kernel
theorem dX0_partSent_9 : decode cX0_partSent 9 = .ok (.iload_n 1, 1) := by decide +kernel
theorem dX0_partSent_10 : decode cX0_partSent 10 = .ok (.if_icmp .ne 7, 3) := by decide +kernel
theorem dX0_partSent_13 : decode cX0_partSent 13 = .ok (.dconst 1, 1) := by decide +kernel
theorem dX0_partSent_14 : decode cX0_partSent 14 = .ok (.goto 4, 3) := by decide +kernel
theorem dX0_partSent_17 : decode cX0_partSent 17 = .ok (.dconst 0, 1) := by decide +kernel
theorem dX0_partSent_18 : decode cX0_partSent 18 = .ok (.dreturn, 1) := by decide +kernel
theorem dX0_partSent_19 : decode cX0_partSent 19 = .ok (.aload_n 0, 1) := by decide +kernel
theorem dX0_partSent_20 : decode cX0_partSent 20 = .ok (.iload_n 2, 1) := by decide +kernel
theorem dX0_partSent_21 : decode cX0_partSent 21 = .ok (.iload_n 3, 1) := by decide +kernel
theorem dX0_partSent_22 : decode cX0_partSent 22 = .ok (.invokevirtual 46, 3) := by decide +kernel
theorem dX0_partSent_25 : decode cX0_partSent 25 = .ok (.i2d, 1) := by decide +kernel
theorem dX0_partSent_26 : decode cX0_partSent 26 = .ok (.aload_n 0, 1) := by decide +kernel
theorem dX0_partSent_27 : decode cX0_partSent 27 = .ok (.iload_n 2, 1) := by decide +kernel
theorem dX0_partSent_28 : decode cX0_partSent 28 = .ok (.invokevirtual 40, 3) := by decide +kernel
theorem dX0_partSent_31 : decode cX0_partSent 31 = .ok (.i2d, 1) := by decide +kernel
theorem dX0_partSent_32 : decode cX0_partSent 32 = .ok (.invokestatic 50, 3) := by decide +kernel
theorem dX0_partSent_35 : decode cX0_partSent 35 = .ok (.dreturn, 1) := by decide +kernel
theorem dX0_eliminateBehind_0 : decode cX0_eliminateBehind 0 = .ok (.iload_n 1, 1) := by decide +kernel
theorem dX0_eliminateBehind_1 : decode cX0_eliminateBehind 1 = .ok (.iconst 1, 1) := by decide +kernel
theorem dX0_eliminateBehind_2 : decode cX0_eliminateBehind 2 = .ok (.iadd, 1) := by decide +kernel
theorem dX0_eliminateBehind_3 : decode cX0_eliminateBehind 3 = .ok (.istore_n 2, 1) := by decide +kernel
theorem dX0_eliminateBehind_4 : decode cX0_eliminateBehind 4 = .ok (.iload_n 2, 1) := by decide +kernel
theorem dX0_eliminateBehind_5 : decode cX0_eliminateBehind 5 = .ok (.bipush 9, 2) := by decide +kernel
theorem dX0_eliminateBehind_7 : decode cX0_eliminateBehind 7 = .ok (.if_icmp .ge 85, 3) := by decide +kernel
theorem dX0_eliminateBehind_10 : decode cX0_eliminateBehind 10 = .ok (.aload_n 0, 1) := by decide +kernel
theorem dX0_eliminateBehind_11 : decode cX0_eliminateBehind 11 = .ok (.getfield 11, 3) := by decide +kernel
theorem dX0_eliminateBehind_14 : decode cX0_eliminateBehind 14 = .ok (.iload_n 2, 1) := by decide +kernel
theorem dX0_eliminateBehind_15 : decode cX0_eliminateBehind 15 = .ok (.aaload, 1) := by decide +kernel
theorem dX0_eliminateBehind_16 : decode cX0_eliminateBehind 16 = .ok (.iload_n 1, 1) := by decide +kernel
theorem dX0_eliminateBehind_17 : decode cX0_eliminateBehind 17 = .ok (.daload, 1) := by decide +kernel
theorem dX0_eliminateBehind_18 : decode cX0_eliminateBehind 18 = .ok (.aload_n 0, 1) := by decide +kernel
theorem dX0_eliminateBehind_19 : decode cX0_eliminateBehind 19 = .ok (.getfield 11, 3) := by decide +kernel
theorem dX0_eliminateBehind_22 : decode cX0_eliminateBehind 22 = .ok (.iload_n 1, 1) := by decide +kernel
theorem dX0_eliminateBehind_23 : decode cX0_eliminateBehind 23 = .ok (.aaload, 1) := by decide +kernel
theorem dX0_eliminateBehind_24 : decode cX0_eliminateBehind 24 = .ok (.iload_n 1, 1) := by decide +kernel
theorem dX0_eliminateBehind_25 : decode cX0_eliminateBehind 25 = .ok (.daload, 1) := by decide +kernel
theorem dX0_eliminateBehind_26 : decode cX0_eliminateBehind 26 = .ok (.invokestatic 50, 3) := by decide +kernel
theorem dX0_eliminateBehind_29 : decode cX0_eliminateBehind 29 = .ok (.dstore_n 3, 1) := by decide +kernel
theorem dX0_eliminateBehind_30 : decode cX0_eliminateBehind 30 = .ok (.iload_n 1, 1) := by decide +kernel
theorem dX0_eliminateBehind_31 : decode cX0_eliminateBehind 31 = .ok (.istore 5, 2) := by decide +kernel
theorem dX0_eliminateBehind_33 : decode cX0_eliminateBehind 33 = .ok (.iload 5, 2) := by decide +kernel
theorem dX0_eliminateBehind_35 : decode cX0_eliminateBehind 35 = .ok (.bipush 9, 2) := by decide +kernel
theorem dX0_eliminateBehind_37 : decode cX0_eliminateBehind 37 = .ok (.if_icmp .ge 32, 3) := by decide +kernel
theorem dX0_eliminateBehind_40 : decode cX0_eliminateBehind 40 = .ok (.aload_n 0, 1) := by decide +kernel
theorem dX0_eliminateBehind_41 : decode cX0_eliminateBehind 41 = .ok (.getfield 11, 3) := by decide +kernel
theorem dX0_eliminateBehind_44 : decode cX0_eliminateBehind 44 = .ok (.iload_n 2, 1) := by decide +kernel
theorem dX0_eliminateBehind_45 : decode cX0_eliminateBehind 45 = .ok (.aaload, 1) := by decide +kernel
theorem dX0_eliminateBehind_46 : decode cX0_eliminateBehind 46 = .ok (.iload 5, 2) := by decide +kernel
theorem dX0_eliminateBehind_48 : decode cX0_eliminateBehind 48 = .ok (.dup2, 1) := by decide +kernel
theorem dX0_eliminateBehind_49 : decode cX0_eliminateBehind 49 = .ok (.daload, 1) := by decide +kernel
theorem dX0_eliminateBehind_50 : decode cX0_eliminateBehind 50 = .ok (.dload_n 3, 1) := by decide +kernel
theorem dX0_eliminateBehind_51 : decode cX0_eliminateBehind 51 = .ok (.aload_n 0, 1) := by decide +kernel
theorem dX0_eliminateBehind_52 : decode cX0_eliminateBehind 52 = .ok (.getfield 11, 3) := by decide +kernel
theorem dX0_eliminateBehind_55 : decode cX0_eliminateBehind 55 = .ok (.iload_n 1, 1) := by decide +kernel
theorem dX0_eliminateBehind_56 : decode cX0_eliminateBehind 56 = .ok (.aaload, 1) := by decide +kernel
theorem dX0_eliminateBehind_57 : decode cX0_eliminateBehind 57 = .ok (.iload 5, 2) := by decide +kernel
theorem dX0_eliminateBehind_59 : decode cX0_eliminateBehind 59 = .ok (.daload, 1) := by decide +kernel
theorem dX0_eliminateBehind_60 : decode cX0_eliminateBehind 60 = .ok (.dmul, 1) := by decide +kernel
theorem dX0_eliminateBehind_61 : decode cX0_eliminateBehind 61 = .ok (.dsub, 1) := by decide +kernel
theorem dX0_eliminateBehind_62 : decode cX0_eliminateBehind 62 = .ok (.dastore, 1) := by decide +kernel
theorem dX0_eliminateBehind_63 : decode cX0_eliminateBehind 63 = .ok (.iinc 5 1, 3) := by decide +kernel
theorem dX0_eliminateBehind_66 : decode cX0_eliminateBehind 66 = .ok (.goto (-33), 3) := by decide +kernel
theorem dX0_eliminateBehind_69 : decode cX0_eliminateBehind 69 = .ok (.aload_n 0, 1) := by decide +kernel
theorem dX0_eliminateBehind_70 : decode cX0_eliminateBehind 70 = .ok (.getfield 16, 3) := by decide +kernel
theorem dX0_eliminateBehind_73 : decode cX0_eliminateBehind 73 = .ok (.iload_n 2, 1) := by decide +kernel
theorem dX0_eliminateBehind_74 : decode cX0_eliminateBehind 74 = .ok (.dup2, 1) := by decide +kernel
theorem dX0_eliminateBehind_75 : decode cX0_eliminateBehind 75 = .ok (.daload, 1) := by decide +kernel
theorem dX0_eliminateBehind_76 : decode cX0_eliminateBehind 76 = .ok (.dload_n 3, 1) := by decide +kernel
theorem dX0_eliminateBehind_77 : decode cX0_eliminateBehind 77 = .ok (.aload_n 0, 1) := by decide +kernel
theorem dX0_eliminateBehind_78 : decode cX0_eliminateBehind 78 = .ok (.getfield 16, 3) := by decide +kernel
theorem dX0_eliminateBehind_81 : decode cX0_eliminateBehind 81 = .ok (.iload_n 1, 1) := by decide +kernel
theorem dX0_eliminateBehind_82 : decode cX0_eliminateBehind 82 = .ok (.daload, 1) := by decide +kernel
theorem dX0_eliminateBehind_83 : decode cX0_eliminateBehind 83 = .ok (.dmul, 1) := by decide +kernel
theorem dX0_eliminateBehind_84 : decode cX0_eliminateBehind 84 = .ok (.dsub, 1) := by decide +kernel
theorem dX0_eliminateBehind_85 : decode cX0_eliminateBehind 85 = .ok (.dastore, 1) := by decide +kernel
theorem dX0_eliminateBehind_86 : decode cX0_eliminateBehind 86 = .ok (.iinc 2 1, 3) := by decide +kernel
theorem dX0_eliminateBehind_89 : decode cX0_eliminateBehind 89 = .ok (.goto (-85), 3) := by decide +kernel
theorem dX0_eliminateBehind_92 : decode cX0_eliminateBehind 92 = .ok (.return_, 1) := by decide +kernel
theorem dX0_solveRow_0 : decode cX0_solveRow 0 = .ok (.aload_n 0, 1) := by decide +kernel
theorem dX0_solveRow_1 : decode cX0_solveRow 1 = .ok (.getfield 16, 3) := by decide +kernel
theorem dX0_solveRow_4 : decode cX0_solveRow 4 = .ok (.iload_n 1, 1) := by decide +kernel
theorem dX0_solveRow_5 : decode cX0_solveRow 5 = .ok (.daload, 1) := by decide +kernel
theorem dX0_solveRow_6 : decode cX0_solveRow 6 = .ok (.dstore_n 2, 1) := by decide +kernel
theorem dX0_solveRow_7 : decode cX0_solveRow 7 = .ok (.iload_n 1, 1) := by decide +kernel
theorem dX0_solveRow_8 : decode cX0_solveRow 8 = .ok (.iconst 1, 1) := by decide +kernel
theorem dX0_solveRow_9 : decode cX0_solveRow 9 = .ok (.iadd, 1) := by decide +kernel
theorem dX0_solveRow_10 : decode cX0_solveRow 10 = .ok (.istore 4, 2) := by decide +kernel
theorem dX0_solveRow_12 : decode cX0_solveRow 12 = .ok (.iload 4, 2) := by decide +kernel
theorem dX0_solveRow_14 : decode cX0_solveRow 14 = .ok (.bipush 9, 2) := by decide +kernel
theorem dX0_solveRow_16 : decode cX0_solveRow 16 = .ok (.if_icmp .ge 29, 3) := by decide +kernel
theorem dX0_solveRow_19 : decode cX0_solveRow 19 = .ok (.dload_n 2, 1) := by decide +kernel
theorem dX0_solveRow_20 : decode cX0_solveRow 20 = .ok (.aload_n 0, 1) := by decide +kernel
theorem dX0_solveRow_21 : decode cX0_solveRow 21 = .ok (.getfield 11, 3) := by decide +kernel
theorem dX0_solveRow_24 : decode cX0_solveRow 24 = .ok (.iload_n 1, 1) := by decide +kernel
theorem dX0_solveRow_25 : decode cX0_solveRow 25 = .ok (.aaload, 1) := by decide +kernel
theorem dX0_solveRow_26 : decode cX0_solveRow 26 = .ok (.iload 4, 2) := by decide +kernel
theorem dX0_solveRow_28 : decode cX0_solveRow 28 = .ok (.daload, 1) := by decide +kernel
theorem dX0_solveRow_29 : decode cX0_solveRow 29 = .ok (.aload_n 0, 1) := by decide +kernel
theorem dX0_solveRow_30 : decode cX0_solveRow 30 = .ok (.getfield 20, 3) := by decide +kernel
theorem dX0_solveRow_33 : decode cX0_solveRow 33 = .ok (.iload 4, 2) := by decide +kernel
theorem dX0_solveRow_35 : decode cX0_solveRow 35 = .ok (.daload, 1) := by decide +kernel
theorem dX0_solveRow_36 : decode cX0_solveRow 36 = .ok (.dmul, 1) := by decide +kernel
theorem dX0_solveRow_37 : decode cX0_solveRow 37 = .ok (.dsub, 1) := by decide +kernel
theorem dX0_solveRow_38 : decode cX0_solveRow 38 = .ok (.dstore_n 2, 1) := by decide +kernel
theorem dX0_solveRow_39 : decode cX0_solveRow 39 = .ok (.iinc 4 1, 3) := by decide +kernel
theorem dX0_solveRow_42 : decode cX0_solveRow 42 = .ok (.goto (-30), 3) := by decide +kernel
theorem dX0_solveRow_45 : decode cX0_solveRow 45 = .ok (.aload_n 0, 1) := by decide +kernel
theorem dX0_solveRow_46 : decode cX0_solveRow 46 = .ok (.getfield 20, 3) := by decide +kernel
theorem dX0_solveRow_49 : decode cX0_solveRow 49 = .ok (.iload_n 1, 1) := by decide +kernel
theorem dX0_solveRow_50 : decode cX0_solveRow 50 = .ok (.dload_n 2, 1) := by decide +kernel
theorem dX0_solveRow_51 : decode cX0_solveRow 51 = .ok (.aload_n 0, 1) := by decide +kernel
theorem dX0_solveRow_52 : decode cX0_solveRow 52 = .ok (.getfield 11, 3) := by decide +kernel
theorem dX0_solveRow_55 : decode cX0_solveRow 55 = .ok (.iload_n 1, 1) := by decide +kernel
theorem dX0_solveRow_56 : decode cX0_solveRow 56 = .ok (.aaload, 1) := by decide +kernel
theorem dX0_solveRow_57 : decode cX0_solveRow 57 = .ok (.iload_n 1, 1) := by decide +kernel
theorem dX0_solveRow_58 : decode cX0_solveRow 58 = .ok (.daload, 1) := by decide +kernel
theorem dX0_solveRow_59 : decode cX0_solveRow 59 = .ok (.invokestatic 50, 3) := by decide +kernel
theorem dX0_solveRow_62 : decode cX0_solveRow 62 = .ok (.dastore, 1) := by decide +kernel
theorem dX0_solveRow_63 : decode cX0_solveRow 63 = .ok (.return_, 1) := by decide +kernel
theorem dX0_quotient_0 : decode cX0_quotient 0 = .ok (.dload_n 2, 1) := by decide +kernel
theorem dX0_quotient_1 : decode cX0_quotient 1 = .ok (.dconst 0, 1) := by decide +kernel
theorem dX0_quotient_2 : decode cX0_quotient 2 = .ok (.dcmp .l, 1) := by decide +kernel
theorem dX0_quotient_3 : decode cX0_quotient 3 = .ok (.ifCond .ne 7, 3) := by decide +kernel
theorem dX0_quotient_6 : decode cX0_quotient 6 = .ok (.dconst 0, 1) := by decide +kernel
theorem dX0_quotient_7 : decode cX0_quotient 7 = .ok (.goto 6, 3) := by decide +kernel
theorem dX0_quotient_10 : decode cX0_quotient 10 = .ok (.dload_n 0, 1) := by decide +kernel
theorem dX0_quotient_11 : decode cX0_quotient 11 = .ok (.dload_n 2, 1) := by decide +kernel
theorem dX0_quotient_12 : decode cX0_quotient 12 = .ok (.ddiv, 1) := by decide +kernel
theorem dX0_quotient_13 : decode cX0_quotient 13 = .ok (.dreturn, 1) := by decide +kernel
theorem dX1_init_0 : decode cX1_init 0 = .ok (.aload_n 0, 1) := by decide +kernel
theorem dX1_init_1 : decode cX1_init 1 = .ok (.invokespecial 3, 3) := by decide +kernel
theorem dX1_init_4 : decode cX1_init 4 = .ok (.aload_n 0, 1) := by decide +kernel
theorem dX1_init_5 : decode cX1_init 5 = .ok (.iconst 4, 1) := by decide +kernel
theorem dX1_init_6 : decode cX1_init 6 = .ok (.iconst 5, 1) := by decide +kernel
theorem dX1_init_7 : decode cX1_init 7 = .ok (.multianewarray 9 2, 4) := by decide +kernel
theorem dX1_init_11 : decode cX1_init 11 = .ok (.putfield 11, 3) := by decide +kernel
theorem dX1_init_14 : decode cX1_init 14 = .ok (.aload_n 0, 1) := by decide +kernel
theorem dX1_init_15 : decode cX1_init 15 = .ok (.iconst 5, 1) := by decide +kernel
theorem dX1_init_16 : decode cX1_init 16 = .ok (.newarray .int, 2) := by decide +kernel
theorem dX1_init_18 : decode cX1_init 18 = .ok (.putfield 16, 3) := by decide +kernel
theorem dX1_init_21 : decode cX1_init 21 = .ok (.aload_n 0, 1) := by decide +kernel
theorem dX1_init_22 : decode cX1_init 22 = .ok (.bipush 9, 2) := by decide +kernel
theorem dX1_init_24 : decode cX1_init 24 = .ok (.bipush 9, 2) := by decide +kernel
theorem dX1_init_26 : decode cX1_init 26 = .ok (.multianewarray 9 2, 4) := by decide +kernel
theorem dX1_init_30 : decode cX1_init 30 = .ok (.putfield 20, 3) := by decide +kernel
theorem dX1_init_33 : decode cX1_init 33 = .ok (.aload_n 0, 1) := by decide +kernel
theorem dX1_init_34 : decode cX1_init 34 = .ok (.bipush 9, 2) := by decide +kernel
theorem dX1_init_36 : decode cX1_init 36 = .ok (.bipush 9, 2) := by decide +kernel
theorem dX1_init_38 : decode cX1_init 38 = .ok (.multianewarray 9 2, 4) := by decide +kernel
theorem dX1_init_42 : decode cX1_init 42 = .ok (.putfield 23, 3) := by decide +kernel
theorem dX1_init_45 : decode cX1_init 45 = .ok (.aload_n 0, 1) := by decide +kernel
theorem dX1_init_46 : decode cX1_init 46 = .ok (.bipush 9, 2) := by decide +kernel
theorem dX1_init_48 : decode cX1_init 48 = .ok (.newarray .int, 2) := by decide +kernel
theorem dX1_init_50 : decode cX1_init 50 = .ok (.putfield 26, 3) := by decide +kernel
theorem dX1_init_53 : decode cX1_init 53 = .ok (.aload_n 0, 1) := by decide +kernel
theorem dX1_init_54 : decode cX1_init 54 = .ok (.bipush 9, 2) := by decide +kernel
theorem dX1_init_56 : decode cX1_init 56 = .ok (.newarray .int, 2) := by decide +kernel
theorem dX1_init_58 : decode cX1_init 58 = .ok (.putfield 29, 3) := by decide +kernel
theorem dX1_init_61 : decode cX1_init 61 = .ok (.return_, 1) := by decide +kernel
theorem dX1_loanWeight_0 : decode cX1_loanWeight 0 = .ok (.aload_n 0, 1) := by decide +kernel
theorem dX1_loanWeight_1 : decode cX1_loanWeight 1 = .ok (.getfield 11, 3) := by decide +kernel
theorem dX1_loanWeight_4 : decode cX1_loanWeight 4 = .ok (.iload_n 1, 1) := by decide +kernel
theorem dX1_loanWeight_5 : decode cX1_loanWeight 5 = .ok (.aaload, 1) := by decide +kernel
theorem dX1_loanWeight_6 : decode cX1_loanWeight 6 = .ok (.iload_n 2, 1) := by decide +kernel
theorem dX1_loanWeight_7 : decode cX1_loanWeight 7 = .ok (.iaload, 1) := by decide +kernel
theorem dX1_loanWeight_8 : decode cX1_loanWeight 8 = .ok (.ireturn, 1) := by decide +kernel
theorem dX1_barOf_0 : decode cX1_barOf 0 = .ok (.aload_n 0, 1) := by decide +kernel
theorem dX1_barOf_1 : decode cX1_barOf 1 = .ok (.getfield 16, 3) := by decide +kernel
theorem dX1_barOf_4 : decode cX1_barOf 4 = .ok (.iload_n 1, 1) := by decide +kernel
theorem dX1_barOf_5 : decode cX1_barOf 5 = .ok (.iaload, 1) := by decide +kernel
theorem dX1_barOf_6 : decode cX1_barOf 6 = .ok (.ireturn, 1) := by decide +kernel
theorem dX1_walkedWeight_0 : decode cX1_walkedWeight 0 = .ok (.aload_n 0, 1) := by decide +kernel
theorem dX1_walkedWeight_1 : decode cX1_walkedWeight 1 = .ok (.getfield 20, 3) := by decide +kernel
theorem dX1_walkedWeight_4 : decode cX1_walkedWeight 4 = .ok (.iload_n 1, 1) := by decide +kernel
theorem dX1_walkedWeight_5 : decode cX1_walkedWeight 5 = .ok (.aaload, 1) := by decide +kernel
theorem dX1_walkedWeight_6 : decode cX1_walkedWeight 6 = .ok (.iload_n 2, 1) := by decide +kernel
theorem dX1_walkedWeight_7 : decode cX1_walkedWeight 7 = .ok (.iaload, 1) := by decide +kernel
theorem dX1_walkedWeight_8 : decode cX1_walkedWeight 8 = .ok (.ireturn, 1) := by decide +kernel
theorem dX1_neighbour_0 : decode cX1_neighbour 0 = .ok (.aload_n 0, 1) := by decide +kernel
theorem dX1_neighbour_1 : decode cX1_neighbour 1 = .ok (.getfield 23, 3) := by decide +kernel
theorem dX1_neighbour_4 : decode cX1_neighbour 4 = .ok (.iload_n 1, 1) := by decide +kernel
theorem dX1_neighbour_5 : decode cX1_neighbour 5 = .ok (.aaload, 1) := by decide +kernel
theorem dX1_neighbour_6 : decode cX1_neighbour 6 = .ok (.iload_n 2, 1) := by decide +kernel
theorem dX1_neighbour_7 : decode cX1_neighbour 7 = .ok (.iaload, 1) := by decide +kernel
theorem dX1_neighbour_8 : decode cX1_neighbour 8 = .ok (.ireturn, 1) := by decide +kernel
theorem dX1_neighbourCount_0 : decode cX1_neighbourCount 0 = .ok (.aload_n 0, 1) := by decide +kernel
theorem dX1_neighbourCount_1 : decode cX1_neighbourCount 1 = .ok (.getfield 26, 3) := by decide +kernel
theorem dX1_neighbourCount_4 : decode cX1_neighbourCount 4 = .ok (.iload_n 1, 1) := by decide +kernel
theorem dX1_neighbourCount_5 : decode cX1_neighbourCount 5 = .ok (.iaload, 1) := by decide +kernel
theorem dX1_neighbourCount_6 : decode cX1_neighbourCount 6 = .ok (.ireturn, 1) := by decide +kernel
theorem dX1_weightOfAll_0 : decode cX1_weightOfAll 0 = .ok (.aload_n 0, 1) := by decide +kernel
theorem dX1_weightOfAll_1 : decode cX1_weightOfAll 1 = .ok (.getfield 29, 3) := by decide +kernel
theorem dX1_weightOfAll_4 : decode cX1_weightOfAll 4 = .ok (.iload_n 1, 1) := by decide +kernel
theorem dX1_weightOfAll_5 : decode cX1_weightOfAll 5 = .ok (.iaload, 1) := by decide +kernel
theorem dX1_weightOfAll_6 : decode cX1_weightOfAll 6 = .ok (.ireturn, 1) := by decide +kernel
theorem dX1_setLoan_0 : decode cX1_setLoan 0 = .ok (.aload_n 0, 1) := by decide +kernel
theorem dX1_setLoan_1 : decode cX1_setLoan 1 = .ok (.getfield 11, 3) := by decide +kernel
theorem dX1_setLoan_4 : decode cX1_setLoan 4 = .ok (.iload_n 1, 1) := by decide +kernel
theorem dX1_setLoan_5 : decode cX1_setLoan 5 = .ok (.aaload, 1) := by decide +kernel
theorem dX1_setLoan_6 : decode cX1_setLoan 6 = .ok (.iload_n 2, 1) := by decide +kernel
theorem dX1_setLoan_7 : decode cX1_setLoan 7 = .ok (.iload_n 3, 1) := by decide +kernel
theorem dX1_setLoan_8 : decode cX1_setLoan 8 = .ok (.iastore, 1) := by decide +kernel
theorem dX1_setLoan_9 : decode cX1_setLoan 9 = .ok (.aload_n 0, 1) := by decide +kernel
theorem dX1_setLoan_10 : decode cX1_setLoan 10 = .ok (.invokevirtual 32, 3) := by decide +kernel
theorem dX1_setLoan_13 : decode cX1_setLoan 13 = .ok (.return_, 1) := by decide +kernel
theorem dX1_setBar_0 : decode cX1_setBar 0 = .ok (.aload_n 0, 1) := by decide +kernel
theorem dX1_setBar_1 : decode cX1_setBar 1 = .ok (.getfield 16, 3) := by decide +kernel
theorem dX1_setBar_4 : decode cX1_setBar 4 = .ok (.iload_n 1, 1) := by decide +kernel
theorem dX1_setBar_5 : decode cX1_setBar 5 = .ok (.iload_n 2, 1) := by decide +kernel
theorem dX1_setBar_6 : decode cX1_setBar 6 = .ok (.iastore, 1) := by decide +kernel
theorem dX1_setBar_7 : decode cX1_setBar 7 = .ok (.aload_n 0, 1) := by decide +kernel
theorem dX1_setBar_8 : decode cX1_setBar 8 = .ok (.invokevirtual 32, 3) := by decide +kernel
theorem dX1_setBar_11 : decode cX1_setBar 11 = .ok (.return_, 1) := by decide +kernel
theorem dX1_halveLoans_0 : decode cX1_halveLoans 0 = .ok (.iconst 0, 1) := by decide +kernel
theorem dX1_halveLoans_1 : decode cX1_halveLoans 1 = .ok (.istore_n 1, 1) := by decide +kernel
theorem dX1_halveLoans_2 : decode cX1_halveLoans 2 = .ok (.iconst 0, 1) := by decide +kernel
theorem dX1_halveLoans_3 : decode cX1_halveLoans 3 = .ok (.istore_n 2, 1) := by decide +kernel
theorem dX1_halveLoans_4 : decode cX1_halveLoans 4 = .ok (.iload_n 2, 1) := by decide +kernel
theorem dX1_halveLoans_5 : decode cX1_halveLoans 5 = .ok (.iconst 4, 1) := by decide +kernel
theorem dX1_halveLoans_6 : decode cX1_halveLoans 6 = .ok (.if_icmp .ge 53, 3) := by decide +kernel
theorem dX1_halveLoans_9 : decode cX1_halveLoans 9 = .ok (.iconst 0, 1) := by decide +kernel
theorem dX1_halveLoans_10 : decode cX1_halveLoans 10 = .ok (.istore_n 3, 1) := by decide +kernel
theorem dX1_halveLoans_11 : decode cX1_halveLoans 11 = .ok (.iload_n 3, 1) := by decide +kernel
theorem dX1_halveLoans_12 : decode cX1_halveLoans 12 = .ok (.iconst 5, 1) := by decide +kernel
theorem dX1_halveLoans_13 : decode cX1_halveLoans 13 = .ok (.if_icmp .ge 40, 3) := by decide +kernel
theorem dX1_halveLoans_16 : decode cX1_halveLoans 16 = .ok (.aload_n 0, 1) := by decide +kernel
theorem dX1_halveLoans_17 : decode cX1_halveLoans 17 = .ok (.getfield 11, 3) := by decide +kernel
theorem dX1_halveLoans_20 : decode cX1_halveLoans 20 = .ok (.iload_n 2, 1) := by decide +kernel
theorem dX1_halveLoans_21 : decode cX1_halveLoans 21 = .ok (.aaload, 1) := by decide +kernel
theorem dX1_halveLoans_22 : decode cX1_halveLoans 22 = .ok (.iload_n 3, 1) := by decide +kernel
theorem dX1_halveLoans_23 : decode cX1_halveLoans 23 = .ok (.dup2, 1) := by decide +kernel
theorem dX1_halveLoans_24 : decode cX1_halveLoans 24 = .ok (.iaload, 1) := by decide +kernel
theorem dX1_halveLoans_25 : decode cX1_halveLoans 25 = .ok (.iconst 2, 1) := by decide +kernel
theorem dX1_halveLoans_26 : decode cX1_halveLoans 26 = .ok (.idiv, 1) := by decide +kernel
theorem dX1_halveLoans_27 : decode cX1_halveLoans 27 = .ok (.iastore, 1) := by decide +kernel
theorem dX1_halveLoans_28 : decode cX1_halveLoans 28 = .ok (.iload_n 1, 1) := by decide +kernel
theorem dX1_halveLoans_29 : decode cX1_halveLoans 29 = .ok (.aload_n 0, 1) := by decide +kernel
theorem dX1_halveLoans_30 : decode cX1_halveLoans 30 = .ok (.getfield 11, 3) := by decide +kernel
theorem dX1_halveLoans_33 : decode cX1_halveLoans 33 = .ok (.iload_n 2, 1) := by decide +kernel
theorem dX1_halveLoans_34 : decode cX1_halveLoans 34 = .ok (.aaload, 1) := by decide +kernel
theorem dX1_halveLoans_35 : decode cX1_halveLoans 35 = .ok (.iload_n 3, 1) := by decide +kernel
theorem dX1_halveLoans_36 : decode cX1_halveLoans 36 = .ok (.iaload, 1) := by decide +kernel
theorem dX1_halveLoans_37 : decode cX1_halveLoans 37 = .ok (.ifCond .le 7, 3) := by decide +kernel
theorem dX1_halveLoans_40 : decode cX1_halveLoans 40 = .ok (.iconst 1, 1) := by decide +kernel
theorem dX1_halveLoans_41 : decode cX1_halveLoans 41 = .ok (.goto 4, 3) := by decide +kernel
theorem dX1_halveLoans_44 : decode cX1_halveLoans 44 = .ok (.iconst 0, 1) := by decide +kernel
theorem dX1_halveLoans_45 : decode cX1_halveLoans 45 = .ok (.iadd, 1) := by decide +kernel
theorem dX1_halveLoans_46 : decode cX1_halveLoans 46 = .ok (.istore_n 1, 1) := by decide +kernel
theorem dX1_halveLoans_47 : decode cX1_halveLoans 47 = .ok (.iinc 3 1, 3) := by decide +kernel
theorem dX1_halveLoans_50 : decode cX1_halveLoans 50 = .ok (.goto (-39), 3) := by decide +kernel
theorem dX1_halveLoans_53 : decode cX1_halveLoans 53 = .ok (.iinc 2 1, 3) := by decide +kernel
theorem dX1_halveLoans_56 : decode cX1_halveLoans 56 = .ok (.goto (-52), 3) := by decide +kernel
theorem dX1_halveLoans_59 : decode cX1_halveLoans 59 = .ok (.aload_n 0, 1) := by decide +kernel
theorem dX1_halveLoans_60 : decode cX1_halveLoans 60 = .ok (.invokevirtual 32, 3) := by decide +kernel
theorem dX1_halveLoans_63 : decode cX1_halveLoans 63 = .ok (.iload_n 1, 1) := by decide +kernel
theorem dX1_halveLoans_64 : decode cX1_halveLoans 64 = .ok (.ireturn, 1) := by decide +kernel
theorem dX1_tellWalked_0 : decode cX1_tellWalked 0 = .ok (.iconst 0, 1) := by decide +kernel
theorem dX1_tellWalked_1 : decode cX1_tellWalked 1 = .ok (.istore_n 1, 1) := by decide +kernel
theorem dX1_tellWalked_2 : decode cX1_tellWalked 2 = .ok (.iload_n 1, 1) := by decide +kernel
theorem dX1_tellWalked_3 : decode cX1_tellWalked 3 = .ok (.bipush 9, 2) := by decide +kernel
theorem dX1_tellWalked_5 : decode cX1_tellWalked 5 = .ok (.if_icmp .ge 23, 3) := by decide +kernel
theorem dX1_tellWalked_8 : decode cX1_tellWalked 8 = .ok (.aload_n 0, 1) := by decide +kernel
theorem dX1_tellWalked_9 : decode cX1_tellWalked 9 = .ok (.getfield 26, 3) := by decide +kernel
theorem dX1_tellWalked_12 : decode cX1_tellWalked 12 = .ok (.iload_n 1, 1) := by decide +kernel
theorem dX1_tellWalked_13 : decode cX1_tellWalked 13 = .ok (.iconst 0, 1) := by decide +kernel
theorem dX1_tellWalked_14 : decode cX1_tellWalked 14 = .ok (.iastore, 1) := by decide +kernel
theorem dX1_tellWalked_15 : decode cX1_tellWalked 15 = .ok (.aload_n 0, 1) := by decide +kernel
theorem dX1_tellWalked_16 : decode cX1_tellWalked 16 = .ok (.getfield 29, 3) := by decide +kernel
theorem dX1_tellWalked_19 : decode cX1_tellWalked 19 = .ok (.iload_n 1, 1) := by decide +kernel
theorem dX1_tellWalked_20 : decode cX1_tellWalked 20 = .ok (.iconst 0, 1) := by decide +kernel
theorem dX1_tellWalked_21 : decode cX1_tellWalked 21 = .ok (.iastore, 1) := by decide +kernel
theorem dX1_tellWalked_22 : decode cX1_tellWalked 22 = .ok (.iinc 1 1, 3) := by decide +kernel
theorem dX1_tellWalked_25 : decode cX1_tellWalked 25 = .ok (.goto (-23), 3) := by decide +kernel
theorem dX1_tellWalked_28 : decode cX1_tellWalked 28 = .ok (.iconst 0, 1) := by decide +kernel
theorem dX1_tellWalked_29 : decode cX1_tellWalked 29 = .ok (.istore_n 1, 1) := by decide +kernel
theorem dX1_tellWalked_30 : decode cX1_tellWalked 30 = .ok (.iload_n 1, 1) := by decide +kernel
theorem dX1_tellWalked_31 : decode cX1_tellWalked 31 = .ok (.iconst 4, 1) := by decide +kernel
theorem dX1_tellWalked_32 : decode cX1_tellWalked 32 = .ok (.if_icmp .ge 63, 3) := by decide +kernel
theorem dX1_tellWalked_35 : decode cX1_tellWalked 35 = .ok (.iconst 0, 1) := by decide +kernel
theorem dX1_tellWalked_36 : decode cX1_tellWalked 36 = .ok (.istore_n 2, 1) := by decide +kernel
theorem dX1_tellWalked_37 : decode cX1_tellWalked 37 = .ok (.iload_n 2, 1) := by decide +kernel
theorem dX1_tellWalked_38 : decode cX1_tellWalked 38 = .ok (.iconst 5, 1) := by decide +kernel
theorem dX1_tellWalked_39 : decode cX1_tellWalked 39 = .ok (.if_icmp .ge 50, 3) := by decide +kernel
theorem dX1_tellWalked_42 : decode cX1_tellWalked 42 = .ok (.aload_n 0, 1) := by decide +kernel
theorem dX1_tellWalked_43 : decode cX1_tellWalked 43 = .ok (.getfield 16, 3) := by decide +kernel
theorem dX1_tellWalked_46 : decode cX1_tellWalked 46 = .ok (.iload_n 2, 1) := by decide +kernel
theorem dX1_tellWalked_47 : decode cX1_tellWalked 47 = .ok (.iaload, 1) := by decide +kernel
theorem dX1_tellWalked_48 : decode cX1_tellWalked 48 = .ok (.iconst 2, 1) := by decide +kernel
theorem dX1_tellWalked_49 : decode cX1_tellWalked 49 = .ok (.if_icmp .ne 7, 3) := by decide +kernel
theorem dX1_tellWalked_52 : decode cX1_tellWalked 52 = .ok (.iconst 0, 1) := by decide +kernel
theorem dX1_tellWalked_53 : decode cX1_tellWalked 53 = .ok (.goto 11, 3) := by decide +kernel
theorem dX1_tellWalked_56 : decode cX1_tellWalked 56 = .ok (.aload_n 0, 1) := by decide +kernel
theorem dX1_tellWalked_57 : decode cX1_tellWalked 57 = .ok (.getfield 11, 3) := by decide +kernel
theorem dX1_tellWalked_60 : decode cX1_tellWalked 60 = .ok (.iload_n 1, 1) := by decide +kernel
theorem dX1_tellWalked_61 : decode cX1_tellWalked 61 = .ok (.aaload, 1) := by decide +kernel
theorem dX1_tellWalked_62 : decode cX1_tellWalked 62 = .ok (.iload_n 2, 1) := by decide +kernel
theorem dX1_tellWalked_63 : decode cX1_tellWalked 63 = .ok (.iaload, 1) := by decide +kernel
theorem dX1_tellWalked_64 : decode cX1_tellWalked 64 = .ok (.istore_n 3, 1) := by decide +kernel
theorem dX1_tellWalked_65 : decode cX1_tellWalked 65 = .ok (.aload_n 0, 1) := by decide +kernel
theorem dX1_tellWalked_66 : decode cX1_tellWalked 66 = .ok (.iload_n 1, 1) := by decide +kernel
theorem dX1_tellWalked_67 : decode cX1_tellWalked 67 = .ok (.iconst 4, 1) := by decide +kernel
theorem dX1_tellWalked_68 : decode cX1_tellWalked 68 = .ok (.iload_n 2, 1) := by decide +kernel
theorem dX1_tellWalked_69 : decode cX1_tellWalked 69 = .ok (.iadd, 1) := by decide +kernel
theorem dX1_tellWalked_70 : decode cX1_tellWalked 70 = .ok (.iload_n 3, 1) := by decide +kernel
theorem dX1_tellWalked_71 : decode cX1_tellWalked 71 = .ok (.invokevirtual 35, 3) := by decide +kernel
theorem dX1_tellWalked_74 : decode cX1_tellWalked 74 = .ok (.aload_n 0, 1) := by decide +kernel
theorem dX1_tellWalked_75 : decode cX1_tellWalked 75 = .ok (.iconst 4, 1) := by decide +kernel
theorem dX1_tellWalked_76 : decode cX1_tellWalked 76 = .ok (.iload_n 2, 1) := by decide +kernel
theorem dX1_tellWalked_77 : decode cX1_tellWalked 77 = .ok (.iadd, 1) := by decide +kernel
theorem dX1_tellWalked_78 : decode cX1_tellWalked 78 = .ok (.iload_n 1, 1) := by decide +kernel
theorem dX1_tellWalked_79 : decode cX1_tellWalked 79 = .ok (.iload_n 3, 1) := by decide +kernel
theorem dX1_tellWalked_80 : decode cX1_tellWalked 80 = .ok (.invokevirtual 35, 3) := by decide +kernel
theorem dX1_tellWalked_83 : decode cX1_tellWalked 83 = .ok (.iinc 2 1, 3) := by decide +kernel
theorem dX1_tellWalked_86 : decode cX1_tellWalked 86 = .ok (.goto (-49), 3) := by decide +kernel
theorem dX1_tellWalked_89 : decode cX1_tellWalked 89 = .ok (.iinc 1 1, 3) := by decide +kernel
theorem dX1_tellWalked_92 : decode cX1_tellWalked 92 = .ok (.goto (-62), 3) := by decide +kernel
theorem dX1_tellWalked_95 : decode cX1_tellWalked 95 = .ok (.return_, 1) := by decide +kernel
theorem dX1_tellNeighbour_0 : decode cX1_tellNeighbour 0 = .ok (.aload_n 0, 1) := by decide +kernel
theorem dX1_tellNeighbour_1 : decode cX1_tellNeighbour 1 = .ok (.getfield 20, 3) := by decide +kernel
theorem dX1_tellNeighbour_4 : decode cX1_tellNeighbour 4 = .ok (.iload_n 1, 1) := by decide +kernel
theorem dX1_tellNeighbour_5 : decode cX1_tellNeighbour 5 = .ok (.aaload, 1) := by decide +kernel
theorem dX1_tellNeighbour_6 : decode cX1_tellNeighbour 6 = .ok (.iload_n 2, 1) := by decide +kernel
theorem dX1_tellNeighbour_7 : decode cX1_tellNeighbour 7 = .ok (.iload_n 3, 1) := by decide +kernel
theorem dX1_tellNeighbour_8 : decode cX1_tellNeighbour 8 = .ok (.iastore, 1) := by decide +kernel
theorem dX1_tellNeighbour_9 : decode cX1_tellNeighbour 9 = .ok (.aload_n 0, 1) := by decide +kernel
theorem dX1_tellNeighbour_10 : decode cX1_tellNeighbour 10 = .ok (.getfield 26, 3) := by decide +kernel
theorem dX1_tellNeighbour_13 : decode cX1_tellNeighbour 13 = .ok (.iload_n 1, 1) := by decide +kernel
theorem dX1_tellNeighbour_14 : decode cX1_tellNeighbour 14 = .ok (.iaload, 1) := by decide +kernel
theorem dX1_tellNeighbour_15 : decode cX1_tellNeighbour 15 = .ok (.istore 4, 2) := by decide +kernel
theorem dX1_tellNeighbour_17 : decode cX1_tellNeighbour 17 = .ok (.iload_n 3, 1) := by decide +kernel
theorem dX1_tellNeighbour_18 : decode cX1_tellNeighbour 18 = .ok (.ifCond .le 40, 3) := by decide +kernel
theorem dX1_tellNeighbour_21 : decode cX1_tellNeighbour 21 = .ok (.iload 4, 2) := by decide +kernel
theorem dX1_tellNeighbour_23 : decode cX1_tellNeighbour 23 = .ok (.bipush 9, 2) := by decide +kernel
theorem dX1_tellNeighbour_25 : decode cX1_tellNeighbour 25 = .ok (.if_icmp .ge 33, 3) := by decide +kernel
theorem dX1_tellNeighbour_28 : decode cX1_tellNeighbour 28 = .ok (.aload_n 0, 1) := by decide +kernel
theorem dX1_tellNeighbour_29 : decode cX1_tellNeighbour 29 = .ok (.getfield 23, 3) := by decide +kernel
theorem dX1_tellNeighbour_32 : decode cX1_tellNeighbour 32 = .ok (.iload_n 1, 1) := by decide +kernel
theorem dX1_tellNeighbour_33 : decode cX1_tellNeighbour 33 = .ok (.aaload, 1) := by decide +kernel
theorem dX1_tellNeighbour_34 : decode cX1_tellNeighbour 34 = .ok (.iload 4, 2) := by decide +kernel
theorem dX1_tellNeighbour_36 : decode cX1_tellNeighbour 36 = .ok (.iload_n 2, 1) := by decide +kernel
theorem dX1_tellNeighbour_37 : decode cX1_tellNeighbour 37 = .ok (.iastore, 1) := by decide +kernel
theorem dX1_tellNeighbour_38 : decode cX1_tellNeighbour 38 = .ok (.aload_n 0, 1) := by decide +kernel
theorem dX1_tellNeighbour_39 : decode cX1_tellNeighbour 39 = .ok (.getfield 26, 3) := by decide +kernel
theorem dX1_tellNeighbour_42 : decode cX1_tellNeighbour 42 = .ok (.iload_n 1, 1) := by decide +kernel
theorem dX1_tellNeighbour_43 : decode cX1_tellNeighbour 43 = .ok (.iload 4, 2) := by decide +kernel
theorem dX1_tellNeighbour_45 : decode cX1_tellNeighbour 45 = .ok (.iconst 1, 1) := by decide +kernel
theorem dX1_tellNeighbour_46 : decode cX1_tellNeighbour 46 = .ok (.iadd, 1) := by decide +kernel
theorem dX1_tellNeighbour_47 : decode cX1_tellNeighbour 47 = .ok (.iastore, 1) := by decide +kernel
theorem dX1_tellNeighbour_48 : decode cX1_tellNeighbour 48 = .ok (.aload_n 0, 1) := by decide +kernel
theorem dX1_tellNeighbour_49 : decode cX1_tellNeighbour 49 = .ok (.getfield 29, 3) := by decide +kernel
theorem dX1_tellNeighbour_52 : decode cX1_tellNeighbour 52 = .ok (.iload_n 1, 1) := by decide +kernel
theorem dX1_tellNeighbour_53 : decode cX1_tellNeighbour 53 = .ok (.dup2, 1) := by decide +kernel
theorem dX1_tellNeighbour_54 : decode cX1_tellNeighbour 54 = .ok (.iaload, 1) := by decide +kernel
theorem dX1_tellNeighbour_55 : decode cX1_tellNeighbour 55 = .ok (.iload_n 3, 1) := by decide +kernel
theorem dX1_tellNeighbour_56 : decode cX1_tellNeighbour 56 = .ok (.iadd, 1) := by decide +kernel
theorem dX1_tellNeighbour_57 : decode cX1_tellNeighbour 57 = .ok (.iastore, 1) := by decide +kernel
theorem dX1_tellNeighbour_58 : decode cX1_tellNeighbour 58 = .ok (.return_, 1) := by decide +kernel
theorem dX2_init_0 : decode cX2_init 0 = .ok (.aload_n 0, 1) := by decide +kernel
theorem dX2_init_1 : decode cX2_init 1 = .ok (.invokespecial 3, 3) := by decide +kernel
theorem dX2_init_4 : decode cX2_init 4 = .ok (.aload_n 0, 1) := by decide +kernel
theorem dX2_init_5 : decode cX2_init 5 = .ok (.bipush 20, 2) := by decide +kernel
theorem dX2_init_7 : decode cX2_init 7 = .ok (.newarray .long, 2) := by decide +kernel
theorem dX2_init_9 : decode cX2_init 9 = .ok (.putfield 11, 3) := by decide +kernel
theorem dX2_init_12 : decode cX2_init 12 = .ok (.aload_n 0, 1) := by decide +kernel
theorem dX2_init_13 : decode cX2_init 13 = .ok (.bipush 20, 2) := by decide +kernel
theorem dX2_init_15 : decode cX2_init 15 = .ok (.newarray .int, 2) := by decide +kernel
theorem dX2_init_17 : decode cX2_init 17 = .ok (.putfield 15, 3) := by decide +kernel
theorem dX2_init_20 : decode cX2_init 20 = .ok (.aload_n 0, 1) := by decide +kernel
theorem dX2_init_21 : decode cX2_init 21 = .ok (.bipush 20, 2) := by decide +kernel
theorem dX2_init_23 : decode cX2_init 23 = .ok (.newarray .int, 2) := by decide +kernel
theorem dX2_init_25 : decode cX2_init 25 = .ok (.putfield 19, 3) := by decide +kernel
theorem dX2_init_28 : decode cX2_init 28 = .ok (.aload_n 0, 1) := by decide +kernel
theorem dX2_init_29 : decode cX2_init 29 = .ok (.iconst 0, 1) := by decide +kernel
theorem dX2_init_30 : decode cX2_init 30 = .ok (.putfield 22, 3) := by decide +kernel
theorem dX2_init_33 : decode cX2_init 33 = .ok (.return_, 1) := by decide +kernel
theorem dX2_clear_0 : decode cX2_clear 0 = .ok (.aload_n 0, 1) := by decide +kernel
theorem dX2_clear_1 : decode cX2_clear 1 = .ok (.iconst 0, 1) := by decide +kernel
theorem dX2_clear_2 : decode cX2_clear 2 = .ok (.putfield 22, 3) := by decide +kernel
theorem dX2_clear_5 : decode cX2_clear 5 = .ok (.return_, 1) := by decide +kernel
theorem dX2_add_0 : decode cX2_add 0 = .ok (.aload_n 0, 1) := by decide +kernel
theorem dX2_add_1 : decode cX2_add 1 = .ok (.getfield 22, 3) := by decide +kernel
theorem dX2_add_4 : decode cX2_add 4 = .ok (.bipush 20, 2) := by decide +kernel
theorem dX2_add_6 : decode cX2_add 6 = .ok (.if_icmp .ge 44, 3) := by decide +kernel
theorem dX2_add_9 : decode cX2_add 9 = .ok (.aload_n 0, 1) := by decide +kernel
theorem dX2_add_10 : decode cX2_add 10 = .ok (.getfield 11, 3) := by decide +kernel
theorem dX2_add_13 : decode cX2_add 13 = .ok (.aload_n 0, 1) := by decide +kernel
theorem dX2_add_14 : decode cX2_add 14 = .ok (.getfield 22, 3) := by decide +kernel
theorem dX2_add_17 : decode cX2_add 17 = .ok (.lload_n 1, 1) := by decide +kernel
theorem dX2_add_18 : decode cX2_add 18 = .ok (.lastore, 1) := by decide +kernel
theorem dX2_add_19 : decode cX2_add 19 = .ok (.aload_n 0, 1) := by decide +kernel
theorem dX2_add_20 : decode cX2_add 20 = .ok (.getfield 15, 3) := by decide +kernel
theorem dX2_add_23 : decode cX2_add 23 = .ok (.aload_n 0, 1) := by decide +kernel
theorem dX2_add_24 : decode cX2_add 24 = .ok (.getfield 22, 3) := by decide +kernel
theorem dX2_add_27 : decode cX2_add 27 = .ok (.iload_n 3, 1) := by decide +kernel
theorem dX2_add_28 : decode cX2_add 28 = .ok (.iastore, 1) := by decide +kernel
theorem dX2_add_29 : decode cX2_add 29 = .ok (.aload_n 0, 1) := by decide +kernel
theorem dX2_add_30 : decode cX2_add 30 = .ok (.getfield 19, 3) := by decide +kernel
theorem dX2_add_33 : decode cX2_add 33 = .ok (.aload_n 0, 1) := by decide +kernel
theorem dX2_add_34 : decode cX2_add 34 = .ok (.getfield 22, 3) := by decide +kernel
theorem dX2_add_37 : decode cX2_add 37 = .ok (.iload 4, 2) := by decide +kernel
theorem dX2_add_39 : decode cX2_add 39 = .ok (.iastore, 1) := by decide +kernel
theorem dX2_add_40 : decode cX2_add 40 = .ok (.aload_n 0, 1) := by decide +kernel
theorem dX2_add_41 : decode cX2_add 41 = .ok (.dup, 1) := by decide +kernel
theorem dX2_add_42 : decode cX2_add 42 = .ok (.getfield 22, 3) := by decide +kernel
theorem dX2_add_45 : decode cX2_add 45 = .ok (.iconst 1, 1) := by decide +kernel
theorem dX2_add_46 : decode cX2_add 46 = .ok (.iadd, 1) := by decide +kernel
theorem dX2_add_47 : decode cX2_add 47 = .ok (.putfield 22, 3) := by decide +kernel
theorem dX2_add_50 : decode cX2_add 50 = .ok (.return_, 1) := by decide +kernel
theorem dX2_find_0 : decode cX2_find 0 = .ok (.iconst 0, 1) := by decide +kernel
theorem dX2_find_1 : decode cX2_find 1 = .ok (.istore_n 2, 1) := by decide +kernel
theorem dX2_find_2 : decode cX2_find 2 = .ok (.iload_n 2, 1) := by decide +kernel
theorem dX2_find_3 : decode cX2_find 3 = .ok (.aload_n 0, 1) := by decide +kernel
theorem dX2_find_4 : decode cX2_find 4 = .ok (.getfield 22, 3) := by decide +kernel
theorem dX2_find_7 : decode cX2_find 7 = .ok (.if_icmp .ge 20, 3) := by decide +kernel
theorem dX2_find_10 : decode cX2_find 10 = .ok (.aload_n 0, 1) := by decide +kernel
theorem dX2_find_11 : decode cX2_find 11 = .ok (.iload_n 2, 1) := by decide +kernel
theorem dX2_find_12 : decode cX2_find 12 = .ok (.invokevirtual 26, 3) := by decide +kernel
theorem dX2_find_15 : decode cX2_find 15 = .ok (.iload_n 1, 1) := by decide +kernel
theorem dX2_find_16 : decode cX2_find 16 = .ok (.if_icmp .ne 5, 3) := by decide +kernel
theorem dX2_find_19 : decode cX2_find 19 = .ok (.iload_n 2, 1) := by decide +kernel
theorem dX2_find_20 : decode cX2_find 20 = .ok (.ireturn, 1) := by decide +kernel
theorem dX2_find_21 : decode cX2_find 21 = .ok (.iinc 2 1, 3) := by decide +kernel
theorem dX2_find_24 : decode cX2_find 24 = .ok (.goto (-22), 3) := by decide +kernel
theorem dX2_find_27 : decode cX2_find 27 = .ok (.iconst (-1), 1) := by decide +kernel
theorem dX2_find_28 : decode cX2_find 28 = .ok (.ireturn, 1) := by decide +kernel
theorem dX2_worthAt_0 : decode cX2_worthAt 0 = .ok (.aload_n 0, 1) := by decide +kernel
theorem dX2_worthAt_1 : decode cX2_worthAt 1 = .ok (.getfield 11, 3) := by decide +kernel
theorem dX2_worthAt_4 : decode cX2_worthAt 4 = .ok (.iload_n 1, 1) := by decide +kernel
theorem dX2_worthAt_5 : decode cX2_worthAt 5 = .ok (.laload, 1) := by decide +kernel
theorem dX2_worthAt_6 : decode cX2_worthAt 6 = .ok (.lreturn, 1) := by decide +kernel
theorem dX2_bookAt_0 : decode cX2_bookAt 0 = .ok (.aload_n 0, 1) := by decide +kernel
theorem dX2_bookAt_1 : decode cX2_bookAt 1 = .ok (.getfield 15, 3) := by decide +kernel
theorem dX2_bookAt_4 : decode cX2_bookAt 4 = .ok (.iload_n 1, 1) := by decide +kernel
theorem dX2_bookAt_5 : decode cX2_bookAt 5 = .ok (.iaload, 1) := by decide +kernel
theorem dX2_bookAt_6 : decode cX2_bookAt 6 = .ok (.ireturn, 1) := by decide +kernel
theorem dX2_readerAt_0 : decode cX2_readerAt 0 = .ok (.aload_n 0, 1) := by decide +kernel
theorem dX2_readerAt_1 : decode cX2_readerAt 1 = .ok (.getfield 19, 3) := by decide +kernel
theorem dX2_readerAt_4 : decode cX2_readerAt 4 = .ok (.iload_n 1, 1) := by decide +kernel
theorem dX2_readerAt_5 : decode cX2_readerAt 5 = .ok (.iaload, 1) := by decide +kernel
theorem dX2_readerAt_6 : decode cX2_readerAt 6 = .ok (.ireturn, 1) := by decide +kernel
theorem dX2_countAhead_0 : decode cX2_countAhead 0 = .ok (.iconst 0, 1) := by decide +kernel
theorem dX2_countAhead_1 : decode cX2_countAhead 1 = .ok (.istore_n 2, 1) := by decide +kernel
theorem dX2_countAhead_2 : decode cX2_countAhead 2 = .ok (.iconst 0, 1) := by decide +kernel
theorem dX2_countAhead_3 : decode cX2_countAhead 3 = .ok (.istore_n 3, 1) := by decide +kernel
theorem dX2_countAhead_4 : decode cX2_countAhead 4 = .ok (.iload_n 3, 1) := by decide +kernel
theorem dX2_countAhead_5 : decode cX2_countAhead 5 = .ok (.aload_n 0, 1) := by decide +kernel
theorem dX2_countAhead_6 : decode cX2_countAhead 6 = .ok (.getfield 22, 3) := by decide +kernel
theorem dX2_countAhead_9 : decode cX2_countAhead 9 = .ok (.if_icmp .ge 49, 3) := by decide +kernel
theorem dX2_countAhead_12 : decode cX2_countAhead 12 = .ok (.aload_n 0, 1) := by decide +kernel
theorem dX2_countAhead_13 : decode cX2_countAhead 13 = .ok (.getfield 11, 3) := by decide +kernel
theorem dX2_countAhead_16 : decode cX2_countAhead 16 = .ok (.iload_n 3, 1) := by decide +kernel
theorem dX2_countAhead_17 : decode cX2_countAhead 17 = .ok (.laload, 1) := by decide +kernel
theorem dX2_countAhead_18 : decode cX2_countAhead 18 = .ok (.aload_n 0, 1) := by decide +kernel
theorem dX2_countAhead_19 : decode cX2_countAhead 19 = .ok (.getfield 11, 3) := by decide +kernel
theorem dX2_countAhead_22 : decode cX2_countAhead 22 = .ok (.iload_n 1, 1) := by decide +kernel
theorem dX2_countAhead_23 : decode cX2_countAhead 23 = .ok (.laload, 1) := by decide +kernel
theorem dX2_countAhead_24 : decode cX2_countAhead 24 = .ok (.lcmp, 1) := by decide +kernel
theorem dX2_countAhead_25 : decode cX2_countAhead 25 = .ok (.ifCond .gt 24, 3) := by decide +kernel
theorem dX2_countAhead_28 : decode cX2_countAhead 28 = .ok (.aload_n 0, 1) := by decide +kernel
theorem dX2_countAhead_29 : decode cX2_countAhead 29 = .ok (.getfield 11, 3) := by decide +kernel
theorem dX2_countAhead_32 : decode cX2_countAhead 32 = .ok (.iload_n 3, 1) := by decide +kernel
theorem dX2_countAhead_33 : decode cX2_countAhead 33 = .ok (.laload, 1) := by decide +kernel
theorem dX2_countAhead_34 : decode cX2_countAhead 34 = .ok (.aload_n 0, 1) := by decide +kernel
theorem dX2_countAhead_35 : decode cX2_countAhead 35 = .ok (.getfield 11, 3) := by decide +kernel
theorem dX2_countAhead_38 : decode cX2_countAhead 38 = .ok (.iload_n 1, 1) := by decide +kernel
theorem dX2_countAhead_39 : decode cX2_countAhead 39 = .ok (.laload, 1) := by decide +kernel
theorem dX2_countAhead_40 : decode cX2_countAhead 40 = .ok (.lcmp, 1) := by decide +kernel
theorem dX2_countAhead_41 : decode cX2_countAhead 41 = .ok (.ifCond .ne 11, 3) := by decide +kernel
theorem dX2_countAhead_44 : decode cX2_countAhead 44 = .ok (.iload_n 3, 1) := by decide +kernel
theorem dX2_countAhead_45 : decode cX2_countAhead 45 = .ok (.iload_n 1, 1) := by decide +kernel
theorem dX2_countAhead_46 : decode cX2_countAhead 46 = .ok (.if_icmp .ge 6, 3) := by decide +kernel
theorem dX2_countAhead_49 : decode cX2_countAhead 49 = .ok (.iinc 2 1, 3) := by decide +kernel
theorem dX2_countAhead_52 : decode cX2_countAhead 52 = .ok (.iinc 3 1, 3) := by decide +kernel
theorem dX2_countAhead_55 : decode cX2_countAhead 55 = .ok (.goto (-51), 3) := by decide +kernel
theorem dX2_countAhead_58 : decode cX2_countAhead 58 = .ok (.iload_n 2, 1) := by decide +kernel
theorem dX2_countAhead_59 : decode cX2_countAhead 59 = .ok (.ireturn, 1) := by decide +kernel
theorem dX3_init_0 : decode cX3_init 0 = .ok (.aload_n 0, 1) := by decide +kernel
theorem dX3_init_1 : decode cX3_init 1 = .ok (.invokespecial 3, 3) := by decide +kernel
theorem dX3_init_4 : decode cX3_init 4 = .ok (.aload_n 0, 1) := by decide +kernel
theorem dX3_init_5 : decode cX3_init 5 = .ok (.bipush 9, 2) := by decide +kernel
theorem dX3_init_7 : decode cX3_init 7 = .ok (.newarray .long, 2) := by decide +kernel
theorem dX3_init_9 : decode cX3_init 9 = .ok (.putfield 9, 3) := by decide +kernel
theorem dX3_init_12 : decode cX3_init 12 = .ok (.aload_n 0, 1) := by decide +kernel
theorem dX3_init_13 : decode cX3_init 13 = .ok (.bipush 9, 2) := by decide +kernel
theorem dX3_init_15 : decode cX3_init 15 = .ok (.newarray .long, 2) := by decide +kernel
theorem dX3_init_17 : decode cX3_init 17 = .ok (.putfield 15, 3) := by decide +kernel
theorem dX3_init_20 : decode cX3_init 20 = .ok (.aload_n 0, 1) := by decide +kernel
theorem dX3_init_21 : decode cX3_init 21 = .ok (.bipush 9, 2) := by decide +kernel
theorem dX3_init_23 : decode cX3_init 23 = .ok (.bipush 9, 2) := by decide +kernel
theorem dX3_init_25 : decode cX3_init 25 = .ok (.multianewarray 18 2, 4) := by decide +kernel
theorem dX3_init_29 : decode cX3_init 29 = .ok (.putfield 20, 3) := by decide +kernel
theorem dX3_init_32 : decode cX3_init 32 = .ok (.aload_n 0, 1) := by decide +kernel
theorem dX3_init_33 : decode cX3_init 33 = .ok (.iconst 0, 1) := by decide +kernel
theorem dX3_init_34 : decode cX3_init 34 = .ok (.putfield 23, 3) := by decide +kernel
theorem dX3_init_37 : decode cX3_init 37 = .ok (.aload_n 0, 1) := by decide +kernel
theorem dX3_init_38 : decode cX3_init 38 = .ok (.iload_n 1, 1) := by decide +kernel
theorem dX3_init_39 : decode cX3_init 39 = .ok (.putfield 27, 3) := by decide +kernel
theorem dX3_init_42 : decode cX3_init 42 = .ok (.return_, 1) := by decide +kernel
theorem dX3_landedAt_0 : decode cX3_landedAt 0 = .ok (.aload_n 0, 1) := by decide +kernel
theorem dX3_landedAt_1 : decode cX3_landedAt 1 = .ok (.getfield 9, 3) := by decide +kernel
theorem dX3_landedAt_4 : decode cX3_landedAt 4 = .ok (.iload_n 1, 1) := by decide +kernel
theorem dX3_landedAt_5 : decode cX3_landedAt 5 = .ok (.laload, 1) := by decide +kernel
theorem dX3_landedAt_6 : decode cX3_landedAt 6 = .ok (.lreturn, 1) := by decide +kernel
theorem dX3_restOf_0 : decode cX3_restOf 0 = .ok (.aload_n 0, 1) := by decide +kernel
theorem dX3_restOf_1 : decode cX3_restOf 1 = .ok (.getfield 15, 3) := by decide +kernel
theorem dX3_restOf_4 : decode cX3_restOf 4 = .ok (.iload_n 1, 1) := by decide +kernel
theorem dX3_restOf_5 : decode cX3_restOf 5 = .ok (.laload, 1) := by decide +kernel
theorem dX3_restOf_6 : decode cX3_restOf 6 = .ok (.lreturn, 1) := by decide +kernel
theorem dX3_sentTo_0 : decode cX3_sentTo 0 = .ok (.aload_n 0, 1) := by decide +kernel
theorem dX3_sentTo_1 : decode cX3_sentTo 1 = .ok (.getfield 20, 3) := by decide +kernel
theorem dX3_sentTo_4 : decode cX3_sentTo 4 = .ok (.iload_n 1, 1) := by decide +kernel
theorem dX3_sentTo_5 : decode cX3_sentTo 5 = .ok (.aaload, 1) := by decide +kernel
theorem dX3_sentTo_6 : decode cX3_sentTo 6 = .ok (.iload_n 2, 1) := by decide +kernel
theorem dX3_sentTo_7 : decode cX3_sentTo 7 = .ok (.laload, 1) := by decide +kernel
theorem dX3_sentTo_8 : decode cX3_sentTo 8 = .ok (.lreturn, 1) := by decide +kernel
theorem dX3_pushCount_0 : decode cX3_pushCount 0 = .ok (.aload_n 0, 1) := by decide +kernel
theorem dX3_pushCount_1 : decode cX3_pushCount 1 = .ok (.getfield 23, 3) := by decide +kernel
theorem dX3_pushCount_4 : decode cX3_pushCount 4 = .ok (.ireturn, 1) := by decide +kernel
theorem dX3_begin_0 : decode cX3_begin 0 = .ok (.iconst 0, 1) := by decide +kernel
theorem dX3_begin_1 : decode cX3_begin 1 = .ok (.istore_n 1, 1) := by decide +kernel
theorem dX3_begin_2 : decode cX3_begin 2 = .ok (.iload_n 1, 1) := by decide +kernel
theorem dX3_begin_3 : decode cX3_begin 3 = .ok (.bipush 9, 2) := by decide +kernel
theorem dX3_begin_5 : decode cX3_begin 5 = .ok (.if_icmp .ge 46, 3) := by decide +kernel
theorem dX3_begin_8 : decode cX3_begin 8 = .ok (.aload_n 0, 1) := by decide +kernel
theorem dX3_begin_9 : decode cX3_begin 9 = .ok (.getfield 9, 3) := by decide +kernel
theorem dX3_begin_12 : decode cX3_begin 12 = .ok (.iload_n 1, 1) := by decide +kernel
theorem dX3_begin_13 : decode cX3_begin 13 = .ok (.lconst 0, 1) := by decide +kernel
theorem dX3_begin_14 : decode cX3_begin 14 = .ok (.lastore, 1) := by decide +kernel
theorem dX3_begin_15 : decode cX3_begin 15 = .ok (.aload_n 0, 1) := by decide +kernel
theorem dX3_begin_16 : decode cX3_begin 16 = .ok (.getfield 15, 3) := by decide +kernel
theorem dX3_begin_19 : decode cX3_begin 19 = .ok (.iload_n 1, 1) := by decide +kernel
theorem dX3_begin_20 : decode cX3_begin 20 = .ok (.lconst 0, 1) := by decide +kernel
theorem dX3_begin_21 : decode cX3_begin 21 = .ok (.lastore, 1) := by decide +kernel
theorem dX3_begin_22 : decode cX3_begin 22 = .ok (.iconst 0, 1) := by decide +kernel
theorem dX3_begin_23 : decode cX3_begin 23 = .ok (.istore_n 2, 1) := by decide +kernel
theorem dX3_begin_24 : decode cX3_begin 24 = .ok (.iload_n 2, 1) := by decide +kernel
theorem dX3_begin_25 : decode cX3_begin 25 = .ok (.bipush 9, 2) := by decide +kernel
theorem dX3_begin_27 : decode cX3_begin 27 = .ok (.if_icmp .ge 18, 3) := by decide +kernel
theorem dX3_begin_30 : decode cX3_begin 30 = .ok (.aload_n 0, 1) := by decide +kernel
theorem dX3_begin_31 : decode cX3_begin 31 = .ok (.getfield 20, 3) := by decide +kernel
theorem dX3_begin_34 : decode cX3_begin 34 = .ok (.iload_n 1, 1) := by decide +kernel
theorem dX3_begin_35 : decode cX3_begin 35 = .ok (.aaload, 1) := by decide +kernel
theorem dX3_begin_36 : decode cX3_begin 36 = .ok (.iload_n 2, 1) := by decide +kernel
theorem dX3_begin_37 : decode cX3_begin 37 = .ok (.lconst 0, 1) := by decide +kernel
theorem dX3_begin_38 : decode cX3_begin 38 = .ok (.lastore, 1) := by decide +kernel
theorem dX3_begin_39 : decode cX3_begin 39 = .ok (.iinc 2 1, 3) := by decide +kernel
theorem dX3_begin_42 : decode cX3_begin 42 = .ok (.goto (-18), 3) := by decide +kernel
theorem dX3_begin_45 : decode cX3_begin 45 = .ok (.iinc 1 1, 3) := by decide +kernel
theorem dX3_begin_48 : decode cX3_begin 48 = .ok (.goto (-46), 3) := by decide +kernel
theorem dX3_begin_51 : decode cX3_begin 51 = .ok (.aload_n 0, 1) := by decide +kernel
theorem dX3_begin_52 : decode cX3_begin 52 = .ok (.getfield 15, 3) := by decide +kernel
theorem dX3_begin_55 : decode cX3_begin 55 = .ok (.aload_n 0, 1) := by decide +kernel
theorem dX3_begin_56 : decode cX3_begin 56 = .ok (.getfield 27, 3) := by decide +kernel
theorem dX3_begin_59 : decode cX3_begin 59 = .ok (.ldc2_w 30, 3) := by decide +kernel
theorem dX3_begin_62 : decode cX3_begin 62 = .ok (.lastore, 1) := by decide +kernel
theorem dX3_begin_63 : decode cX3_begin 63 = .ok (.return_, 1) := by decide +kernel
theorem dX3_settle_0 : decode cX3_settle 0 = .ok (.aload_n 0, 1) := by decide +kernel
theorem dX3_settle_1 : decode cX3_settle 1 = .ok (.iload_n 3, 1) := by decide +kernel
theorem dX3_settle_2 : decode cX3_settle 2 = .ok (.invokevirtual 32, 3) := by decide +kernel
theorem dX3_settle_5 : decode cX3_settle 5 = .ok (.istore 4, 2) := by decide +kernel
theorem dX3_settle_7 : decode cX3_settle 7 = .ok (.iconst 0, 1) := by decide +kernel
theorem dX3_settle_8 : decode cX3_settle 8 = .ok (.istore 5, 2) := by decide +kernel
theorem dX3_settle_10 : decode cX3_settle 10 = .ok (.iload 5, 2) := by decide +kernel
theorem dX3_settle_12 : decode cX3_settle 12 = .ok (.ldc 36, 2) := by decide +kernel
theorem dX3_settle_14 : decode cX3_settle 14 = .ok (.if_icmp .ge 30, 3) := by decide +kernel
theorem dX3_settle_17 : decode cX3_settle 17 = .ok (.iload 4, 2) := by decide +kernel
theorem dX3_settle_19 : decode cX3_settle 19 = .ok (.iconst (-1), 1) := by decide +kernel
theorem dX3_settle_20 : decode cX3_settle 20 = .ok (.if_icmp .eq 24, 3) := by decide +kernel
theorem dX3_settle_23 : decode cX3_settle 23 = .ok (.aload_n 0, 1) := by decide +kernel
theorem dX3_settle_24 : decode cX3_settle 24 = .ok (.aload_n 1, 1) := by decide +kernel
theorem dX3_settle_25 : decode cX3_settle 25 = .ok (.iload 4, 2) := by decide +kernel
theorem dX3_settle_27 : decode cX3_settle 27 = .ok (.iload_n 2, 1) := by decide +kernel
theorem dX3_settle_28 : decode cX3_settle 28 = .ok (.invokevirtual 37, 3) := by decide +kernel
theorem dX3_settle_31 : decode cX3_settle 31 = .ok (.aload_n 0, 1) := by decide +kernel
theorem dX3_settle_32 : decode cX3_settle 32 = .ok (.iload_n 3, 1) := by decide +kernel
theorem dX3_settle_33 : decode cX3_settle 33 = .ok (.invokevirtual 32, 3) := by decide +kernel
theorem dX3_settle_36 : decode cX3_settle 36 = .ok (.istore 4, 2) := by decide +kernel
theorem dX3_settle_38 : decode cX3_settle 38 = .ok (.iinc 5 1, 3) := by decide +kernel
theorem dX3_settle_41 : decode cX3_settle 41 = .ok (.goto (-31), 3) := by decide +kernel
theorem dX3_settle_44 : decode cX3_settle 44 = .ok (.return_, 1) := by decide +kernel
theorem dX3_mend_0 : decode cX3_mend 0 = .ok (.iconst 0, 1) := by decide +kernel
theorem dX3_mend_1 : decode cX3_mend 1 = .ok (.istore_n 2, 1) := by decide +kernel
theorem dX3_mend_2 : decode cX3_mend 2 = .ok (.iload_n 2, 1) := by decide +kernel
theorem dX3_mend_3 : decode cX3_mend 3 = .ok (.bipush 9, 2) := by decide +kernel
theorem dX3_mend_5 : decode cX3_mend 5 = .ok (.if_icmp .ge 20, 3) := by decide +kernel
theorem dX3_mend_8 : decode cX3_mend 8 = .ok (.aload_n 0, 1) := by decide +kernel
theorem dX3_mend_9 : decode cX3_mend 9 = .ok (.aload_n 1, 1) := by decide +kernel
theorem dX3_mend_10 : decode cX3_mend 10 = .ok (.iload_n 2, 1) := by decide +kernel
theorem dX3_mend_11 : decode cX3_mend 11 = .ok (.aload_n 0, 1) := by decide +kernel
theorem dX3_mend_12 : decode cX3_mend 12 = .ok (.iload_n 2, 1) := by decide +kernel
theorem dX3_mend_13 : decode cX3_mend 13 = .ok (.invokevirtual 41, 3) := by decide +kernel
theorem dX3_mend_16 : decode cX3_mend 16 = .ok (.invokevirtual 45, 3) := by decide +kernel
theorem dX3_mend_19 : decode cX3_mend 19 = .ok (.iinc 2 1, 3) := by decide +kernel
theorem dX3_mend_22 : decode cX3_mend 22 = .ok (.goto (-20), 3) := by decide +kernel
theorem dX3_mend_25 : decode cX3_mend 25 = .ok (.return_, 1) := by decide +kernel
theorem dX3_lowestUnsettled_0 : decode cX3_lowestUnsettled 0 = .ok (.iconst 0, 1) := by decide +kernel
theorem dX3_lowestUnsettled_1 : decode cX3_lowestUnsettled 1 = .ok (.istore_n 2, 1) := by decide +kernel
theorem dX3_lowestUnsettled_2 : decode cX3_lowestUnsettled 2 = .ok (.iload_n 2, 1) := by decide +kernel
theorem dX3_lowestUnsettled_3 : decode cX3_lowestUnsettled 3 = .ok (.bipush 9, 2) := by decide +kernel
theorem dX3_lowestUnsettled_5 : decode cX3_lowestUnsettled 5 = .ok (.if_icmp .ge 36, 3) := by decide +kernel
theorem dX3_lowestUnsettled_8 : decode cX3_lowestUnsettled 8 = .ok (.aload_n 0, 1) := by decide +kernel
theorem dX3_lowestUnsettled_9 : decode cX3_lowestUnsettled 9 = .ok (.getfield 15, 3) := by decide +kernel
theorem dX3_lowestUnsettled_12 : decode cX3_lowestUnsettled 12 = .ok (.iload_n 2, 1) := by decide +kernel
theorem dX3_lowestUnsettled_13 : decode cX3_lowestUnsettled 13 = .ok (.laload, 1) := by decide +kernel
theorem dX3_lowestUnsettled_14 : decode cX3_lowestUnsettled 14 = .ok (.iload_n 1, 1) := by decide +kernel
theorem dX3_lowestUnsettled_15 : decode cX3_lowestUnsettled 15 = .ok (.i2l, 1) := by decide +kernel
theorem dX3_lowestUnsettled_16 : decode cX3_lowestUnsettled 16 = .ok (.lcmp, 1) := by decide +kernel
theorem dX3_lowestUnsettled_17 : decode cX3_lowestUnsettled 17 = .ok (.ifCond .ge 16, 3) := by decide +kernel
theorem dX3_lowestUnsettled_20 : decode cX3_lowestUnsettled 20 = .ok (.aload_n 0, 1) := by decide +kernel
theorem dX3_lowestUnsettled_21 : decode cX3_lowestUnsettled 21 = .ok (.getfield 15, 3) := by decide +kernel
theorem dX3_lowestUnsettled_24 : decode cX3_lowestUnsettled 24 = .ok (.iload_n 2, 1) := by decide +kernel
theorem dX3_lowestUnsettled_25 : decode cX3_lowestUnsettled 25 = .ok (.laload, 1) := by decide +kernel
theorem dX3_lowestUnsettled_26 : decode cX3_lowestUnsettled 26 = .ok (.iload_n 1, 1) := by decide +kernel
theorem dX3_lowestUnsettled_27 : decode cX3_lowestUnsettled 27 = .ok (.ineg, 1) := by decide +kernel
theorem dX3_lowestUnsettled_28 : decode cX3_lowestUnsettled 28 = .ok (.i2l, 1) := by decide +kernel
theorem dX3_lowestUnsettled_29 : decode cX3_lowestUnsettled 29 = .ok (.lcmp, 1) := by decide +kernel
theorem dX3_lowestUnsettled_30 : decode cX3_lowestUnsettled 30 = .ok (.ifCond .gt 5, 3) := by decide +kernel
theorem dX3_lowestUnsettled_33 : decode cX3_lowestUnsettled 33 = .ok (.iload_n 2, 1) := by decide +kernel
theorem dX3_lowestUnsettled_34 : decode cX3_lowestUnsettled 34 = .ok (.ireturn, 1) := by decide +kernel
theorem dX3_lowestUnsettled_35 : decode cX3_lowestUnsettled 35 = .ok (.iinc 2 1, 3) := by decide +kernel
theorem dX3_lowestUnsettled_38 : decode cX3_lowestUnsettled 38 = .ok (.goto (-36), 3) := by decide +kernel
theorem dX3_lowestUnsettled_41 : decode cX3_lowestUnsettled 41 = .ok (.iconst (-1), 1) := by decide +kernel
theorem dX3_lowestUnsettled_42 : decode cX3_lowestUnsettled 42 = .ok (.ireturn, 1) := by decide +kernel
theorem dX3_push_0 : decode cX3_push 0 = .ok (.aload_n 0, 1) := by decide +kernel
theorem dX3_push_1 : decode cX3_push 1 = .ok (.getfield 15, 3) := by decide +kernel
theorem dX3_push_4 : decode cX3_push 4 = .ok (.iload_n 2, 1) := by decide +kernel
theorem dX3_push_5 : decode cX3_push 5 = .ok (.laload, 1) := by decide +kernel
theorem dX3_push_6 : decode cX3_push 6 = .ok (.lstore 4, 2) := by decide +kernel
theorem dX3_push_8 : decode cX3_push 8 = .ok (.lload 4, 2) := by decide +kernel
theorem dX3_push_10 : decode cX3_push 10 = .ok (.bipush 100, 2) := by decide +kernel
theorem dX3_push_12 : decode cX3_push 12 = .ok (.iload_n 3, 1) := by decide +kernel
theorem dX3_push_13 : decode cX3_push 13 = .ok (.isub, 1) := by decide +kernel
theorem dX3_push_14 : decode cX3_push 14 = .ok (.i2l, 1) := by decide +kernel
theorem dX3_push_15 : decode cX3_push 15 = .ok (.lmul, 1) := by decide +kernel
theorem dX3_push_16 : decode cX3_push 16 = .ok (.ldc2_w 49, 3) := by decide +kernel
theorem dX3_push_19 : decode cX3_push 19 = .ok (.ldiv, 1) := by decide +kernel
theorem dX3_push_20 : decode cX3_push 20 = .ok (.lstore 6, 2) := by decide +kernel
theorem dX3_push_22 : decode cX3_push 22 = .ok (.aload_n 0, 1) := by decide +kernel
theorem dX3_push_23 : decode cX3_push 23 = .ok (.getfield 15, 3) := by decide +kernel
theorem dX3_push_26 : decode cX3_push 26 = .ok (.iload_n 2, 1) := by decide +kernel
theorem dX3_push_27 : decode cX3_push 27 = .ok (.lconst 0, 1) := by decide +kernel
theorem dX3_push_28 : decode cX3_push 28 = .ok (.lastore, 1) := by decide +kernel
theorem dX3_push_29 : decode cX3_push 29 = .ok (.aload_n 0, 1) := by decide +kernel
theorem dX3_push_30 : decode cX3_push 30 = .ok (.getfield 9, 3) := by decide +kernel
theorem dX3_push_33 : decode cX3_push 33 = .ok (.iload_n 2, 1) := by decide +kernel
theorem dX3_push_34 : decode cX3_push 34 = .ok (.dup2, 1) := by decide +kernel
theorem dX3_push_35 : decode cX3_push 35 = .ok (.laload, 1) := by decide +kernel
theorem dX3_push_36 : decode cX3_push 36 = .ok (.lload 6, 2) := by decide +kernel
theorem dX3_push_38 : decode cX3_push 38 = .ok (.ladd, 1) := by decide +kernel
theorem dX3_push_39 : decode cX3_push 39 = .ok (.lastore, 1) := by decide +kernel
theorem dX3_push_40 : decode cX3_push 40 = .ok (.aload_n 0, 1) := by decide +kernel
theorem dX3_push_41 : decode cX3_push 41 = .ok (.aload_n 1, 1) := by decide +kernel
theorem dX3_push_42 : decode cX3_push 42 = .ok (.iload_n 2, 1) := by decide +kernel
theorem dX3_push_43 : decode cX3_push 43 = .ok (.lload 4, 2) := by decide +kernel
theorem dX3_push_45 : decode cX3_push 45 = .ok (.lload 6, 2) := by decide +kernel
theorem dX3_push_47 : decode cX3_push 47 = .ok (.lsub, 1) := by decide +kernel
theorem dX3_push_48 : decode cX3_push 48 = .ok (.invokevirtual 45, 3) := by decide +kernel
theorem dX3_push_51 : decode cX3_push 51 = .ok (.aload_n 0, 1) := by decide +kernel
theorem dX3_push_52 : decode cX3_push 52 = .ok (.dup, 1) := by decide +kernel
theorem dX3_push_53 : decode cX3_push 53 = .ok (.getfield 23, 3) := by decide +kernel
theorem dX3_push_56 : decode cX3_push 56 = .ok (.iconst 1, 1) := by decide +kernel
theorem dX3_push_57 : decode cX3_push 57 = .ok (.iadd, 1) := by decide +kernel
theorem dX3_push_58 : decode cX3_push 58 = .ok (.putfield 23, 3) := by decide +kernel
theorem dX3_push_61 : decode cX3_push 61 = .ok (.return_, 1) := by decide +kernel
theorem dX3_takeBack_0 : decode cX3_takeBack 0 = .ok (.lconst 0, 1) := by decide +kernel
theorem dX3_takeBack_1 : decode cX3_takeBack 1 = .ok (.lstore_n 2, 1) := by decide +kernel
theorem dX3_takeBack_2 : decode cX3_takeBack 2 = .ok (.iconst 0, 1) := by decide +kernel
theorem dX3_takeBack_3 : decode cX3_takeBack 3 = .ok (.istore 4, 2) := by decide +kernel
theorem dX3_takeBack_5 : decode cX3_takeBack 5 = .ok (.iload 4, 2) := by decide +kernel
theorem dX3_takeBack_7 : decode cX3_takeBack 7 = .ok (.bipush 9, 2) := by decide +kernel
theorem dX3_takeBack_9 : decode cX3_takeBack 9 = .ok (.if_icmp .ge 47, 3) := by decide +kernel
theorem dX3_takeBack_12 : decode cX3_takeBack 12 = .ok (.aload_n 0, 1) := by decide +kernel
theorem dX3_takeBack_13 : decode cX3_takeBack 13 = .ok (.getfield 20, 3) := by decide +kernel
theorem dX3_takeBack_16 : decode cX3_takeBack 16 = .ok (.iload_n 1, 1) := by decide +kernel
theorem dX3_takeBack_17 : decode cX3_takeBack 17 = .ok (.aaload, 1) := by decide +kernel
theorem dX3_takeBack_18 : decode cX3_takeBack 18 = .ok (.iload 4, 2) := by decide +kernel
theorem dX3_takeBack_20 : decode cX3_takeBack 20 = .ok (.laload, 1) := by decide +kernel
theorem dX3_takeBack_21 : decode cX3_takeBack 21 = .ok (.lstore 5, 2) := by decide +kernel
theorem dX3_takeBack_23 : decode cX3_takeBack 23 = .ok (.lload_n 2, 1) := by decide +kernel
theorem dX3_takeBack_24 : decode cX3_takeBack 24 = .ok (.lload 5, 2) := by decide +kernel
theorem dX3_takeBack_26 : decode cX3_takeBack 26 = .ok (.ladd, 1) := by decide +kernel
theorem dX3_takeBack_27 : decode cX3_takeBack 27 = .ok (.lstore_n 2, 1) := by decide +kernel
theorem dX3_takeBack_28 : decode cX3_takeBack 28 = .ok (.aload_n 0, 1) := by decide +kernel
theorem dX3_takeBack_29 : decode cX3_takeBack 29 = .ok (.getfield 15, 3) := by decide +kernel
theorem dX3_takeBack_32 : decode cX3_takeBack 32 = .ok (.iload 4, 2) := by decide +kernel
theorem dX3_takeBack_34 : decode cX3_takeBack 34 = .ok (.dup2, 1) := by decide +kernel
theorem dX3_takeBack_35 : decode cX3_takeBack 35 = .ok (.laload, 1) := by decide +kernel
theorem dX3_takeBack_36 : decode cX3_takeBack 36 = .ok (.lload 5, 2) := by decide +kernel
theorem dX3_takeBack_38 : decode cX3_takeBack 38 = .ok (.lsub, 1) := by decide +kernel
theorem dX3_takeBack_39 : decode cX3_takeBack 39 = .ok (.lastore, 1) := by decide +kernel
theorem dX3_takeBack_40 : decode cX3_takeBack 40 = .ok (.aload_n 0, 1) := by decide +kernel
theorem dX3_takeBack_41 : decode cX3_takeBack 41 = .ok (.getfield 20, 3) := by decide +kernel
theorem dX3_takeBack_44 : decode cX3_takeBack 44 = .ok (.iload_n 1, 1) := by decide +kernel
theorem dX3_takeBack_45 : decode cX3_takeBack 45 = .ok (.aaload, 1) := by decide +kernel
theorem dX3_takeBack_46 : decode cX3_takeBack 46 = .ok (.iload 4, 2) := by decide +kernel
theorem dX3_takeBack_48 : decode cX3_takeBack 48 = .ok (.lconst 0, 1) := by decide +kernel
theorem dX3_takeBack_49 : decode cX3_takeBack 49 = .ok (.lastore, 1) := by decide +kernel
theorem dX3_takeBack_50 : decode cX3_takeBack 50 = .ok (.iinc 4 1, 3) := by decide +kernel
theorem dX3_takeBack_53 : decode cX3_takeBack 53 = .ok (.goto (-48), 3) := by decide +kernel
theorem dX3_takeBack_56 : decode cX3_takeBack 56 = .ok (.lload_n 2, 1) := by decide +kernel
theorem dX3_takeBack_57 : decode cX3_takeBack 57 = .ok (.lreturn, 1) := by decide +kernel
theorem dX3_send_0 : decode cX3_send 0 = .ok (.aload_n 1, 1) := by decide +kernel
theorem dX3_send_1 : decode cX3_send 1 = .ok (.iload_n 2, 1) := by decide +kernel
theorem dX3_send_2 : decode cX3_send 2 = .ok (.invokevirtual 51, 3) := by decide +kernel
theorem dX3_send_5 : decode cX3_send 5 = .ok (.istore 5, 2) := by decide +kernel
theorem dX3_send_7 : decode cX3_send 7 = .ok (.aload_n 1, 1) := by decide +kernel
theorem dX3_send_8 : decode cX3_send 8 = .ok (.iload_n 2, 1) := by decide +kernel
theorem dX3_send_9 : decode cX3_send 9 = .ok (.invokevirtual 56, 3) := by decide +kernel
theorem dX3_send_12 : decode cX3_send 12 = .ok (.istore 6, 2) := by decide +kernel
theorem dX3_send_14 : decode cX3_send 14 = .ok (.iload 5, 2) := by decide +kernel
theorem dX3_send_16 : decode cX3_send 16 = .ok (.ifCond .eq 8, 3) := by decide +kernel
theorem dX3_send_19 : decode cX3_send 19 = .ok (.iload 6, 2) := by decide +kernel
theorem dX3_send_21 : decode cX3_send 21 = .ok (.ifCond .ne 14, 3) := by decide +kernel
theorem dX3_send_24 : decode cX3_send 24 = .ok (.aload_n 0, 1) := by decide +kernel
theorem dX3_send_25 : decode cX3_send 25 = .ok (.iload_n 2, 1) := by decide +kernel
theorem dX3_send_26 : decode cX3_send 26 = .ok (.aload_n 0, 1) := by decide +kernel
theorem dX3_send_27 : decode cX3_send 27 = .ok (.getfield 27, 3) := by decide +kernel
theorem dX3_send_30 : decode cX3_send 30 = .ok (.lload_n 3, 1) := by decide +kernel
theorem dX3_send_31 : decode cX3_send 31 = .ok (.invokevirtual 59, 3) := by decide +kernel
theorem dX3_send_34 : decode cX3_send 34 = .ok (.return_, 1) := by decide +kernel
theorem dX3_send_35 : decode cX3_send 35 = .ok (.lload_n 3, 1) := by decide +kernel
theorem dX3_send_36 : decode cX3_send 36 = .ok (.lstore 7, 2) := by decide +kernel
theorem dX3_send_38 : decode cX3_send 38 = .ok (.iconst 1, 1) := by decide +kernel
theorem dX3_send_39 : decode cX3_send 39 = .ok (.istore 9, 2) := by decide +kernel
theorem dX3_send_41 : decode cX3_send 41 = .ok (.iload 9, 2) := by decide +kernel
theorem dX3_send_43 : decode cX3_send 43 = .ok (.iload 5, 2) := by decide +kernel
theorem dX3_send_45 : decode cX3_send 45 = .ok (.if_icmp .ge 50, 3) := by decide +kernel
theorem dX3_send_48 : decode cX3_send 48 = .ok (.aload_n 1, 1) := by decide +kernel
theorem dX3_send_49 : decode cX3_send 49 = .ok (.iload_n 2, 1) := by decide +kernel
theorem dX3_send_50 : decode cX3_send 50 = .ok (.iload 9, 2) := by decide +kernel
theorem dX3_send_52 : decode cX3_send 52 = .ok (.invokevirtual 63, 3) := by decide +kernel
theorem dX3_send_55 : decode cX3_send 55 = .ok (.istore 10, 2) := by decide +kernel
theorem dX3_send_57 : decode cX3_send 57 = .ok (.lload_n 3, 1) := by decide +kernel
theorem dX3_send_58 : decode cX3_send 58 = .ok (.aload_n 1, 1) := by decide +kernel
theorem dX3_send_59 : decode cX3_send 59 = .ok (.iload_n 2, 1) := by decide +kernel
theorem dX3_send_60 : decode cX3_send 60 = .ok (.iload 10, 2) := by decide +kernel
theorem dX3_send_62 : decode cX3_send 62 = .ok (.invokevirtual 67, 3) := by decide +kernel
theorem dX3_send_65 : decode cX3_send 65 = .ok (.i2l, 1) := by decide +kernel
theorem dX3_send_66 : decode cX3_send 66 = .ok (.lmul, 1) := by decide +kernel
theorem dX3_send_67 : decode cX3_send 67 = .ok (.iload 6, 2) := by decide +kernel
theorem dX3_send_69 : decode cX3_send 69 = .ok (.i2l, 1) := by decide +kernel
theorem dX3_send_70 : decode cX3_send 70 = .ok (.ldiv, 1) := by decide +kernel
theorem dX3_send_71 : decode cX3_send 71 = .ok (.lstore 11, 2) := by decide +kernel
theorem dX3_send_73 : decode cX3_send 73 = .ok (.aload_n 0, 1) := by decide +kernel
theorem dX3_send_74 : decode cX3_send 74 = .ok (.iload_n 2, 1) := by decide +kernel
theorem dX3_send_75 : decode cX3_send 75 = .ok (.iload 10, 2) := by decide +kernel
theorem dX3_send_77 : decode cX3_send 77 = .ok (.lload 11, 2) := by decide +kernel
theorem dX3_send_79 : decode cX3_send 79 = .ok (.invokevirtual 59, 3) := by decide +kernel
theorem dX3_send_82 : decode cX3_send 82 = .ok (.lload 7, 2) := by decide +kernel
theorem dX3_send_84 : decode cX3_send 84 = .ok (.lload 11, 2) := by decide +kernel
theorem dX3_send_86 : decode cX3_send 86 = .ok (.lsub, 1) := by decide +kernel
theorem dX3_send_87 : decode cX3_send 87 = .ok (.lstore 7, 2) := by decide +kernel
theorem dX3_send_89 : decode cX3_send 89 = .ok (.iinc 9 1, 3) := by decide +kernel
theorem dX3_send_92 : decode cX3_send 92 = .ok (.goto (-51), 3) := by decide +kernel
theorem dX3_send_95 : decode cX3_send 95 = .ok (.aload_n 0, 1) := by decide +kernel
theorem dX3_send_96 : decode cX3_send 96 = .ok (.iload_n 2, 1) := by decide +kernel
theorem dX3_send_97 : decode cX3_send 97 = .ok (.aload_n 1, 1) := by decide +kernel
theorem dX3_send_98 : decode cX3_send 98 = .ok (.iload_n 2, 1) := by decide +kernel
theorem dX3_send_99 : decode cX3_send 99 = .ok (.iconst 0, 1) := by decide +kernel
theorem dX3_send_100 : decode cX3_send 100 = .ok (.invokevirtual 63, 3) := by decide +kernel
theorem dX3_send_103 : decode cX3_send 103 = .ok (.lload 7, 2) := by decide +kernel
theorem dX3_send_105 : decode cX3_send 105 = .ok (.invokevirtual 59, 3) := by decide +kernel
theorem dX3_send_108 : decode cX3_send 108 = .ok (.return_, 1) := by decide +kernel
theorem dX3_give_0 : decode cX3_give 0 = .ok (.aload_n 0, 1) := by decide +kernel
theorem dX3_give_1 : decode cX3_give 1 = .ok (.getfield 15, 3) := by decide +kernel
theorem dX3_give_4 : decode cX3_give 4 = .ok (.iload_n 2, 1) := by decide +kernel
theorem dX3_give_5 : decode cX3_give 5 = .ok (.dup2, 1) := by decide +kernel
theorem dX3_give_6 : decode cX3_give 6 = .ok (.laload, 1) := by decide +kernel
theorem dX3_give_7 : decode cX3_give 7 = .ok (.lload_n 3, 1) := by decide +kernel
theorem dX3_give_8 : decode cX3_give 8 = .ok (.ladd, 1) := by decide +kernel
theorem dX3_give_9 : decode cX3_give 9 = .ok (.lastore, 1) := by decide +kernel
theorem dX3_give_10 : decode cX3_give 10 = .ok (.aload_n 0, 1) := by decide +kernel
theorem dX3_give_11 : decode cX3_give 11 = .ok (.getfield 20, 3) := by decide +kernel
theorem dX3_give_14 : decode cX3_give 14 = .ok (.iload_n 1, 1) := by decide +kernel
theorem dX3_give_15 : decode cX3_give 15 = .ok (.aaload, 1) := by decide +kernel
theorem dX3_give_16 : decode cX3_give 16 = .ok (.iload_n 2, 1) := by decide +kernel
theorem dX3_give_17 : decode cX3_give 17 = .ok (.dup2, 1) := by decide +kernel
theorem dX3_give_18 : decode cX3_give 18 = .ok (.laload, 1) := by decide +kernel
theorem dX3_give_19 : decode cX3_give 19 = .ok (.lload_n 3, 1) := by decide +kernel
theorem dX3_give_20 : decode cX3_give 20 = .ok (.ladd, 1) := by decide +kernel
theorem dX3_give_21 : decode cX3_give 21 = .ok (.lastore, 1) := by decide +kernel
theorem dX3_give_22 : decode cX3_give 22 = .ok (.return_, 1) := by decide +kernel
theorem dX4_init_0 : decode cX4_init 0 = .ok (.aload_n 0, 1) := by decide +kernel
theorem dX4_init_1 : decode cX4_init 1 = .ok (.invokespecial 3, 3) := by decide +kernel
theorem dX4_init_4 : decode cX4_init 4 = .ok (.aload_n 0, 1) := by decide +kernel
theorem dX4_init_5 : decode cX4_init 5 = .ok (.new 9, 3) := by decide +kernel
theorem dX4_init_8 : decode cX4_init 8 = .ok (.dup, 1) := by decide +kernel
theorem dX4_init_9 : decode cX4_init 9 = .ok (.invokespecial 11, 3) := by decide +kernel
theorem dX4_init_12 : decode cX4_init 12 = .ok (.putfield 12, 3) := by decide +kernel
theorem dX4_init_15 : decode cX4_init 15 = .ok (.aload_n 0, 1) := by decide +kernel
theorem dX4_init_16 : decode cX4_init 16 = .ok (.iconst 4, 1) := by decide +kernel
theorem dX4_init_17 : decode cX4_init 17 = .ok (.anewarray 16, 3) := by decide +kernel
theorem dX4_init_20 : decode cX4_init 20 = .ok (.putfield 18, 3) := by decide +kernel
theorem dX4_init_23 : decode cX4_init 23 = .ok (.aload_n 0, 1) := by decide +kernel
theorem dX4_init_24 : decode cX4_init 24 = .ok (.new 22, 3) := by decide +kernel
theorem dX4_init_27 : decode cX4_init 27 = .ok (.dup, 1) := by decide +kernel
theorem dX4_init_28 : decode cX4_init 28 = .ok (.invokespecial 24, 3) := by decide +kernel
theorem dX4_init_31 : decode cX4_init 31 = .ok (.putfield 25, 3) := by decide +kernel
theorem dX4_init_34 : decode cX4_init 34 = .ok (.aload_n 0, 1) := by decide +kernel
theorem dX4_init_35 : decode cX4_init 35 = .ok (.new 29, 3) := by decide +kernel
theorem dX4_init_38 : decode cX4_init 38 = .ok (.dup, 1) := by decide +kernel
theorem dX4_init_39 : decode cX4_init 39 = .ok (.invokespecial 31, 3) := by decide +kernel
theorem dX4_init_42 : decode cX4_init 42 = .ok (.putfield 32, 3) := by decide +kernel
theorem dX4_init_45 : decode cX4_init 45 = .ok (.aload_n 0, 1) := by decide +kernel
theorem dX4_init_46 : decode cX4_init 46 = .ok (.new 36, 3) := by decide +kernel
theorem dX4_init_49 : decode cX4_init 49 = .ok (.dup, 1) := by decide +kernel
theorem dX4_init_50 : decode cX4_init 50 = .ok (.invokespecial 38, 3) := by decide +kernel
theorem dX4_init_53 : decode cX4_init 53 = .ok (.putfield 39, 3) := by decide +kernel
theorem dX4_init_56 : decode cX4_init 56 = .ok (.aload_n 0, 1) := by decide +kernel
theorem dX4_init_57 : decode cX4_init 57 = .ok (.bipush 80, 2) := by decide +kernel
theorem dX4_init_59 : decode cX4_init 59 = .ok (.putfield 43, 3) := by decide +kernel
theorem dX4_init_62 : decode cX4_init 62 = .ok (.aload_n 0, 1) := by decide +kernel
theorem dX4_init_63 : decode cX4_init 63 = .ok (.sipush 1000, 3) := by decide +kernel
theorem dX4_init_66 : decode cX4_init 66 = .ok (.putfield 47, 3) := by decide +kernel
theorem dX4_init_69 : decode cX4_init 69 = .ok (.iconst 0, 1) := by decide +kernel
theorem dX4_init_70 : decode cX4_init 70 = .ok (.istore_n 1, 1) := by decide +kernel
theorem dX4_init_71 : decode cX4_init 71 = .ok (.iload_n 1, 1) := by decide +kernel
theorem dX4_init_72 : decode cX4_init 72 = .ok (.iconst 4, 1) := by decide +kernel
theorem dX4_init_73 : decode cX4_init 73 = .ok (.if_icmp .ge 23, 3) := by decide +kernel
theorem dX4_init_76 : decode cX4_init 76 = .ok (.aload_n 0, 1) := by decide +kernel
theorem dX4_init_77 : decode cX4_init 77 = .ok (.getfield 18, 3) := by decide +kernel
theorem dX4_init_80 : decode cX4_init 80 = .ok (.iload_n 1, 1) := by decide +kernel
theorem dX4_init_81 : decode cX4_init 81 = .ok (.new 16, 3) := by decide +kernel
theorem dX4_init_84 : decode cX4_init 84 = .ok (.dup, 1) := by decide +kernel
theorem dX4_init_85 : decode cX4_init 85 = .ok (.iload_n 1, 1) := by decide +kernel
theorem dX4_init_86 : decode cX4_init 86 = .ok (.invokespecial 50, 3) := by decide +kernel
theorem dX4_init_89 : decode cX4_init 89 = .ok (.aastore, 1) := by decide +kernel
theorem dX4_init_90 : decode cX4_init 90 = .ok (.iinc 1 1, 3) := by decide +kernel
theorem dX4_init_93 : decode cX4_init 93 = .ok (.goto (-22), 3) := by decide +kernel
theorem dX4_init_96 : decode cX4_init 96 = .ok (.aload_n 0, 1) := by decide +kernel
theorem dX4_init_97 : decode cX4_init 97 = .ok (.invokevirtual 53, 3) := by decide +kernel
theorem dX4_init_100 : decode cX4_init 100 = .ok (.return_, 1) := by decide +kernel
theorem dX4_loan_0 : decode cX4_loan 0 = .ok (.iload_n 1, 1) := by decide +kernel
theorem dX4_loan_1 : decode cX4_loan 1 = .ok (.invokestatic 56, 3) := by decide +kernel
theorem dX4_loan_4 : decode cX4_loan 4 = .ok (.iload_n 2, 1) := by decide +kernel
theorem dX4_loan_5 : decode cX4_loan 5 = .ok (.invokestatic 59, 3) := by decide +kernel
theorem dX4_loan_8 : decode cX4_loan 8 = .ok (.iload_n 3, 1) := by decide +kernel
theorem dX4_loan_9 : decode cX4_loan 9 = .ok (.iconst 1, 1) := by decide +kernel
theorem dX4_loan_10 : decode cX4_loan 10 = .ok (.bipush 99, 2) := by decide +kernel
theorem dX4_loan_12 : decode cX4_loan 12 = .ok (.invokestatic 62, 3) := by decide +kernel
theorem dX4_loan_15 : decode cX4_loan 15 = .ok (.bipush 99, 2) := by decide +kernel
theorem dX4_loan_17 : decode cX4_loan 17 = .ok (.aload_n 0, 1) := by decide +kernel
theorem dX4_loan_18 : decode cX4_loan 18 = .ok (.getfield 12, 3) := by decide +kernel
theorem dX4_loan_21 : decode cX4_loan 21 = .ok (.iload_n 1, 1) := by decide +kernel
theorem dX4_loan_22 : decode cX4_loan 22 = .ok (.iload_n 2, 1) := by decide +kernel
theorem dX4_loan_23 : decode cX4_loan 23 = .ok (.invokevirtual 66, 3) := by decide +kernel
theorem dX4_loan_26 : decode cX4_loan 26 = .ok (.iload_n 3, 1) := by decide +kernel
theorem dX4_loan_27 : decode cX4_loan 27 = .ok (.iadd, 1) := by decide +kernel
theorem dX4_loan_28 : decode cX4_loan 28 = .ok (.invokestatic 70, 3) := by decide +kernel
theorem dX4_loan_31 : decode cX4_loan 31 = .ok (.istore 4, 2) := by decide +kernel
theorem dX4_loan_33 : decode cX4_loan 33 = .ok (.aload_n 0, 1) := by decide +kernel
theorem dX4_loan_34 : decode cX4_loan 34 = .ok (.getfield 12, 3) := by decide +kernel
theorem dX4_loan_37 : decode cX4_loan 37 = .ok (.iload_n 1, 1) := by decide +kernel
theorem dX4_loan_38 : decode cX4_loan 38 = .ok (.iload_n 2, 1) := by decide +kernel
theorem dX4_loan_39 : decode cX4_loan 39 = .ok (.iload 4, 2) := by decide +kernel
theorem dX4_loan_41 : decode cX4_loan 41 = .ok (.invokevirtual 75, 3) := by decide +kernel
theorem dX4_loan_44 : decode cX4_loan 44 = .ok (.aload_n 0, 1) := by decide +kernel
theorem dX4_loan_45 : decode cX4_loan 45 = .ok (.invokevirtual 78, 3) := by decide +kernel
theorem dX4_loan_48 : decode cX4_loan 48 = .ok (.iload 4, 2) := by decide +kernel
theorem dX4_loan_50 : decode cX4_loan 50 = .ok (.ireturn, 1) := by decide +kernel
theorem dX4_strike_0 : decode cX4_strike 0 = .ok (.iload_n 1, 1) := by decide +kernel
theorem dX4_strike_1 : decode cX4_strike 1 = .ok (.invokestatic 56, 3) := by decide +kernel
theorem dX4_strike_4 : decode cX4_strike 4 = .ok (.iload_n 2, 1) := by decide +kernel
theorem dX4_strike_5 : decode cX4_strike 5 = .ok (.invokestatic 59, 3) := by decide +kernel
theorem dX4_strike_8 : decode cX4_strike 8 = .ok (.aload_n 0, 1) := by decide +kernel
theorem dX4_strike_9 : decode cX4_strike 9 = .ok (.getfield 12, 3) := by decide +kernel
theorem dX4_strike_12 : decode cX4_strike 12 = .ok (.iload_n 1, 1) := by decide +kernel
theorem dX4_strike_13 : decode cX4_strike 13 = .ok (.iload_n 2, 1) := by decide +kernel
theorem dX4_strike_14 : decode cX4_strike 14 = .ok (.invokevirtual 66, 3) := by decide +kernel
theorem dX4_strike_17 : decode cX4_strike 17 = .ok (.istore_n 3, 1) := by decide +kernel
theorem dX4_strike_18 : decode cX4_strike 18 = .ok (.iload_n 3, 1) := by decide +kernel
theorem dX4_strike_19 : decode cX4_strike 19 = .ok (.ifCond .ne 13, 3) := by decide +kernel
theorem dX4_strike_22 : decode cX4_strike 22 = .ok (.new 81, 3) := by decide +kernel
theorem dX4_strike_25 : decode cX4_strike 25 = .ok (.dup, 1) := by decide +kernel
theorem dX4_strike_26 : decode cX4_strike 26 = .ok (.ldc 83, 2) := by decide +kernel
theorem dX4_strike_28 : decode cX4_strike 28 = .ok (.invokespecial 85, 3) := by decide +kernel
theorem dX4_strike_31 : decode cX4_strike 31 = .ok (.athrow, 1) := by decide +kernel
theorem dX4_strike_32 : decode cX4_strike 32 = .ok (.aload_n 0, 1) := by decide +kernel
theorem dX4_strike_33 : decode cX4_strike 33 = .ok (.getfield 12, 3) := by decide +kernel
theorem dX4_strike_36 : decode cX4_strike 36 = .ok (.iload_n 1, 1) := by decide +kernel
theorem dX4_strike_37 : decode cX4_strike 37 = .ok (.iload_n 2, 1) := by decide +kernel
theorem dX4_strike_38 : decode cX4_strike 38 = .ok (.iconst 0, 1) := by decide +kernel
theorem dX4_strike_39 : decode cX4_strike 39 = .ok (.invokevirtual 75, 3) := by decide +kernel
theorem dX4_strike_42 : decode cX4_strike 42 = .ok (.aload_n 0, 1) := by decide +kernel
theorem dX4_strike_43 : decode cX4_strike 43 = .ok (.invokevirtual 78, 3) := by decide +kernel
theorem dX4_strike_46 : decode cX4_strike 46 = .ok (.iload_n 3, 1) := by decide +kernel
theorem dX4_strike_47 : decode cX4_strike 47 = .ok (.ireturn, 1) := by decide +kernel
theorem dX4_fade_0 : decode cX4_fade 0 = .ok (.aload_n 0, 1) := by decide +kernel
theorem dX4_fade_1 : decode cX4_fade 1 = .ok (.getfield 12, 3) := by decide +kernel
theorem dX4_fade_4 : decode cX4_fade 4 = .ok (.invokevirtual 88, 3) := by decide +kernel
theorem dX4_fade_7 : decode cX4_fade 7 = .ok (.istore_n 1, 1) := by decide +kernel
theorem dX4_fade_8 : decode cX4_fade 8 = .ok (.aload_n 0, 1) := by decide +kernel
theorem dX4_fade_9 : decode cX4_fade 9 = .ok (.invokevirtual 78, 3) := by decide +kernel
theorem dX4_fade_12 : decode cX4_fade 12 = .ok (.iload_n 1, 1) := by decide +kernel
theorem dX4_fade_13 : decode cX4_fade 13 = .ok (.ireturn, 1) := by decide +kernel
theorem dX4_bar_0 : decode cX4_bar 0 = .ok (.iload_n 1, 1) := by decide +kernel
theorem dX4_bar_1 : decode cX4_bar 1 = .ok (.invokestatic 59, 3) := by decide +kernel
theorem dX4_bar_4 : decode cX4_bar 4 = .ok (.iload_n 2, 1) := by decide +kernel
theorem dX4_bar_5 : decode cX4_bar 5 = .ok (.iconst 0, 1) := by decide +kernel
theorem dX4_bar_6 : decode cX4_bar 6 = .ok (.iconst 2, 1) := by decide +kernel
theorem dX4_bar_7 : decode cX4_bar 7 = .ok (.invokestatic 62, 3) := by decide +kernel
theorem dX4_bar_10 : decode cX4_bar 10 = .ok (.aload_n 0, 1) := by decide +kernel
theorem dX4_bar_11 : decode cX4_bar 11 = .ok (.getfield 12, 3) := by decide +kernel
theorem dX4_bar_14 : decode cX4_bar 14 = .ok (.iload_n 1, 1) := by decide +kernel
theorem dX4_bar_15 : decode cX4_bar 15 = .ok (.invokevirtual 92, 3) := by decide +kernel
theorem dX4_bar_18 : decode cX4_bar 18 = .ok (.istore_n 3, 1) := by decide +kernel
theorem dX4_bar_19 : decode cX4_bar 19 = .ok (.aload_n 0, 1) := by decide +kernel
theorem dX4_bar_20 : decode cX4_bar 20 = .ok (.getfield 12, 3) := by decide +kernel
theorem dX4_bar_23 : decode cX4_bar 23 = .ok (.iload_n 1, 1) := by decide +kernel
theorem dX4_bar_24 : decode cX4_bar 24 = .ok (.iload_n 2, 1) := by decide +kernel
theorem dX4_bar_25 : decode cX4_bar 25 = .ok (.invokevirtual 96, 3) := by decide +kernel
theorem dX4_bar_28 : decode cX4_bar 28 = .ok (.aload_n 0, 1) := by decide +kernel
theorem dX4_bar_29 : decode cX4_bar 29 = .ok (.invokevirtual 78, 3) := by decide +kernel
theorem dX4_bar_32 : decode cX4_bar 32 = .ok (.iload_n 3, 1) := by decide +kernel
theorem dX4_bar_33 : decode cX4_bar 33 = .ok (.ireturn, 1) := by decide +kernel
theorem dX4_walk_0 : decode cX4_walk 0 = .ok (.iload_n 1, 1) := by decide +kernel
theorem dX4_walk_1 : decode cX4_walk 1 = .ok (.bipush 50, 2) := by decide +kernel
theorem dX4_walk_3 : decode cX4_walk 3 = .ok (.bipush 90, 2) := by decide +kernel
theorem dX4_walk_5 : decode cX4_walk 5 = .ok (.invokestatic 62, 3) := by decide +kernel
theorem dX4_walk_8 : decode cX4_walk 8 = .ok (.iload_n 2, 1) := by decide +kernel
theorem dX4_walk_9 : decode cX4_walk 9 = .ok (.bipush 100, 2) := by decide +kernel
theorem dX4_walk_11 : decode cX4_walk 11 = .ok (.ldc 100, 2) := by decide +kernel
theorem dX4_walk_13 : decode cX4_walk 13 = .ok (.invokestatic 62, 3) := by decide +kernel
theorem dX4_walk_16 : decode cX4_walk 16 = .ok (.aload_n 0, 1) := by decide +kernel
theorem dX4_walk_17 : decode cX4_walk 17 = .ok (.iload_n 1, 1) := by decide +kernel
theorem dX4_walk_18 : decode cX4_walk 18 = .ok (.putfield 43, 3) := by decide +kernel
theorem dX4_walk_21 : decode cX4_walk 21 = .ok (.aload_n 0, 1) := by decide +kernel
theorem dX4_walk_22 : decode cX4_walk 22 = .ok (.iload_n 2, 1) := by decide +kernel
theorem dX4_walk_23 : decode cX4_walk 23 = .ok (.putfield 47, 3) := by decide +kernel
theorem dX4_walk_26 : decode cX4_walk 26 = .ok (.aload_n 0, 1) := by decide +kernel
theorem dX4_walk_27 : decode cX4_walk 27 = .ok (.invokevirtual 53, 3) := by decide +kernel
theorem dX4_walk_30 : decode cX4_walk 30 = .ok (.return_, 1) := by decide +kernel
theorem dX4_landed_0 : decode cX4_landed 0 = .ok (.iload_n 1, 1) := by decide +kernel
theorem dX4_landed_1 : decode cX4_landed 1 = .ok (.invokestatic 56, 3) := by decide +kernel
theorem dX4_landed_4 : decode cX4_landed 4 = .ok (.iload_n 2, 1) := by decide +kernel
theorem dX4_landed_5 : decode cX4_landed 5 = .ok (.invokestatic 101, 3) := by decide +kernel
theorem dX4_landed_8 : decode cX4_landed 8 = .ok (.aload_n 0, 1) := by decide +kernel
theorem dX4_landed_9 : decode cX4_landed 9 = .ok (.getfield 18, 3) := by decide +kernel
theorem dX4_landed_12 : decode cX4_landed 12 = .ok (.iload_n 1, 1) := by decide +kernel
theorem dX4_landed_13 : decode cX4_landed 13 = .ok (.aaload, 1) := by decide +kernel
theorem dX4_landed_14 : decode cX4_landed 14 = .ok (.iload_n 2, 1) := by decide +kernel
theorem dX4_landed_15 : decode cX4_landed 15 = .ok (.invokevirtual 104, 3) := by decide +kernel
theorem dX4_landed_18 : decode cX4_landed 18 = .ok (.l2i, 1) := by decide +kernel
theorem dX4_landed_19 : decode cX4_landed 19 = .ok (.ireturn, 1) := by decide +kernel
theorem dX4_rest_0 : decode cX4_rest 0 = .ok (.iload_n 1, 1) := by decide +kernel
theorem dX4_rest_1 : decode cX4_rest 1 = .ok (.invokestatic 56, 3) := by decide +kernel
theorem dX4_rest_4 : decode cX4_rest 4 = .ok (.iload_n 2, 1) := by decide +kernel
theorem dX4_rest_5 : decode cX4_rest 5 = .ok (.invokestatic 101, 3) := by decide +kernel
theorem dX4_rest_8 : decode cX4_rest 8 = .ok (.aload_n 0, 1) := by decide +kernel
theorem dX4_rest_9 : decode cX4_rest 9 = .ok (.getfield 18, 3) := by decide +kernel
theorem dX4_rest_12 : decode cX4_rest 12 = .ok (.iload_n 1, 1) := by decide +kernel
theorem dX4_rest_13 : decode cX4_rest 13 = .ok (.aaload, 1) := by decide +kernel
theorem dX4_rest_14 : decode cX4_rest 14 = .ok (.iload_n 2, 1) := by decide +kernel
theorem dX4_rest_15 : decode cX4_rest 15 = .ok (.invokevirtual 108, 3) := by decide +kernel
theorem dX4_rest_18 : decode cX4_rest 18 = .ok (.l2i, 1) := by decide +kernel
theorem dX4_rest_19 : decode cX4_rest 19 = .ok (.ireturn, 1) := by decide +kernel
theorem dX4_sent_0 : decode cX4_sent 0 = .ok (.iload_n 1, 1) := by decide +kernel
theorem dX4_sent_1 : decode cX4_sent 1 = .ok (.invokestatic 56, 3) := by decide +kernel
theorem dX4_sent_4 : decode cX4_sent 4 = .ok (.iload_n 2, 1) := by decide +kernel
theorem dX4_sent_5 : decode cX4_sent 5 = .ok (.invokestatic 101, 3) := by decide +kernel
theorem dX4_sent_8 : decode cX4_sent 8 = .ok (.iload_n 3, 1) := by decide +kernel
theorem dX4_sent_9 : decode cX4_sent 9 = .ok (.invokestatic 101, 3) := by decide +kernel
theorem dX4_sent_12 : decode cX4_sent 12 = .ok (.aload_n 0, 1) := by decide +kernel
theorem dX4_sent_13 : decode cX4_sent 13 = .ok (.getfield 18, 3) := by decide +kernel
theorem dX4_sent_16 : decode cX4_sent 16 = .ok (.iload_n 1, 1) := by decide +kernel
theorem dX4_sent_17 : decode cX4_sent 17 = .ok (.aaload, 1) := by decide +kernel
theorem dX4_sent_18 : decode cX4_sent 18 = .ok (.iload_n 2, 1) := by decide +kernel
theorem dX4_sent_19 : decode cX4_sent 19 = .ok (.iload_n 3, 1) := by decide +kernel
theorem dX4_sent_20 : decode cX4_sent 20 = .ok (.invokevirtual 111, 3) := by decide +kernel
theorem dX4_sent_23 : decode cX4_sent 23 = .ok (.l2i, 1) := by decide +kernel
theorem dX4_sent_24 : decode cX4_sent 24 = .ok (.ireturn, 1) := by decide +kernel
theorem dX4_pushes_0 : decode cX4_pushes 0 = .ok (.iconst 0, 1) := by decide +kernel
theorem dX4_pushes_1 : decode cX4_pushes 1 = .ok (.istore_n 1, 1) := by decide +kernel
theorem dX4_pushes_2 : decode cX4_pushes 2 = .ok (.iconst 0, 1) := by decide +kernel
theorem dX4_pushes_3 : decode cX4_pushes 3 = .ok (.istore_n 2, 1) := by decide +kernel
theorem dX4_pushes_4 : decode cX4_pushes 4 = .ok (.iload_n 2, 1) := by decide +kernel
theorem dX4_pushes_5 : decode cX4_pushes 5 = .ok (.iconst 4, 1) := by decide +kernel
theorem dX4_pushes_6 : decode cX4_pushes 6 = .ok (.if_icmp .ge 21, 3) := by decide +kernel
theorem dX4_pushes_9 : decode cX4_pushes 9 = .ok (.iload_n 1, 1) := by decide +kernel
theorem dX4_pushes_10 : decode cX4_pushes 10 = .ok (.aload_n 0, 1) := by decide +kernel
theorem dX4_pushes_11 : decode cX4_pushes 11 = .ok (.getfield 18, 3) := by decide +kernel
theorem dX4_pushes_14 : decode cX4_pushes 14 = .ok (.iload_n 2, 1) := by decide +kernel
theorem dX4_pushes_15 : decode cX4_pushes 15 = .ok (.aaload, 1) := by decide +kernel
theorem dX4_pushes_16 : decode cX4_pushes 16 = .ok (.invokevirtual 115, 3) := by decide +kernel
theorem dX4_pushes_19 : decode cX4_pushes 19 = .ok (.iadd, 1) := by decide +kernel
theorem dX4_pushes_20 : decode cX4_pushes 20 = .ok (.istore_n 1, 1) := by decide +kernel
theorem dX4_pushes_21 : decode cX4_pushes 21 = .ok (.iinc 2 1, 3) := by decide +kernel
theorem dX4_pushes_24 : decode cX4_pushes 24 = .ok (.goto (-20), 3) := by decide +kernel
theorem dX4_pushes_27 : decode cX4_pushes 27 = .ok (.iload_n 1, 1) := by decide +kernel
theorem dX4_pushes_28 : decode cX4_pushes 28 = .ok (.ireturn, 1) := by decide +kernel
theorem dX4_listed_0 : decode cX4_listed 0 = .ok (.iload_n 1, 1) := by decide +kernel
theorem dX4_listed_1 : decode cX4_listed 1 = .ok (.invokestatic 56, 3) := by decide +kernel
theorem dX4_listed_4 : decode cX4_listed 4 = .ok (.iload_n 2, 1) := by decide +kernel
theorem dX4_listed_5 : decode cX4_listed 5 = .ok (.invokestatic 118, 3) := by decide +kernel
theorem dX4_listed_8 : decode cX4_listed 8 = .ok (.aload_n 0, 1) := by decide +kernel
theorem dX4_listed_9 : decode cX4_listed 9 = .ok (.iload_n 1, 1) := by decide +kernel
theorem dX4_listed_10 : decode cX4_listed 10 = .ok (.invokevirtual 121, 3) := by decide +kernel
theorem dX4_listed_13 : decode cX4_listed 13 = .ok (.aload_n 0, 1) := by decide +kernel
theorem dX4_listed_14 : decode cX4_listed 14 = .ok (.getfield 25, 3) := by decide +kernel
theorem dX4_listed_17 : decode cX4_listed 17 = .ok (.iload_n 2, 1) := by decide +kernel
theorem dX4_listed_18 : decode cX4_listed 18 = .ok (.invokevirtual 124, 3) := by decide +kernel
theorem dX4_listed_21 : decode cX4_listed 21 = .ok (.istore_n 3, 1) := by decide +kernel
theorem dX4_listed_22 : decode cX4_listed 22 = .ok (.iload_n 3, 1) := by decide +kernel
theorem dX4_listed_23 : decode cX4_listed 23 = .ok (.iconst (-1), 1) := by decide +kernel
theorem dX4_listed_24 : decode cX4_listed 24 = .ok (.if_icmp .ne 7, 3) := by decide +kernel
theorem dX4_listed_27 : decode cX4_listed 27 = .ok (.iconst (-1), 1) := by decide +kernel
theorem dX4_listed_28 : decode cX4_listed 28 = .ok (.goto 11, 3) := by decide +kernel
theorem dX4_listed_31 : decode cX4_listed 31 = .ok (.aload_n 0, 1) := by decide +kernel
theorem dX4_listed_32 : decode cX4_listed 32 = .ok (.getfield 25, 3) := by decide +kernel
theorem dX4_listed_35 : decode cX4_listed 35 = .ok (.iload_n 3, 1) := by decide +kernel
theorem dX4_listed_36 : decode cX4_listed 36 = .ok (.invokevirtual 127, 3) := by decide +kernel
theorem dX4_listed_39 : decode cX4_listed 39 = .ok (.ireturn, 1) := by decide +kernel
theorem dX4_way_0 : decode cX4_way 0 = .ok (.iload_n 1, 1) := by decide +kernel
theorem dX4_way_1 : decode cX4_way 1 = .ok (.invokestatic 56, 3) := by decide +kernel
theorem dX4_way_4 : decode cX4_way 4 = .ok (.iload_n 2, 1) := by decide +kernel
theorem dX4_way_5 : decode cX4_way 5 = .ok (.invokestatic 59, 3) := by decide +kernel
theorem dX4_way_8 : decode cX4_way 8 = .ok (.iload_n 3, 1) := by decide +kernel
theorem dX4_way_9 : decode cX4_way 9 = .ok (.invokestatic 118, 3) := by decide +kernel
theorem dX4_way_12 : decode cX4_way 12 = .ok (.iload 4, 2) := by decide +kernel
theorem dX4_way_14 : decode cX4_way 14 = .ok (.iconst 0, 1) := by decide +kernel
theorem dX4_way_15 : decode cX4_way 15 = .ok (.iconst 2, 1) := by decide +kernel
theorem dX4_way_16 : decode cX4_way 16 = .ok (.invokestatic 62, 3) := by decide +kernel
theorem dX4_way_19 : decode cX4_way 19 = .ok (.aload_n 0, 1) := by decide +kernel
theorem dX4_way_20 : decode cX4_way 20 = .ok (.iload_n 1, 1) := by decide +kernel
theorem dX4_way_21 : decode cX4_way 21 = .ok (.iload_n 2, 1) := by decide +kernel
theorem dX4_way_22 : decode cX4_way 22 = .ok (.invokevirtual 130, 3) := by decide +kernel
theorem dX4_way_25 : decode cX4_way 25 = .ok (.aload_n 0, 1) := by decide +kernel
theorem dX4_way_26 : decode cX4_way 26 = .ok (.getfield 25, 3) := by decide +kernel
theorem dX4_way_29 : decode cX4_way 29 = .ok (.iload_n 3, 1) := by decide +kernel
theorem dX4_way_30 : decode cX4_way 30 = .ok (.invokevirtual 124, 3) := by decide +kernel
theorem dX4_way_33 : decode cX4_way 33 = .ok (.istore 5, 2) := by decide +kernel
theorem dX4_way_35 : decode cX4_way 35 = .ok (.iload 5, 2) := by decide +kernel
theorem dX4_way_37 : decode cX4_way 37 = .ok (.iconst (-1), 1) := by decide +kernel
theorem dX4_way_38 : decode cX4_way 38 = .ok (.if_icmp .ne 5, 3) := by decide +kernel
theorem dX4_way_41 : decode cX4_way 41 = .ok (.iconst (-1), 1) := by decide +kernel
theorem dX4_way_42 : decode cX4_way 42 = .ok (.ireturn, 1) := by decide +kernel
theorem dX4_way_43 : decode cX4_way 43 = .ok (.iload 4, 2) := by decide +kernel
theorem dX4_way_45 : decode cX4_way 45 = .ok (.ifCond .ne 13, 3) := by decide +kernel
theorem dX4_way_48 : decode cX4_way 48 = .ok (.aload_n 0, 1) := by decide +kernel
theorem dX4_way_49 : decode cX4_way 49 = .ok (.getfield 25, 3) := by decide +kernel
theorem dX4_way_52 : decode cX4_way 52 = .ok (.iload 5, 2) := by decide +kernel
theorem dX4_way_54 : decode cX4_way 54 = .ok (.invokevirtual 127, 3) := by decide +kernel
theorem dX4_way_57 : decode cX4_way 57 = .ok (.ireturn, 1) := by decide +kernel
theorem dX4_way_58 : decode cX4_way 58 = .ok (.iload 4, 2) := by decide +kernel
theorem dX4_way_60 : decode cX4_way 60 = .ok (.iconst 1, 1) := by decide +kernel
theorem dX4_way_61 : decode cX4_way 61 = .ok (.if_icmp .ne 15, 3) := by decide +kernel
theorem dX4_way_64 : decode cX4_way 64 = .ok (.aload_n 0, 1) := by decide +kernel
theorem dX4_way_65 : decode cX4_way 65 = .ok (.getfield 25, 3) := by decide +kernel
theorem dX4_way_68 : decode cX4_way 68 = .ok (.iload 5, 2) := by decide +kernel
theorem dX4_way_70 : decode cX4_way 70 = .ok (.invokevirtual 133, 3) := by decide +kernel
theorem dX4_way_73 : decode cX4_way 73 = .ok (.goto 13, 3) := by decide +kernel
theorem dX4_way_76 : decode cX4_way 76 = .ok (.aload_n 0, 1) := by decide +kernel
theorem dX4_way_77 : decode cX4_way 77 = .ok (.getfield 25, 3) := by decide +kernel
theorem dX4_way_80 : decode cX4_way 80 = .ok (.iload 5, 2) := by decide +kernel
theorem dX4_way_82 : decode cX4_way 82 = .ok (.invokevirtual 136, 3) := by decide +kernel
theorem dX4_way_85 : decode cX4_way 85 = .ok (.l2i, 1) := by decide +kernel
theorem dX4_way_86 : decode cX4_way 86 = .ok (.ireturn, 1) := by decide +kernel
theorem dX4_share_0 : decode cX4_share 0 = .ok (.iload_n 1, 1) := by decide +kernel
theorem dX4_share_1 : decode cX4_share 1 = .ok (.invokestatic 56, 3) := by decide +kernel
theorem dX4_share_4 : decode cX4_share 4 = .ok (.iload_n 2, 1) := by decide +kernel
theorem dX4_share_5 : decode cX4_share 5 = .ok (.invokestatic 101, 3) := by decide +kernel
