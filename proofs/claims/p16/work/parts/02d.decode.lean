theorem dX0_init_0 : decode cX0_init 0 = .ok (.aload_n 0, 1) := by decide +kernel
theorem dX0_init_1 : decode cX0_init 1 = .ok (.invokespecial 3, 3) := by decide +kernel
theorem dX0_init_4 : decode cX0_init 4 = .ok (.aload_n 0, 1) := by decide +kernel
theorem dX0_init_5 : decode cX0_init 5 = .ok (.bipush 9, 2) := by decide +kernel
theorem dX0_init_7 : decode cX0_init 7 = .ok (.bipush 9, 2) := by decide +kernel
theorem dX0_init_9 : decode cX0_init 9 = .ok (.multianewarray 9 2, 4) := by decide +kernel
theorem dX0_init_13 : decode cX0_init 13 = .ok (.putfield 11, 3) := by decide +kernel
theorem dX0_init_16 : decode cX0_init 16 = .ok (.aload_n 0, 1) := by decide +kernel
theorem dX0_init_17 : decode cX0_init 17 = .ok (.bipush 9, 2) := by decide +kernel
theorem dX0_init_19 : decode cX0_init 19 = .ok (.newarray .double, 2) := by decide +kernel
theorem dX0_init_21 : decode cX0_init 21 = .ok (.putfield 16, 3) := by decide +kernel
theorem dX0_init_24 : decode cX0_init 24 = .ok (.aload_n 0, 1) := by decide +kernel
theorem dX0_init_25 : decode cX0_init 25 = .ok (.bipush 9, 2) := by decide +kernel
theorem dX0_init_27 : decode cX0_init 27 = .ok (.newarray .double, 2) := by decide +kernel
theorem dX0_init_29 : decode cX0_init 29 = .ok (.putfield 20, 3) := by decide +kernel
theorem dX0_init_32 : decode cX0_init 32 = .ok (.return_, 1) := by decide +kernel
theorem dX1_init_0 : decode cX1_init 0 = .ok (.aload_n 0, 1) := by decide +kernel
theorem dX1_init_1 : decode cX1_init 1 = .ok (.invokespecial 3, 3) := by decide +kernel
theorem dX1_init_4 : decode cX1_init 4 = .ok (.aload_n 0, 1) := by decide +kernel
theorem dX1_init_5 : decode cX1_init 5 = .ok (.iconst 4, 1) := by decide +kernel
theorem dX1_init_6 : decode cX1_init 6 = .ok (.iconst 5, 1) := by decide +kernel
theorem dX1_init_7 : decode cX1_init 7 = .ok (.multianewarray 9 2, 4) := by decide +kernel
theorem dX1_init_11 : decode cX1_init 11 = .ok (.putfield 11, 3) := by decide +kernel
theorem dX1_init_14 : decode cX1_init 14 = .ok (.aload_n 0, 1) := by decide +kernel
theorem dX1_init_15 : decode cX1_init 15 = .ok (.iconst 5, 1) := by decide +kernel
theorem dX1_init_16 : decode cX1_init 16 = .ok (.newarray .int, 2) := by decide +kernel
theorem dX1_init_18 : decode cX1_init 18 = .ok (.putfield 16, 3) := by decide +kernel
theorem dX1_init_21 : decode cX1_init 21 = .ok (.aload_n 0, 1) := by decide +kernel
theorem dX1_init_22 : decode cX1_init 22 = .ok (.bipush 9, 2) := by decide +kernel
theorem dX1_init_24 : decode cX1_init 24 = .ok (.bipush 9, 2) := by decide +kernel
theorem dX1_init_26 : decode cX1_init 26 = .ok (.multianewarray 9 2, 4) := by decide +kernel
theorem dX1_init_30 : decode cX1_init 30 = .ok (.putfield 20, 3) := by decide +kernel
theorem dX1_init_33 : decode cX1_init 33 = .ok (.aload_n 0, 1) := by decide +kernel
theorem dX1_init_34 : decode cX1_init 34 = .ok (.bipush 9, 2) := by decide +kernel
theorem dX1_init_36 : decode cX1_init 36 = .ok (.bipush 9, 2) := by decide +kernel
theorem dX1_init_38 : decode cX1_init 38 = .ok (.multianewarray 9 2, 4) := by decide +kernel
theorem dX1_init_42 : decode cX1_init 42 = .ok (.putfield 23, 3) := by decide +kernel
theorem dX1_init_45 : decode cX1_init 45 = .ok (.aload_n 0, 1) := by decide +kernel
theorem dX1_init_46 : decode cX1_init 46 = .ok (.bipush 9, 2) := by decide +kernel
theorem dX1_init_48 : decode cX1_init 48 = .ok (.newarray .int, 2) := by decide +kernel
theorem dX1_init_50 : decode cX1_init 50 = .ok (.putfield 26, 3) := by decide +kernel
theorem dX1_init_53 : decode cX1_init 53 = .ok (.aload_n 0, 1) := by decide +kernel
theorem dX1_init_54 : decode cX1_init 54 = .ok (.bipush 9, 2) := by decide +kernel
theorem dX1_init_56 : decode cX1_init 56 = .ok (.newarray .int, 2) := by decide +kernel
theorem dX1_init_58 : decode cX1_init 58 = .ok (.putfield 29, 3) := by decide +kernel
theorem dX1_init_61 : decode cX1_init 61 = .ok (.return_, 1) := by decide +kernel
theorem dX1_loanWeight_0 : decode cX1_loanWeight 0 = .ok (.aload_n 0, 1) := by decide +kernel
theorem dX1_loanWeight_1 : decode cX1_loanWeight 1 = .ok (.getfield 11, 3) := by decide +kernel
theorem dX1_loanWeight_4 : decode cX1_loanWeight 4 = .ok (.iload_n 1, 1) := by decide +kernel
theorem dX1_loanWeight_5 : decode cX1_loanWeight 5 = .ok (.aaload, 1) := by decide +kernel
theorem dX1_loanWeight_6 : decode cX1_loanWeight 6 = .ok (.iload_n 2, 1) := by decide +kernel
theorem dX1_loanWeight_7 : decode cX1_loanWeight 7 = .ok (.iaload, 1) := by decide +kernel
theorem dX1_loanWeight_8 : decode cX1_loanWeight 8 = .ok (.ireturn, 1) := by decide +kernel
theorem dX1_barOf_0 : decode cX1_barOf 0 = .ok (.aload_n 0, 1) := by decide +kernel
theorem dX1_barOf_1 : decode cX1_barOf 1 = .ok (.getfield 16, 3) := by decide +kernel
theorem dX1_barOf_4 : decode cX1_barOf 4 = .ok (.iload_n 1, 1) := by decide +kernel
theorem dX1_barOf_5 : decode cX1_barOf 5 = .ok (.iaload, 1) := by decide +kernel
theorem dX1_barOf_6 : decode cX1_barOf 6 = .ok (.ireturn, 1) := by decide +kernel
theorem dX1_walkedWeight_0 : decode cX1_walkedWeight 0 = .ok (.aload_n 0, 1) := by decide +kernel
theorem dX1_walkedWeight_1 : decode cX1_walkedWeight 1 = .ok (.getfield 20, 3) := by decide +kernel
theorem dX1_walkedWeight_4 : decode cX1_walkedWeight 4 = .ok (.iload_n 1, 1) := by decide +kernel
theorem dX1_walkedWeight_5 : decode cX1_walkedWeight 5 = .ok (.aaload, 1) := by decide +kernel
theorem dX1_walkedWeight_6 : decode cX1_walkedWeight 6 = .ok (.iload_n 2, 1) := by decide +kernel
theorem dX1_walkedWeight_7 : decode cX1_walkedWeight 7 = .ok (.iaload, 1) := by decide +kernel
theorem dX1_walkedWeight_8 : decode cX1_walkedWeight 8 = .ok (.ireturn, 1) := by decide +kernel
theorem dX1_neighbour_0 : decode cX1_neighbour 0 = .ok (.aload_n 0, 1) := by decide +kernel
theorem dX1_neighbour_1 : decode cX1_neighbour 1 = .ok (.getfield 23, 3) := by decide +kernel
theorem dX1_neighbour_4 : decode cX1_neighbour 4 = .ok (.iload_n 1, 1) := by decide +kernel
theorem dX1_neighbour_5 : decode cX1_neighbour 5 = .ok (.aaload, 1) := by decide +kernel
theorem dX1_neighbour_6 : decode cX1_neighbour 6 = .ok (.iload_n 2, 1) := by decide +kernel
theorem dX1_neighbour_7 : decode cX1_neighbour 7 = .ok (.iaload, 1) := by decide +kernel
theorem dX1_neighbour_8 : decode cX1_neighbour 8 = .ok (.ireturn, 1) := by decide +kernel
theorem dX1_neighbourCount_0 : decode cX1_neighbourCount 0 = .ok (.aload_n 0, 1) := by decide +kernel
theorem dX1_neighbourCount_1 : decode cX1_neighbourCount 1 = .ok (.getfield 26, 3) := by decide +kernel
theorem dX1_neighbourCount_4 : decode cX1_neighbourCount 4 = .ok (.iload_n 1, 1) := by decide +kernel
theorem dX1_neighbourCount_5 : decode cX1_neighbourCount 5 = .ok (.iaload, 1) := by decide +kernel
theorem dX1_neighbourCount_6 : decode cX1_neighbourCount 6 = .ok (.ireturn, 1) := by decide +kernel
theorem dX1_weightOfAll_0 : decode cX1_weightOfAll 0 = .ok (.aload_n 0, 1) := by decide +kernel
theorem dX1_weightOfAll_1 : decode cX1_weightOfAll 1 = .ok (.getfield 29, 3) := by decide +kernel
theorem dX1_weightOfAll_4 : decode cX1_weightOfAll 4 = .ok (.iload_n 1, 1) := by decide +kernel
theorem dX1_weightOfAll_5 : decode cX1_weightOfAll 5 = .ok (.iaload, 1) := by decide +kernel
theorem dX1_weightOfAll_6 : decode cX1_weightOfAll 6 = .ok (.ireturn, 1) := by decide +kernel
theorem dX1_setLoan_0 : decode cX1_setLoan 0 = .ok (.aload_n 0, 1) := by decide +kernel
theorem dX1_setLoan_1 : decode cX1_setLoan 1 = .ok (.getfield 11, 3) := by decide +kernel
theorem dX1_setLoan_4 : decode cX1_setLoan 4 = .ok (.iload_n 1, 1) := by decide +kernel
theorem dX1_setLoan_5 : decode cX1_setLoan 5 = .ok (.aaload, 1) := by decide +kernel
theorem dX1_setLoan_6 : decode cX1_setLoan 6 = .ok (.iload_n 2, 1) := by decide +kernel
theorem dX1_setLoan_7 : decode cX1_setLoan 7 = .ok (.iload_n 3, 1) := by decide +kernel
theorem dX1_setLoan_8 : decode cX1_setLoan 8 = .ok (.iastore, 1) := by decide +kernel
theorem dX1_setLoan_9 : decode cX1_setLoan 9 = .ok (.aload_n 0, 1) := by decide +kernel
theorem dX1_setLoan_10 : decode cX1_setLoan 10 = .ok (.invokevirtual 32, 3) := by decide +kernel
theorem dX1_setLoan_13 : decode cX1_setLoan 13 = .ok (.return_, 1) := by decide +kernel
theorem dX1_setBar_0 : decode cX1_setBar 0 = .ok (.aload_n 0, 1) := by decide +kernel
theorem dX1_setBar_1 : decode cX1_setBar 1 = .ok (.getfield 16, 3) := by decide +kernel
theorem dX1_setBar_4 : decode cX1_setBar 4 = .ok (.iload_n 1, 1) := by decide +kernel
theorem dX1_setBar_5 : decode cX1_setBar 5 = .ok (.iload_n 2, 1) := by decide +kernel
theorem dX1_setBar_6 : decode cX1_setBar 6 = .ok (.iastore, 1) := by decide +kernel
theorem dX1_setBar_7 : decode cX1_setBar 7 = .ok (.aload_n 0, 1) := by decide +kernel
theorem dX1_setBar_8 : decode cX1_setBar 8 = .ok (.invokevirtual 32, 3) := by decide +kernel
theorem dX1_setBar_11 : decode cX1_setBar 11 = .ok (.return_, 1) := by decide +kernel
theorem dX1_halveLoans_0 : decode cX1_halveLoans 0 = .ok (.iconst 0, 1) := by decide +kernel
theorem dX1_halveLoans_1 : decode cX1_halveLoans 1 = .ok (.istore_n 1, 1) := by decide +kernel
theorem dX1_halveLoans_2 : decode cX1_halveLoans 2 = .ok (.iconst 0, 1) := by decide +kernel
theorem dX1_halveLoans_3 : decode cX1_halveLoans 3 = .ok (.istore_n 2, 1) := by decide +kernel
theorem dX1_halveLoans_4 : decode cX1_halveLoans 4 = .ok (.iload_n 2, 1) := by decide +kernel
theorem dX1_halveLoans_5 : decode cX1_halveLoans 5 = .ok (.iconst 4, 1) := by decide +kernel
theorem dX1_halveLoans_6 : decode cX1_halveLoans 6 = .ok (.if_icmp .ge 53, 3) := by decide +kernel
theorem dX1_halveLoans_9 : decode cX1_halveLoans 9 = .ok (.iconst 0, 1) := by decide +kernel
theorem dX1_halveLoans_10 : decode cX1_halveLoans 10 = .ok (.istore_n 3, 1) := by decide +kernel
theorem dX1_halveLoans_11 : decode cX1_halveLoans 11 = .ok (.iload_n 3, 1) := by decide +kernel
theorem dX1_halveLoans_12 : decode cX1_halveLoans 12 = .ok (.iconst 5, 1) := by decide +kernel
theorem dX1_halveLoans_13 : decode cX1_halveLoans 13 = .ok (.if_icmp .ge 40, 3) := by decide +kernel
theorem dX1_halveLoans_16 : decode cX1_halveLoans 16 = .ok (.aload_n 0, 1) := by decide +kernel
theorem dX1_halveLoans_17 : decode cX1_halveLoans 17 = .ok (.getfield 11, 3) := by decide +kernel
theorem dX1_halveLoans_20 : decode cX1_halveLoans 20 = .ok (.iload_n 2, 1) := by decide +kernel
theorem dX1_halveLoans_21 : decode cX1_halveLoans 21 = .ok (.aaload, 1) := by decide +kernel
theorem dX1_halveLoans_22 : decode cX1_halveLoans 22 = .ok (.iload_n 3, 1) := by decide +kernel
theorem dX1_halveLoans_23 : decode cX1_halveLoans 23 = .ok (.dup2, 1) := by decide +kernel
theorem dX1_halveLoans_24 : decode cX1_halveLoans 24 = .ok (.iaload, 1) := by decide +kernel
theorem dX1_halveLoans_25 : decode cX1_halveLoans 25 = .ok (.iconst 2, 1) := by decide +kernel
theorem dX1_halveLoans_26 : decode cX1_halveLoans 26 = .ok (.idiv, 1) := by decide +kernel
theorem dX1_halveLoans_27 : decode cX1_halveLoans 27 = .ok (.iastore, 1) := by decide +kernel
theorem dX1_halveLoans_28 : decode cX1_halveLoans 28 = .ok (.iload_n 1, 1) := by decide +kernel
theorem dX1_halveLoans_29 : decode cX1_halveLoans 29 = .ok (.aload_n 0, 1) := by decide +kernel
theorem dX1_halveLoans_30 : decode cX1_halveLoans 30 = .ok (.getfield 11, 3) := by decide +kernel
theorem dX1_halveLoans_33 : decode cX1_halveLoans 33 = .ok (.iload_n 2, 1) := by decide +kernel
theorem dX1_halveLoans_34 : decode cX1_halveLoans 34 = .ok (.aaload, 1) := by decide +kernel
theorem dX1_halveLoans_35 : decode cX1_halveLoans 35 = .ok (.iload_n 3, 1) := by decide +kernel
theorem dX1_halveLoans_36 : decode cX1_halveLoans 36 = .ok (.iaload, 1) := by decide +kernel
theorem dX1_halveLoans_37 : decode cX1_halveLoans 37 = .ok (.ifCond .le 7, 3) := by decide +kernel
theorem dX1_halveLoans_40 : decode cX1_halveLoans 40 = .ok (.iconst 1, 1) := by decide +kernel
theorem dX1_halveLoans_41 : decode cX1_halveLoans 41 = .ok (.goto 4, 3) := by decide +kernel
theorem dX1_halveLoans_44 : decode cX1_halveLoans 44 = .ok (.iconst 0, 1) := by decide +kernel
theorem dX1_halveLoans_45 : decode cX1_halveLoans 45 = .ok (.iadd, 1) := by decide +kernel
theorem dX1_halveLoans_46 : decode cX1_halveLoans 46 = .ok (.istore_n 1, 1) := by decide +kernel
theorem dX1_halveLoans_47 : decode cX1_halveLoans 47 = .ok (.iinc 3 1, 3) := by decide +kernel
theorem dX1_halveLoans_50 : decode cX1_halveLoans 50 = .ok (.goto (-39), 3) := by decide +kernel
theorem dX1_halveLoans_53 : decode cX1_halveLoans 53 = .ok (.iinc 2 1, 3) := by decide +kernel
theorem dX1_halveLoans_56 : decode cX1_halveLoans 56 = .ok (.goto (-52), 3) := by decide +kernel
theorem dX1_halveLoans_59 : decode cX1_halveLoans 59 = .ok (.aload_n 0, 1) := by decide +kernel
theorem dX1_halveLoans_60 : decode cX1_halveLoans 60 = .ok (.invokevirtual 32, 3) := by decide +kernel
theorem dX1_halveLoans_63 : decode cX1_halveLoans 63 = .ok (.iload_n 1, 1) := by decide +kernel
theorem dX1_halveLoans_64 : decode cX1_halveLoans 64 = .ok (.ireturn, 1) := by decide +kernel
theorem dX1_tellWalked_0 : decode cX1_tellWalked 0 = .ok (.iconst 0, 1) := by decide +kernel
theorem dX1_tellWalked_1 : decode cX1_tellWalked 1 = .ok (.istore_n 1, 1) := by decide +kernel
theorem dX1_tellWalked_2 : decode cX1_tellWalked 2 = .ok (.iload_n 1, 1) := by decide +kernel
theorem dX1_tellWalked_3 : decode cX1_tellWalked 3 = .ok (.bipush 9, 2) := by decide +kernel
theorem dX1_tellWalked_5 : decode cX1_tellWalked 5 = .ok (.if_icmp .ge 23, 3) := by decide +kernel
theorem dX1_tellWalked_8 : decode cX1_tellWalked 8 = .ok (.aload_n 0, 1) := by decide +kernel
theorem dX1_tellWalked_9 : decode cX1_tellWalked 9 = .ok (.getfield 26, 3) := by decide +kernel
theorem dX1_tellWalked_12 : decode cX1_tellWalked 12 = .ok (.iload_n 1, 1) := by decide +kernel
theorem dX1_tellWalked_13 : decode cX1_tellWalked 13 = .ok (.iconst 0, 1) := by decide +kernel
theorem dX1_tellWalked_14 : decode cX1_tellWalked 14 = .ok (.iastore, 1) := by decide +kernel
theorem dX1_tellWalked_15 : decode cX1_tellWalked 15 = .ok (.aload_n 0, 1) := by decide +kernel
theorem dX1_tellWalked_16 : decode cX1_tellWalked 16 = .ok (.getfield 29, 3) := by decide +kernel
theorem dX1_tellWalked_19 : decode cX1_tellWalked 19 = .ok (.iload_n 1, 1) := by decide +kernel
theorem dX1_tellWalked_20 : decode cX1_tellWalked 20 = .ok (.iconst 0, 1) := by decide +kernel
theorem dX1_tellWalked_21 : decode cX1_tellWalked 21 = .ok (.iastore, 1) := by decide +kernel
theorem dX1_tellWalked_22 : decode cX1_tellWalked 22 = .ok (.iinc 1 1, 3) := by decide +kernel
theorem dX1_tellWalked_25 : decode cX1_tellWalked 25 = .ok (.goto (-23), 3) := by decide +kernel
theorem dX1_tellWalked_28 : decode cX1_tellWalked 28 = .ok (.iconst 0, 1) := by decide +kernel
theorem dX1_tellWalked_29 : decode cX1_tellWalked 29 = .ok (.istore_n 1, 1) := by decide +kernel
theorem dX1_tellWalked_30 : decode cX1_tellWalked 30 = .ok (.iload_n 1, 1) := by decide +kernel
theorem dX1_tellWalked_31 : decode cX1_tellWalked 31 = .ok (.iconst 4, 1) := by decide +kernel
theorem dX1_tellWalked_32 : decode cX1_tellWalked 32 = .ok (.if_icmp .ge 63, 3) := by decide +kernel
theorem dX1_tellWalked_35 : decode cX1_tellWalked 35 = .ok (.iconst 0, 1) := by decide +kernel
theorem dX1_tellWalked_36 : decode cX1_tellWalked 36 = .ok (.istore_n 2, 1) := by decide +kernel
theorem dX1_tellWalked_37 : decode cX1_tellWalked 37 = .ok (.iload_n 2, 1) := by decide +kernel
theorem dX1_tellWalked_38 : decode cX1_tellWalked 38 = .ok (.iconst 5, 1) := by decide +kernel
theorem dX1_tellWalked_39 : decode cX1_tellWalked 39 = .ok (.if_icmp .ge 50, 3) := by decide +kernel
theorem dX1_tellWalked_42 : decode cX1_tellWalked 42 = .ok (.aload_n 0, 1) := by decide +kernel
theorem dX1_tellWalked_43 : decode cX1_tellWalked 43 = .ok (.getfield 16, 3) := by decide +kernel
theorem dX1_tellWalked_46 : decode cX1_tellWalked 46 = .ok (.iload_n 2, 1) := by decide +kernel
theorem dX1_tellWalked_47 : decode cX1_tellWalked 47 = .ok (.iaload, 1) := by decide +kernel
theorem dX1_tellWalked_48 : decode cX1_tellWalked 48 = .ok (.iconst 2, 1) := by decide +kernel
theorem dX1_tellWalked_49 : decode cX1_tellWalked 49 = .ok (.if_icmp .ne 7, 3) := by decide +kernel
theorem dX1_tellWalked_52 : decode cX1_tellWalked 52 = .ok (.iconst 0, 1) := by decide +kernel
theorem dX1_tellWalked_53 : decode cX1_tellWalked 53 = .ok (.goto 11, 3) := by decide +kernel
theorem dX1_tellWalked_56 : decode cX1_tellWalked 56 = .ok (.aload_n 0, 1) := by decide +kernel
theorem dX1_tellWalked_57 : decode cX1_tellWalked 57 = .ok (.getfield 11, 3) := by decide +kernel
theorem dX1_tellWalked_60 : decode cX1_tellWalked 60 = .ok (.iload_n 1, 1) := by decide +kernel
theorem dX1_tellWalked_61 : decode cX1_tellWalked 61 = .ok (.aaload, 1) := by decide +kernel
theorem dX1_tellWalked_62 : decode cX1_tellWalked 62 = .ok (.iload_n 2, 1) := by decide +kernel
theorem dX1_tellWalked_63 : decode cX1_tellWalked 63 = .ok (.iaload, 1) := by decide +kernel
theorem dX1_tellWalked_64 : decode cX1_tellWalked 64 = .ok (.istore_n 3, 1) := by decide +kernel
theorem dX1_tellWalked_65 : decode cX1_tellWalked 65 = .ok (.aload_n 0, 1) := by decide +kernel
theorem dX1_tellWalked_66 : decode cX1_tellWalked 66 = .ok (.iload_n 1, 1) := by decide +kernel
theorem dX1_tellWalked_67 : decode cX1_tellWalked 67 = .ok (.iconst 4, 1) := by decide +kernel
theorem dX1_tellWalked_68 : decode cX1_tellWalked 68 = .ok (.iload_n 2, 1) := by decide +kernel
theorem dX1_tellWalked_69 : decode cX1_tellWalked 69 = .ok (.iadd, 1) := by decide +kernel
theorem dX1_tellWalked_70 : decode cX1_tellWalked 70 = .ok (.iload_n 3, 1) := by decide +kernel
theorem dX1_tellWalked_71 : decode cX1_tellWalked 71 = .ok (.invokevirtual 35, 3) := by decide +kernel
theorem dX1_tellWalked_74 : decode cX1_tellWalked 74 = .ok (.aload_n 0, 1) := by decide +kernel
theorem dX1_tellWalked_75 : decode cX1_tellWalked 75 = .ok (.iconst 4, 1) := by decide +kernel
theorem dX1_tellWalked_76 : decode cX1_tellWalked 76 = .ok (.iload_n 2, 1) := by decide +kernel
theorem dX1_tellWalked_77 : decode cX1_tellWalked 77 = .ok (.iadd, 1) := by decide +kernel
theorem dX1_tellWalked_78 : decode cX1_tellWalked 78 = .ok (.iload_n 1, 1) := by decide +kernel
theorem dX1_tellWalked_79 : decode cX1_tellWalked 79 = .ok (.iload_n 3, 1) := by decide +kernel
theorem dX1_tellWalked_80 : decode cX1_tellWalked 80 = .ok (.invokevirtual 35, 3) := by decide +kernel
theorem dX1_tellWalked_83 : decode cX1_tellWalked 83 = .ok (.iinc 2 1, 3) := by decide +kernel
theorem dX1_tellWalked_86 : decode cX1_tellWalked 86 = .ok (.goto (-49), 3) := by decide +kernel
theorem dX1_tellWalked_89 : decode cX1_tellWalked 89 = .ok (.iinc 1 1, 3) := by decide +kernel
theorem dX1_tellWalked_92 : decode cX1_tellWalked 92 = .ok (.goto (-62), 3) := by decide +kernel
theorem dX1_tellWalked_95 : decode cX1_tellWalked 95 = .ok (.return_, 1) := by decide +kernel
theorem dX1_tellNeighbour_0 : decode cX1_tellNeighbour 0 = .ok (.aload_n 0, 1) := by decide +kernel
theorem dX1_tellNeighbour_1 : decode cX1_tellNeighbour 1 = .ok (.getfield 20, 3) := by decide +kernel
theorem dX1_tellNeighbour_4 : decode cX1_tellNeighbour 4 = .ok (.iload_n 1, 1) := by decide +kernel
theorem dX1_tellNeighbour_5 : decode cX1_tellNeighbour 5 = .ok (.aaload, 1) := by decide +kernel
theorem dX1_tellNeighbour_6 : decode cX1_tellNeighbour 6 = .ok (.iload_n 2, 1) := by decide +kernel
theorem dX1_tellNeighbour_7 : decode cX1_tellNeighbour 7 = .ok (.iload_n 3, 1) := by decide +kernel
theorem dX1_tellNeighbour_8 : decode cX1_tellNeighbour 8 = .ok (.iastore, 1) := by decide +kernel
theorem dX1_tellNeighbour_9 : decode cX1_tellNeighbour 9 = .ok (.aload_n 0, 1) := by decide +kernel
theorem dX1_tellNeighbour_10 : decode cX1_tellNeighbour 10 = .ok (.getfield 26, 3) := by decide +kernel
theorem dX1_tellNeighbour_13 : decode cX1_tellNeighbour 13 = .ok (.iload_n 1, 1) := by decide +kernel
theorem dX1_tellNeighbour_14 : decode cX1_tellNeighbour 14 = .ok (.iaload, 1) := by decide +kernel
theorem dX1_tellNeighbour_15 : decode cX1_tellNeighbour 15 = .ok (.istore 4, 2) := by decide +kernel
theorem dX1_tellNeighbour_17 : decode cX1_tellNeighbour 17 = .ok (.iload_n 3, 1) := by decide +kernel
theorem dX1_tellNeighbour_18 : decode cX1_tellNeighbour 18 = .ok (.ifCond .le 40, 3) := by decide +kernel
theorem dX1_tellNeighbour_21 : decode cX1_tellNeighbour 21 = .ok (.iload 4, 2) := by decide +kernel
theorem dX1_tellNeighbour_23 : decode cX1_tellNeighbour 23 = .ok (.bipush 9, 2) := by decide +kernel
theorem dX1_tellNeighbour_25 : decode cX1_tellNeighbour 25 = .ok (.if_icmp .ge 33, 3) := by decide +kernel
theorem dX1_tellNeighbour_28 : decode cX1_tellNeighbour 28 = .ok (.aload_n 0, 1) := by decide +kernel
theorem dX1_tellNeighbour_29 : decode cX1_tellNeighbour 29 = .ok (.getfield 23, 3) := by decide +kernel
theorem dX1_tellNeighbour_32 : decode cX1_tellNeighbour 32 = .ok (.iload_n 1, 1) := by decide +kernel
theorem dX1_tellNeighbour_33 : decode cX1_tellNeighbour 33 = .ok (.aaload, 1) := by decide +kernel
theorem dX1_tellNeighbour_34 : decode cX1_tellNeighbour 34 = .ok (.iload 4, 2) := by decide +kernel
theorem dX1_tellNeighbour_36 : decode cX1_tellNeighbour 36 = .ok (.iload_n 2, 1) := by decide +kernel
theorem dX1_tellNeighbour_37 : decode cX1_tellNeighbour 37 = .ok (.iastore, 1) := by decide +kernel
theorem dX1_tellNeighbour_38 : decode cX1_tellNeighbour 38 = .ok (.aload_n 0, 1) := by decide +kernel
theorem dX1_tellNeighbour_39 : decode cX1_tellNeighbour 39 = .ok (.getfield 26, 3) := by decide +kernel
theorem dX1_tellNeighbour_42 : decode cX1_tellNeighbour 42 = .ok (.iload_n 1, 1) := by decide +kernel
theorem dX1_tellNeighbour_43 : decode cX1_tellNeighbour 43 = .ok (.iload 4, 2) := by decide +kernel
theorem dX1_tellNeighbour_45 : decode cX1_tellNeighbour 45 = .ok (.iconst 1, 1) := by decide +kernel
theorem dX1_tellNeighbour_46 : decode cX1_tellNeighbour 46 = .ok (.iadd, 1) := by decide +kernel
theorem dX1_tellNeighbour_47 : decode cX1_tellNeighbour 47 = .ok (.iastore, 1) := by decide +kernel
theorem dX1_tellNeighbour_48 : decode cX1_tellNeighbour 48 = .ok (.aload_n 0, 1) := by decide +kernel
theorem dX1_tellNeighbour_49 : decode cX1_tellNeighbour 49 = .ok (.getfield 29, 3) := by decide +kernel
theorem dX1_tellNeighbour_52 : decode cX1_tellNeighbour 52 = .ok (.iload_n 1, 1) := by decide +kernel
theorem dX1_tellNeighbour_53 : decode cX1_tellNeighbour 53 = .ok (.dup2, 1) := by decide +kernel
theorem dX1_tellNeighbour_54 : decode cX1_tellNeighbour 54 = .ok (.iaload, 1) := by decide +kernel
theorem dX1_tellNeighbour_55 : decode cX1_tellNeighbour 55 = .ok (.iload_n 3, 1) := by decide +kernel
theorem dX1_tellNeighbour_56 : decode cX1_tellNeighbour 56 = .ok (.iadd, 1) := by decide +kernel
theorem dX1_tellNeighbour_57 : decode cX1_tellNeighbour 57 = .ok (.iastore, 1) := by decide +kernel
theorem dX1_tellNeighbour_58 : decode cX1_tellNeighbour 58 = .ok (.return_, 1) := by decide +kernel
theorem dX2_init_0 : decode cX2_init 0 = .ok (.aload_n 0, 1) := by decide +kernel
theorem dX2_init_1 : decode cX2_init 1 = .ok (.invokespecial 3, 3) := by decide +kernel
theorem dX2_init_4 : decode cX2_init 4 = .ok (.aload_n 0, 1) := by decide +kernel
theorem dX2_init_5 : decode cX2_init 5 = .ok (.bipush 20, 2) := by decide +kernel
theorem dX2_init_7 : decode cX2_init 7 = .ok (.newarray .long, 2) := by decide +kernel
theorem dX2_init_9 : decode cX2_init 9 = .ok (.putfield 11, 3) := by decide +kernel
theorem dX2_init_12 : decode cX2_init 12 = .ok (.aload_n 0, 1) := by decide +kernel
theorem dX2_init_13 : decode cX2_init 13 = .ok (.bipush 20, 2) := by decide +kernel
theorem dX2_init_15 : decode cX2_init 15 = .ok (.newarray .int, 2) := by decide +kernel
theorem dX2_init_17 : decode cX2_init 17 = .ok (.putfield 15, 3) := by decide +kernel
theorem dX2_init_20 : decode cX2_init 20 = .ok (.aload_n 0, 1) := by decide +kernel
theorem dX2_init_21 : decode cX2_init 21 = .ok (.bipush 20, 2) := by decide +kernel
theorem dX2_init_23 : decode cX2_init 23 = .ok (.newarray .int, 2) := by decide +kernel
theorem dX2_init_25 : decode cX2_init 25 = .ok (.putfield 19, 3) := by decide +kernel
theorem dX2_init_28 : decode cX2_init 28 = .ok (.aload_n 0, 1) := by decide +kernel
theorem dX2_init_29 : decode cX2_init 29 = .ok (.iconst 0, 1) := by decide +kernel
theorem dX2_init_30 : decode cX2_init 30 = .ok (.putfield 22, 3) := by decide +kernel
theorem dX2_init_33 : decode cX2_init 33 = .ok (.return_, 1) := by decide +kernel
theorem dX3_init_0 : decode cX3_init 0 = .ok (.aload_n 0, 1) := by decide +kernel
theorem dX3_init_1 : decode cX3_init 1 = .ok (.invokespecial 3, 3) := by decide +kernel
theorem dX3_init_4 : decode cX3_init 4 = .ok (.aload_n 0, 1) := by decide +kernel
theorem dX3_init_5 : decode cX3_init 5 = .ok (.bipush 9, 2) := by decide +kernel
theorem dX3_init_7 : decode cX3_init 7 = .ok (.newarray .long, 2) := by decide +kernel
theorem dX3_init_9 : decode cX3_init 9 = .ok (.putfield 9, 3) := by decide +kernel
theorem dX3_init_12 : decode cX3_init 12 = .ok (.aload_n 0, 1) := by decide +kernel
theorem dX3_init_13 : decode cX3_init 13 = .ok (.bipush 9, 2) := by decide +kernel
theorem dX3_init_15 : decode cX3_init 15 = .ok (.newarray .long, 2) := by decide +kernel
theorem dX3_init_17 : decode cX3_init 17 = .ok (.putfield 15, 3) := by decide +kernel
theorem dX3_init_20 : decode cX3_init 20 = .ok (.aload_n 0, 1) := by decide +kernel
theorem dX3_init_21 : decode cX3_init 21 = .ok (.bipush 9, 2) := by decide +kernel
theorem dX3_init_23 : decode cX3_init 23 = .ok (.bipush 9, 2) := by decide +kernel
theorem dX3_init_25 : decode cX3_init 25 = .ok (.multianewarray 18 2, 4) := by decide +kernel
theorem dX3_init_29 : decode cX3_init 29 = .ok (.putfield 20, 3) := by decide +kernel
theorem dX3_init_32 : decode cX3_init 32 = .ok (.aload_n 0, 1) := by decide +kernel
theorem dX3_init_33 : decode cX3_init 33 = .ok (.iconst 0, 1) := by decide +kernel
theorem dX3_init_34 : decode cX3_init 34 = .ok (.putfield 23, 3) := by decide +kernel
theorem dX3_init_37 : decode cX3_init 37 = .ok (.aload_n 0, 1) := by decide +kernel
theorem dX3_init_38 : decode cX3_init 38 = .ok (.iload_n 1, 1) := by decide +kernel
theorem dX3_init_39 : decode cX3_init 39 = .ok (.putfield 27, 3) := by decide +kernel
theorem dX3_init_42 : decode cX3_init 42 = .ok (.return_, 1) := by decide +kernel
theorem dX3_landedAt_0 : decode cX3_landedAt 0 = .ok (.aload_n 0, 1) := by decide +kernel
theorem dX3_landedAt_1 : decode cX3_landedAt 1 = .ok (.getfield 9, 3) := by decide +kernel
theorem dX3_landedAt_4 : decode cX3_landedAt 4 = .ok (.iload_n 1, 1) := by decide +kernel
theorem dX3_landedAt_5 : decode cX3_landedAt 5 = .ok (.laload, 1) := by decide +kernel
theorem dX3_landedAt_6 : decode cX3_landedAt 6 = .ok (.lreturn, 1) := by decide +kernel
theorem dX3_restOf_0 : decode cX3_restOf 0 = .ok (.aload_n 0, 1) := by decide +kernel
theorem dX3_restOf_1 : decode cX3_restOf 1 = .ok (.getfield 15, 3) := by decide +kernel
theorem dX3_restOf_4 : decode cX3_restOf 4 = .ok (.iload_n 1, 1) := by decide +kernel
theorem dX3_restOf_5 : decode cX3_restOf 5 = .ok (.laload, 1) := by decide +kernel
theorem dX3_restOf_6 : decode cX3_restOf 6 = .ok (.lreturn, 1) := by decide +kernel
theorem dX3_sentTo_0 : decode cX3_sentTo 0 = .ok (.aload_n 0, 1) := by decide +kernel
theorem dX3_sentTo_1 : decode cX3_sentTo 1 = .ok (.getfield 20, 3) := by decide +kernel
theorem dX3_sentTo_4 : decode cX3_sentTo 4 = .ok (.iload_n 1, 1) := by decide +kernel
theorem dX3_sentTo_5 : decode cX3_sentTo 5 = .ok (.aaload, 1) := by decide +kernel
theorem dX3_sentTo_6 : decode cX3_sentTo 6 = .ok (.iload_n 2, 1) := by decide +kernel
theorem dX3_sentTo_7 : decode cX3_sentTo 7 = .ok (.laload, 1) := by decide +kernel
theorem dX3_sentTo_8 : decode cX3_sentTo 8 = .ok (.lreturn, 1) := by decide +kernel
theorem dX3_pushCount_0 : decode cX3_pushCount 0 = .ok (.aload_n 0, 1) := by decide +kernel
theorem dX3_pushCount_1 : decode cX3_pushCount 1 = .ok (.getfield 23, 3) := by decide +kernel
theorem dX3_pushCount_4 : decode cX3_pushCount 4 = .ok (.ireturn, 1) := by decide +kernel
theorem dX3_begin_0 : decode cX3_begin 0 = .ok (.iconst 0, 1) := by decide +kernel
theorem dX3_begin_1 : decode cX3_begin 1 = .ok (.istore_n 1, 1) := by decide +kernel
theorem dX3_begin_2 : decode cX3_begin 2 = .ok (.iload_n 1, 1) := by decide +kernel
theorem dX3_begin_3 : decode cX3_begin 3 = .ok (.bipush 9, 2) := by decide +kernel
theorem dX3_begin_5 : decode cX3_begin 5 = .ok (.if_icmp .ge 46, 3) := by decide +kernel
theorem dX3_begin_8 : decode cX3_begin 8 = .ok (.aload_n 0, 1) := by decide +kernel
theorem dX3_begin_9 : decode cX3_begin 9 = .ok (.getfield 9, 3) := by decide +kernel
theorem dX3_begin_12 : decode cX3_begin 12 = .ok (.iload_n 1, 1) := by decide +kernel
theorem dX3_begin_13 : decode cX3_begin 13 = .ok (.lconst 0, 1) := by decide +kernel
theorem dX3_begin_14 : decode cX3_begin 14 = .ok (.lastore, 1) := by decide +kernel
theorem dX3_begin_15 : decode cX3_begin 15 = .ok (.aload_n 0, 1) := by decide +kernel
theorem dX3_begin_16 : decode cX3_begin 16 = .ok (.getfield 15, 3) := by decide +kernel
theorem dX3_begin_19 : decode cX3_begin 19 = .ok (.iload_n 1, 1) := by decide +kernel
theorem dX3_begin_20 : decode cX3_begin 20 = .ok (.lconst 0, 1) := by decide +kernel
theorem dX3_begin_21 : decode cX3_begin 21 = .ok (.lastore, 1) := by decide +kernel
theorem dX3_begin_22 : decode cX3_begin 22 = .ok (.iconst 0, 1) := by decide +kernel
theorem dX3_begin_23 : decode cX3_begin 23 = .ok (.istore_n 2, 1) := by decide +kernel
theorem dX3_begin_24 : decode cX3_begin 24 = .ok (.iload_n 2, 1) := by decide +kernel
theorem dX3_begin_25 : decode cX3_begin 25 = .ok (.bipush 9, 2) := by decide +kernel
theorem dX3_begin_27 : decode cX3_begin 27 = .ok (.if_icmp .ge 18, 3) := by decide +kernel
theorem dX3_begin_30 : decode cX3_begin 30 = .ok (.aload_n 0, 1) := by decide +kernel
theorem dX3_begin_31 : decode cX3_begin 31 = .ok (.getfield 20, 3) := by decide +kernel
theorem dX3_begin_34 : decode cX3_begin 34 = .ok (.iload_n 1, 1) := by decide +kernel
theorem dX3_begin_35 : decode cX3_begin 35 = .ok (.aaload, 1) := by decide +kernel
theorem dX3_begin_36 : decode cX3_begin 36 = .ok (.iload_n 2, 1) := by decide +kernel
theorem dX3_begin_37 : decode cX3_begin 37 = .ok (.lconst 0, 1) := by decide +kernel
theorem dX3_begin_38 : decode cX3_begin 38 = .ok (.lastore, 1) := by decide +kernel
theorem dX3_begin_39 : decode cX3_begin 39 = .ok (.iinc 2 1, 3) := by decide +kernel
theorem dX3_begin_42 : decode cX3_begin 42 = .ok (.goto (-18), 3) := by decide +kernel
theorem dX3_begin_45 : decode cX3_begin 45 = .ok (.iinc 1 1, 3) := by decide +kernel
theorem dX3_begin_48 : decode cX3_begin 48 = .ok (.goto (-46), 3) := by decide +kernel
theorem dX3_begin_51 : decode cX3_begin 51 = .ok (.aload_n 0, 1) := by decide +kernel
theorem dX3_begin_52 : decode cX3_begin 52 = .ok (.getfield 15, 3) := by decide +kernel
theorem dX3_begin_55 : decode cX3_begin 55 = .ok (.aload_n 0, 1) := by decide +kernel
theorem dX3_begin_56 : decode cX3_begin 56 = .ok (.getfield 27, 3) := by decide +kernel
theorem dX3_begin_59 : decode cX3_begin 59 = .ok (.ldc2_w 30, 3) := by decide +kernel
theorem dX3_begin_62 : decode cX3_begin 62 = .ok (.lastore, 1) := by decide +kernel
theorem dX3_begin_63 : decode cX3_begin 63 = .ok (.return_, 1) := by decide +kernel
theorem dX3_settle_0 : decode cX3_settle 0 = .ok (.aload_n 0, 1) := by decide +kernel
theorem dX3_settle_1 : decode cX3_settle 1 = .ok (.iload_n 3, 1) := by decide +kernel
theorem dX3_settle_2 : decode cX3_settle 2 = .ok (.invokevirtual 32, 3) := by decide +kernel
theorem dX3_settle_5 : decode cX3_settle 5 = .ok (.istore 4, 2) := by decide +kernel
theorem dX3_settle_7 : decode cX3_settle 7 = .ok (.iconst 0, 1) := by decide +kernel
theorem dX3_settle_8 : decode cX3_settle 8 = .ok (.istore 5, 2) := by decide +kernel
theorem dX3_settle_10 : decode cX3_settle 10 = .ok (.iload 5, 2) := by decide +kernel
theorem dX3_settle_12 : decode cX3_settle 12 = .ok (.ldc 36, 2) := by decide +kernel
theorem dX3_settle_14 : decode cX3_settle 14 = .ok (.if_icmp .ge 30, 3) := by decide +kernel
theorem dX3_settle_17 : decode cX3_settle 17 = .ok (.iload 4, 2) := by decide +kernel
theorem dX3_settle_19 : decode cX3_settle 19 = .ok (.iconst (-1), 1) := by decide +kernel
theorem dX3_settle_20 : decode cX3_settle 20 = .ok (.if_icmp .eq 24, 3) := by decide +kernel
theorem dX3_settle_23 : decode cX3_settle 23 = .ok (.aload_n 0, 1) := by decide +kernel
theorem dX3_settle_24 : decode cX3_settle 24 = .ok (.aload_n 1, 1) := by decide +kernel
theorem dX3_settle_25 : decode cX3_settle 25 = .ok (.iload 4, 2) := by decide +kernel
theorem dX3_settle_27 : decode cX3_settle 27 = .ok (.iload_n 2, 1) := by decide +kernel
theorem dX3_settle_28 : decode cX3_settle 28 = .ok (.invokevirtual 37, 3) := by decide +kernel
theorem dX3_settle_31 : decode cX3_settle 31 = .ok (.aload_n 0, 1) := by decide +kernel
theorem dX3_settle_32 : decode cX3_settle 32 = .ok (.iload_n 3, 1) := by decide +kernel
theorem dX3_settle_33 : decode cX3_settle 33 = .ok (.invokevirtual 32, 3) := by decide +kernel
theorem dX3_settle_36 : decode cX3_settle 36 = .ok (.istore 4, 2) := by decide +kernel
theorem dX3_settle_38 : decode cX3_settle 38 = .ok (.iinc 5 1, 3) := by decide +kernel
theorem dX3_settle_41 : decode cX3_settle 41 = .ok (.goto (-31), 3) := by decide +kernel
theorem dX3_settle_44 : decode cX3_settle 44 = .ok (.return_, 1) := by decide +kernel
theorem dX3_mend_0 : decode cX3_mend 0 = .ok (.iconst 0, 1) := by decide +kernel
theorem dX3_mend_1 : decode cX3_mend 1 = .ok (.istore_n 2, 1) := by decide +kernel
theorem dX3_mend_2 : decode cX3_mend 2 = .ok (.iload_n 2, 1) := by decide +kernel
theorem dX3_mend_3 : decode cX3_mend 3 = .ok (.bipush 9, 2) := by decide +kernel
theorem dX3_mend_5 : decode cX3_mend 5 = .ok (.if_icmp .ge 20, 3) := by decide +kernel
theorem dX3_mend_8 : decode cX3_mend 8 = .ok (.aload_n 0, 1) := by decide +kernel
theorem dX3_mend_9 : decode cX3_mend 9 = .ok (.aload_n 1, 1) := by decide +kernel
theorem dX3_mend_10 : decode cX3_mend 10 = .ok (.iload_n 2, 1) := by decide +kernel
theorem dX3_mend_11 : decode cX3_mend 11 = .ok (.aload_n 0, 1) := by decide +kernel
theorem dX3_mend_12 : decode cX3_mend 12 = .ok (.iload_n 2, 1) := by decide +kernel
theorem dX3_mend_13 : decode cX3_mend 13 = .ok (.invokevirtual 41, 3) := by decide +kernel
theorem dX3_mend_16 : decode cX3_mend 16 = .ok (.invokevirtual 45, 3) := by decide +kernel
theorem dX3_mend_19 : decode cX3_mend 19 = .ok (.iinc 2 1, 3) := by decide +kernel
theorem dX3_mend_22 : decode cX3_mend 22 = .ok (.goto (-20), 3) := by decide +kernel
theorem dX3_mend_25 : decode cX3_mend 25 = .ok (.return_, 1) := by decide +kernel
theorem dX3_lowestUnsettled_0 : decode cX3_lowestUnsettled 0 = .ok (.iconst 0, 1) := by decide +kernel
theorem dX3_lowestUnsettled_1 : decode cX3_lowestUnsettled 1 = .ok (.istore_n 2, 1) := by decide +kernel
theorem dX3_lowestUnsettled_2 : decode cX3_lowestUnsettled 2 = .ok (.iload_n 2, 1) := by decide +kernel
theorem dX3_lowestUnsettled_3 : decode cX3_lowestUnsettled 3 = .ok (.bipush 9, 2) := by decide +kernel
theorem dX3_lowestUnsettled_5 : decode cX3_lowestUnsettled 5 = .ok (.if_icmp .ge 36, 3) := by decide +kernel
theorem dX3_lowestUnsettled_8 : decode cX3_lowestUnsettled 8 = .ok (.aload_n 0, 1) := by decide +kernel
theorem dX3_lowestUnsettled_9 : decode cX3_lowestUnsettled 9 = .ok (.getfield 15, 3) := by decide +kernel
theorem dX3_lowestUnsettled_12 : decode cX3_lowestUnsettled 12 = .ok (.iload_n 2, 1) := by decide +kernel
theorem dX3_lowestUnsettled_13 : decode cX3_lowestUnsettled 13 = .ok (.laload, 1) := by decide +kernel
theorem dX3_lowestUnsettled_14 : decode cX3_lowestUnsettled 14 = .ok (.iload_n 1, 1) := by decide +kernel
theorem dX3_lowestUnsettled_15 : decode cX3_lowestUnsettled 15 = .ok (.i2l, 1) := by decide +kernel
theorem dX3_lowestUnsettled_16 : decode cX3_lowestUnsettled 16 = .ok (.lcmp, 1) := by decide +kernel
theorem dX3_lowestUnsettled_17 : decode cX3_lowestUnsettled 17 = .ok (.ifCond .ge 16, 3) := by decide +kernel
theorem dX3_lowestUnsettled_20 : decode cX3_lowestUnsettled 20 = .ok (.aload_n 0, 1) := by decide +kernel
theorem dX3_lowestUnsettled_21 : decode cX3_lowestUnsettled 21 = .ok (.getfield 15, 3) := by decide +kernel
theorem dX3_lowestUnsettled_24 : decode cX3_lowestUnsettled 24 = .ok (.iload_n 2, 1) := by decide +kernel
theorem dX3_lowestUnsettled_25 : decode cX3_lowestUnsettled 25 = .ok (.laload, 1) := by decide +kernel
theorem dX3_lowestUnsettled_26 : decode cX3_lowestUnsettled 26 = .ok (.iload_n 1, 1) := by decide +kernel
theorem dX3_lowestUnsettled_27 : decode cX3_lowestUnsettled 27 = .ok (.ineg, 1) := by decide +kernel
theorem dX3_lowestUnsettled_28 : decode cX3_lowestUnsettled 28 = .ok (.i2l, 1) := by decide +kernel
theorem dX3_lowestUnsettled_29 : decode cX3_lowestUnsettled 29 = .ok (.lcmp, 1) := by decide +kernel
theorem dX3_lowestUnsettled_30 : decode cX3_lowestUnsettled 30 = .ok (.ifCond .gt 5, 3) := by decide +kernel
theorem dX3_lowestUnsettled_33 : decode cX3_lowestUnsettled 33 = .ok (.iload_n 2, 1) := by decide +kernel
theorem dX3_lowestUnsettled_34 : decode cX3_lowestUnsettled 34 = .ok (.ireturn, 1) := by decide +kernel
theorem dX3_lowestUnsettled_35 : decode cX3_lowestUnsettled 35 = .ok (.iinc 2 1, 3) := by decide +kernel
theorem dX3_lowestUnsettled_38 : decode cX3_lowestUnsettled 38 = .ok (.goto (-36), 3) := by decide +kernel
theorem dX3_lowestUnsettled_41 : decode cX3_lowestUnsettled 41 = .ok (.iconst (-1), 1) := by decide +kernel
theorem dX3_lowestUnsettled_42 : decode cX3_lowestUnsettled 42 = .ok (.ireturn, 1) := by decide +kernel
theorem dX3_push_0 : decode cX3_push 0 = .ok (.aload_n 0, 1) := by decide +kernel
theorem dX3_push_1 : decode cX3_push 1 = .ok (.getfield 15, 3) := by decide +kernel
theorem dX3_push_4 : decode cX3_push 4 = .ok (.iload_n 2, 1) := by decide +kernel
theorem dX3_push_5 : decode cX3_push 5 = .ok (.laload, 1) := by decide +kernel
theorem dX3_push_6 : decode cX3_push 6 = .ok (.lstore 4, 2) := by decide +kernel
theorem dX3_push_8 : decode cX3_push 8 = .ok (.lload 4, 2) := by decide +kernel
theorem dX3_push_10 : decode cX3_push 10 = .ok (.bipush 100, 2) := by decide +kernel
theorem dX3_push_12 : decode cX3_push 12 = .ok (.iload_n 3, 1) := by decide +kernel
theorem dX3_push_13 : decode cX3_push 13 = .ok (.isub, 1) := by decide +kernel
theorem dX3_push_14 : decode cX3_push 14 = .ok (.i2l, 1) := by decide +kernel
theorem dX3_push_15 : decode cX3_push 15 = .ok (.lmul, 1) := by decide +kernel
theorem dX3_push_16 : decode cX3_push 16 = .ok (.ldc2_w 49, 3) := by decide +kernel
theorem dX3_push_19 : decode cX3_push 19 = .ok (.ldiv, 1) := by decide +kernel
theorem dX3_push_20 : decode cX3_push 20 = .ok (.lstore 6, 2) := by decide +kernel
theorem dX3_push_22 : decode cX3_push 22 = .ok (.aload_n 0, 1) := by decide +kernel
theorem dX3_push_23 : decode cX3_push 23 = .ok (.getfield 15, 3) := by decide +kernel
theorem dX3_push_26 : decode cX3_push 26 = .ok (.iload_n 2, 1) := by decide +kernel
theorem dX3_push_27 : decode cX3_push 27 = .ok (.lconst 0, 1) := by decide +kernel
theorem dX3_push_28 : decode cX3_push 28 = .ok (.lastore, 1) := by decide +kernel
theorem dX3_push_29 : decode cX3_push 29 = .ok (.aload_n 0, 1) := by decide +kernel
theorem dX3_push_30 : decode cX3_push 30 = .ok (.getfield 9, 3) := by decide +kernel
theorem dX3_push_33 : decode cX3_push 33 = .ok (.iload_n 2, 1) := by decide +kernel
theorem dX3_push_34 : decode cX3_push 34 = .ok (.dup2, 1) := by decide +kernel
theorem dX3_push_35 : decode cX3_push 35 = .ok (.laload, 1) := by decide +kernel
theorem dX3_push_36 : decode cX3_push 36 = .ok (.lload 6, 2) := by decide +kernel
theorem dX3_push_38 : decode cX3_push 38 = .ok (.ladd, 1) := by decide +kernel
theorem dX3_push_39 : decode cX3_push 39 = .ok (.lastore, 1) := by decide +kernel
theorem dX3_push_40 : decode cX3_push 40 = .ok (.aload_n 0, 1) := by decide +kernel
theorem dX3_push_41 : decode cX3_push 41 = .ok (.aload_n 1, 1) := by decide +kernel
theorem dX3_push_42 : decode cX3_push 42 = .ok (.iload_n 2, 1) := by decide +kernel
theorem dX3_push_43 : decode cX3_push 43 = .ok (.lload 4, 2) := by decide +kernel
theorem dX3_push_45 : decode cX3_push 45 = .ok (.lload 6, 2) := by decide +kernel
theorem dX3_push_47 : decode cX3_push 47 = .ok (.lsub, 1) := by decide +kernel
theorem dX3_push_48 : decode cX3_push 48 = .ok (.invokevirtual 45, 3) := by decide +kernel
theorem dX3_push_51 : decode cX3_push 51 = .ok (.aload_n 0, 1) := by decide +kernel
theorem dX3_push_52 : decode cX3_push 52 = .ok (.dup, 1) := by decide +kernel
theorem dX3_push_53 : decode cX3_push 53 = .ok (.getfield 23, 3) := by decide +kernel
theorem dX3_push_56 : decode cX3_push 56 = .ok (.iconst 1, 1) := by decide +kernel
theorem dX3_push_57 : decode cX3_push 57 = .ok (.iadd, 1) := by decide +kernel
theorem dX3_push_58 : decode cX3_push 58 = .ok (.putfield 23, 3) := by decide +kernel
theorem dX3_push_61 : decode cX3_push 61 = .ok (.return_, 1) := by decide +kernel
theorem dX3_takeBack_0 : decode cX3_takeBack 0 = .ok (.lconst 0, 1) := by decide +kernel
theorem dX3_takeBack_1 : decode cX3_takeBack 1 = .ok (.lstore_n 2, 1) := by decide +kernel
theorem dX3_takeBack_2 : decode cX3_takeBack 2 = .ok (.iconst 0, 1) := by decide +kernel
theorem dX3_takeBack_3 : decode cX3_takeBack 3 = .ok (.istore 4, 2) := by decide +kernel
theorem dX3_takeBack_5 : decode cX3_takeBack 5 = .ok (.iload 4, 2) := by decide +kernel
theorem dX3_takeBack_7 : decode cX3_takeBack 7 = .ok (.bipush 9, 2) := by decide +kernel
theorem dX3_takeBack_9 : decode cX3_takeBack 9 = .ok (.if_icmp .ge 47, 3) := by decide +kernel
theorem dX3_takeBack_12 : decode cX3_takeBack 12 = .ok (.aload_n 0, 1) := by decide +kernel
theorem dX3_takeBack_13 : decode cX3_takeBack 13 = .ok (.getfield 20, 3) := by decide +kernel
theorem dX3_takeBack_16 : decode cX3_takeBack 16 = .ok (.iload_n 1, 1) := by decide +kernel
theorem dX3_takeBack_17 : decode cX3_takeBack 17 = .ok (.aaload, 1) := by decide +kernel
theorem dX3_takeBack_18 : decode cX3_takeBack 18 = .ok (.iload 4, 2) := by decide +kernel
theorem dX3_takeBack_20 : decode cX3_takeBack 20 = .ok (.laload, 1) := by decide +kernel
theorem dX3_takeBack_21 : decode cX3_takeBack 21 = .ok (.lstore 5, 2) := by decide +kernel
theorem dX3_takeBack_23 : decode cX3_takeBack 23 = .ok (.lload_n 2, 1) := by decide +kernel
theorem dX3_takeBack_24 : decode cX3_takeBack 24 = .ok (.lload 5, 2) := by decide +kernel
theorem dX3_takeBack_26 : decode cX3_takeBack 26 = .ok (.ladd, 1) := by decide +kernel
theorem dX3_takeBack_27 : decode cX3_takeBack 27 = .ok (.lstore_n 2, 1) := by decide +kernel
theorem dX3_takeBack_28 : decode cX3_takeBack 28 = .ok (.aload_n 0, 1) := by decide +kernel
theorem dX3_takeBack_29 : decode cX3_takeBack 29 = .ok (.getfield 15, 3) := by decide +kernel
theorem dX3_takeBack_32 : decode cX3_takeBack 32 = .ok (.iload 4, 2) := by decide +kernel
theorem dX3_takeBack_34 : decode cX3_takeBack 34 = .ok (.dup2, 1) := by decide +kernel
theorem dX3_takeBack_35 : decode cX3_takeBack 35 = .ok (.laload, 1) := by decide +kernel
theorem dX3_takeBack_36 : decode cX3_takeBack 36 = .ok (.lload 5, 2) := by decide +kernel
theorem dX3_takeBack_38 : decode cX3_takeBack 38 = .ok (.lsub, 1) := by decide +kernel
theorem dX3_takeBack_39 : decode cX3_takeBack 39 = .ok (.lastore, 1) := by decide +kernel
theorem dX3_takeBack_40 : decode cX3_takeBack 40 = .ok (.aload_n 0, 1) := by decide +kernel
theorem dX3_takeBack_41 : decode cX3_takeBack 41 = .ok (.getfield 20, 3) := by decide +kernel
theorem dX3_takeBack_44 : decode cX3_takeBack 44 = .ok (.iload_n 1, 1) := by decide +kernel
theorem dX3_takeBack_45 : decode cX3_takeBack 45 = .ok (.aaload, 1) := by decide +kernel
theorem dX3_takeBack_46 : decode cX3_takeBack 46 = .ok (.iload 4, 2) := by decide +kernel
theorem dX3_takeBack_48 : decode cX3_takeBack 48 = .ok (.lconst 0, 1) := by decide +kernel
theorem dX3_takeBack_49 : decode cX3_takeBack 49 = .ok (.lastore, 1) := by decide +kernel
theorem dX3_takeBack_50 : decode cX3_takeBack 50 = .ok (.iinc 4 1, 3) := by decide +kernel
theorem dX3_takeBack_53 : decode cX3_takeBack 53 = .ok (.goto (-48), 3) := by decide +kernel
theorem dX3_takeBack_56 : decode cX3_takeBack 56 = .ok (.lload_n 2, 1) := by decide +kernel
theorem dX3_takeBack_57 : decode cX3_takeBack 57 = .ok (.lreturn, 1) := by decide +kernel
theorem dX3_send_0 : decode cX3_send 0 = .ok (.aload_n 1, 1) := by decide +kernel
theorem dX3_send_1 : decode cX3_send 1 = .ok (.iload_n 2, 1) := by decide +kernel
theorem dX3_send_2 : decode cX3_send 2 = .ok (.invokevirtual 51, 3) := by decide +kernel
theorem dX3_send_5 : decode cX3_send 5 = .ok (.istore 5, 2) := by decide +kernel
theorem dX3_send_7 : decode cX3_send 7 = .ok (.aload_n 1, 1) := by decide +kernel
theorem dX3_send_8 : decode cX3_send 8 = .ok (.iload_n 2, 1) := by decide +kernel
theorem dX3_send_9 : decode cX3_send 9 = .ok (.invokevirtual 56, 3) := by decide +kernel
theorem dX3_send_12 : decode cX3_send 12 = .ok (.istore 6, 2) := by decide +kernel
theorem dX3_send_14 : decode cX3_send 14 = .ok (.iload 5, 2) := by decide +kernel
theorem dX3_send_16 : decode cX3_send 16 = .ok (.ifCond .eq 8, 3) := by decide +kernel
theorem dX3_send_19 : decode cX3_send 19 = .ok (.iload 6, 2) := by decide +kernel
theorem dX3_send_21 : decode cX3_send 21 = .ok (.ifCond .ne 14, 3) := by decide +kernel
theorem dX3_send_24 : decode cX3_send 24 = .ok (.aload_n 0, 1) := by decide +kernel
theorem dX3_send_25 : decode cX3_send 25 = .ok (.iload_n 2, 1) := by decide +kernel
theorem dX3_send_26 : decode cX3_send 26 = .ok (.aload_n 0, 1) := by decide +kernel
theorem dX3_send_27 : decode cX3_send 27 = .ok (.getfield 27, 3) := by decide +kernel
theorem dX3_send_30 : decode cX3_send 30 = .ok (.lload_n 3, 1) := by decide +kernel
theorem dX3_send_31 : decode cX3_send 31 = .ok (.invokevirtual 59, 3) := by decide +kernel
theorem dX3_send_34 : decode cX3_send 34 = .ok (.return_, 1) := by decide +kernel
theorem dX3_send_35 : decode cX3_send 35 = .ok (.lload_n 3, 1) := by decide +kernel
theorem dX3_send_36 : decode cX3_send 36 = .ok (.lstore 7, 2) := by decide +kernel
theorem dX3_send_38 : decode cX3_send 38 = .ok (.iconst 1, 1) := by decide +kernel
theorem dX3_send_39 : decode cX3_send 39 = .ok (.istore 9, 2) := by decide +kernel
theorem dX3_send_41 : decode cX3_send 41 = .ok (.iload 9, 2) := by decide +kernel
theorem dX3_send_43 : decode cX3_send 43 = .ok (.iload 5, 2) := by decide +kernel
theorem dX3_send_45 : decode cX3_send 45 = .ok (.if_icmp .ge 50, 3) := by decide +kernel
theorem dX3_send_48 : decode cX3_send 48 = .ok (.aload_n 1, 1) := by decide +kernel
theorem dX3_send_49 : decode cX3_send 49 = .ok (.iload_n 2, 1) := by decide +kernel
theorem dX3_send_50 : decode cX3_send 50 = .ok (.iload 9, 2) := by decide +kernel
theorem dX3_send_52 : decode cX3_send 52 = .ok (.invokevirtual 63, 3) := by decide +kernel
theorem dX3_send_55 : decode cX3_send 55 = .ok (.istore 10, 2) := by decide +kernel
theorem dX3_send_57 : decode cX3_send 57 = .ok (.lload_n 3, 1) := by decide +kernel
theorem dX3_send_58 : decode cX3_send 58 = .ok (.aload_n 1, 1) := by decide +kernel
theorem dX3_send_59 : decode cX3_send 59 = .ok (.iload_n 2, 1) := by decide +kernel
theorem dX3_send_60 : decode cX3_send 60 = .ok (.iload 10, 2) := by decide +kernel
theorem dX3_send_62 : decode cX3_send 62 = .ok (.invokevirtual 67, 3) := by decide +kernel
theorem dX3_send_65 : decode cX3_send 65 = .ok (.i2l, 1) := by decide +kernel
theorem dX3_send_66 : decode cX3_send 66 = .ok (.lmul, 1) := by decide +kernel
theorem dX3_send_67 : decode cX3_send 67 = .ok (.iload 6, 2) := by decide +kernel
theorem dX3_send_69 : decode cX3_send 69 = .ok (.i2l, 1) := by decide +kernel
theorem dX3_send_70 : decode cX3_send 70 = .ok (.ldiv, 1) := by decide +kernel
theorem dX3_send_71 : decode cX3_send 71 = .ok (.lstore 11, 2) := by decide +kernel
theorem dX3_send_73 : decode cX3_send 73 = .ok (.aload_n 0, 1) := by decide +kernel
theorem dX3_send_74 : decode cX3_send 74 = .ok (.iload_n 2, 1) := by decide +kernel
theorem dX3_send_75 : decode cX3_send 75 = .ok (.iload 10, 2) := by decide +kernel
theorem dX3_send_77 : decode cX3_send 77 = .ok (.lload 11, 2) := by decide +kernel
theorem dX3_send_79 : decode cX3_send 79 = .ok (.invokevirtual 59, 3) := by decide +kernel
theorem dX3_send_82 : decode cX3_send 82 = .ok (.lload 7, 2) := by decide +kernel
theorem dX3_send_84 : decode cX3_send 84 = .ok (.lload 11, 2) := by decide +kernel
theorem dX3_send_86 : decode cX3_send 86 = .ok (.lsub, 1) := by decide +kernel
theorem dX3_send_87 : decode cX3_send 87 = .ok (.lstore 7, 2) := by decide +kernel
theorem dX3_send_89 : decode cX3_send 89 = .ok (.iinc 9 1, 3) := by decide +kernel
theorem dX3_send_92 : decode cX3_send 92 = .ok (.goto (-51), 3) := by decide +kernel
theorem dX3_send_95 : decode cX3_send 95 = .ok (.aload_n 0, 1) := by decide +kernel
theorem dX3_send_96 : decode cX3_send 96 = .ok (.iload_n 2, 1) := by decide +kernel
theorem dX3_send_97 : decode cX3_send 97 = .ok (.aload_n 1, 1) := by decide +kernel
theorem dX3_send_98 : decode cX3_send 98 = .ok (.iload_n 2, 1) := by decide +kernel
theorem dX3_send_99 : decode cX3_send 99 = .ok (.iconst 0, 1) := by decide +kernel
theorem dX3_send_100 : decode cX3_send 100 = .ok (.invokevirtual 63, 3) := by decide +kernel
theorem dX3_send_103 : decode cX3_send 103 = .ok (.lload 7, 2) := by decide +kernel
theorem dX3_send_105 : decode cX3_send 105 = .ok (.invokevirtual 59, 3) := by decide +kernel
theorem dX3_send_108 : decode cX3_send 108 = .ok (.return_, 1) := by decide +kernel
theorem dX3_give_0 : decode cX3_give 0 = .ok (.aload_n 0, 1) := by decide +kernel
theorem dX3_give_1 : decode cX3_give 1 = .ok (.getfield 15, 3) := by decide +kernel
theorem dX3_give_4 : decode cX3_give 4 = .ok (.iload_n 2, 1) := by decide +kernel
theorem dX3_give_5 : decode cX3_give 5 = .ok (.dup2, 1) := by decide +kernel
theorem dX3_give_6 : decode cX3_give 6 = .ok (.laload, 1) := by decide +kernel
theorem dX3_give_7 : decode cX3_give 7 = .ok (.lload_n 3, 1) := by decide +kernel
theorem dX3_give_8 : decode cX3_give 8 = .ok (.ladd, 1) := by decide +kernel
theorem dX3_give_9 : decode cX3_give 9 = .ok (.lastore, 1) := by decide +kernel
theorem dX3_give_10 : decode cX3_give 10 = .ok (.aload_n 0, 1) := by decide +kernel
theorem dX3_give_11 : decode cX3_give 11 = .ok (.getfield 20, 3) := by decide +kernel
theorem dX3_give_14 : decode cX3_give 14 = .ok (.iload_n 1, 1) := by decide +kernel
theorem dX3_give_15 : decode cX3_give 15 = .ok (.aaload, 1) := by decide +kernel
theorem dX3_give_16 : decode cX3_give 16 = .ok (.iload_n 2, 1) := by decide +kernel
theorem dX3_give_17 : decode cX3_give 17 = .ok (.dup2, 1) := by decide +kernel
theorem dX3_give_18 : decode cX3_give 18 = .ok (.laload, 1) := by decide +kernel
theorem dX3_give_19 : decode cX3_give 19 = .ok (.lload_n 3, 1) := by decide +kernel
theorem dX3_give_20 : decode cX3_give 20 = .ok (.ladd, 1) := by decide +kernel
theorem dX3_give_21 : decode cX3_give 21 = .ok (.lastore, 1) := by decide +kernel
theorem dX3_give_22 : decode cX3_give 22 = .ok (.return_, 1) := by decide +kernel
theorem dX4_init_0 : decode cX4_init 0 = .ok (.aload_n 0, 1) := by decide +kernel
theorem dX4_init_1 : decode cX4_init 1 = .ok (.invokespecial 3, 3) := by decide +kernel
theorem dX4_init_4 : decode cX4_init 4 = .ok (.aload_n 0, 1) := by decide +kernel
theorem dX4_init_5 : decode cX4_init 5 = .ok (.new 9, 3) := by decide +kernel
theorem dX4_init_8 : decode cX4_init 8 = .ok (.dup, 1) := by decide +kernel
theorem dX4_init_9 : decode cX4_init 9 = .ok (.invokespecial 11, 3) := by decide +kernel
theorem dX4_init_12 : decode cX4_init 12 = .ok (.putfield 12, 3) := by decide +kernel
theorem dX4_init_15 : decode cX4_init 15 = .ok (.aload_n 0, 1) := by decide +kernel
theorem dX4_init_16 : decode cX4_init 16 = .ok (.iconst 4, 1) := by decide +kernel
theorem dX4_init_17 : decode cX4_init 17 = .ok (.anewarray 16, 3) := by decide +kernel
