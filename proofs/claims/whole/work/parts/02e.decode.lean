theorem dX4_share_8 : decode cX4_share 8 = .ok (.aload_n 0, 1) := by decide +kernel
theorem dX4_share_9 : decode cX4_share 9 = .ok (.getfield 32, 3) := by decide +kernel
theorem dX4_share_12 : decode cX4_share 12 = .ok (.aload_n 0, 1) := by decide +kernel
theorem dX4_share_13 : decode cX4_share 13 = .ok (.getfield 12, 3) := by decide +kernel
theorem dX4_share_16 : decode cX4_share 16 = .ok (.iload_n 1, 1) := by decide +kernel
theorem dX4_share_17 : decode cX4_share 17 = .ok (.aload_n 0, 1) := by decide +kernel
theorem dX4_share_18 : decode cX4_share 18 = .ok (.getfield 43, 3) := by decide +kernel
theorem dX4_share_21 : decode cX4_share 21 = .ok (.invokevirtual 139, 3) := by decide +kernel
theorem dX4_share_24 : decode cX4_share 24 = .ok (.aload_n 0, 1) := by decide +kernel
theorem dX4_share_25 : decode cX4_share 25 = .ok (.getfield 32, 3) := by decide +kernel
theorem dX4_share_28 : decode cX4_share 28 = .ok (.iload_n 2, 1) := by decide +kernel
theorem dX4_share_29 : decode cX4_share 29 = .ok (.invokevirtual 143, 3) := by decide +kernel
theorem dX4_share_32 : decode cX4_share 32 = .ok (.dreturn, 1) := by decide +kernel
theorem dX4_text_0 : decode cX4_text 0 = .ok (.iload_n 1, 1) := by decide +kernel
theorem dX4_text_1 : decode cX4_text 1 = .ok (.invokestatic 56, 3) := by decide +kernel
theorem dX4_text_4 : decode cX4_text 4 = .ok (.iload_n 2, 1) := by decide +kernel
theorem dX4_text_5 : decode cX4_text 5 = .ok (.invokestatic 59, 3) := by decide +kernel
theorem dX4_text_8 : decode cX4_text 8 = .ok (.iload_n 3, 1) := by decide +kernel
theorem dX4_text_9 : decode cX4_text 9 = .ok (.invokestatic 118, 3) := by decide +kernel
theorem dX4_text_12 : decode cX4_text 12 = .ok (.aload_n 0, 1) := by decide +kernel
theorem dX4_text_13 : decode cX4_text 13 = .ok (.iload_n 1, 1) := by decide +kernel
theorem dX4_text_14 : decode cX4_text 14 = .ok (.iload_n 2, 1) := by decide +kernel
theorem dX4_text_15 : decode cX4_text 15 = .ok (.invokevirtual 147, 3) := by decide +kernel
theorem dX4_text_18 : decode cX4_text 18 = .ok (.iload_n 3, 1) := by decide +kernel
theorem dX4_text_19 : decode cX4_text 19 = .ok (.aload_n 0, 1) := by decide +kernel
theorem dX4_text_20 : decode cX4_text 20 = .ok (.getfield 39, 3) := by decide +kernel
theorem dX4_text_23 : decode cX4_text 23 = .ok (.invokevirtual 150, 3) := by decide +kernel
theorem dX4_text_26 : decode cX4_text 26 = .ok (.if_icmp .ge 14, 3) := by decide +kernel
theorem dX4_text_29 : decode cX4_text 29 = .ok (.aload_n 0, 1) := by decide +kernel
theorem dX4_text_30 : decode cX4_text 30 = .ok (.getfield 39, 3) := by decide +kernel
theorem dX4_text_33 : decode cX4_text 33 = .ok (.iload_n 3, 1) := by decide +kernel
theorem dX4_text_34 : decode cX4_text 34 = .ok (.invokevirtual 153, 3) := by decide +kernel
theorem dX4_text_37 : decode cX4_text 37 = .ok (.goto 4, 3) := by decide +kernel
theorem dX4_text_40 : decode cX4_text 40 = .ok (.iconst 0, 1) := by decide +kernel
theorem dX4_text_41 : decode cX4_text 41 = .ok (.ireturn, 1) := by decide +kernel
theorem dX4_checkReader_0 : decode cX4_checkReader 0 = .ok (.iload_n 0, 1) := by decide +kernel
theorem dX4_checkReader_1 : decode cX4_checkReader 1 = .ok (.ifCond .lt 8, 3) := by decide +kernel
theorem dX4_checkReader_4 : decode cX4_checkReader 4 = .ok (.iload_n 0, 1) := by decide +kernel
theorem dX4_checkReader_5 : decode cX4_checkReader 5 = .ok (.iconst 4, 1) := by decide +kernel
theorem dX4_checkReader_6 : decode cX4_checkReader 6 = .ok (.if_icmp .lt 13, 3) := by decide +kernel
theorem dX4_checkReader_9 : decode cX4_checkReader 9 = .ok (.new 157, 3) := by decide +kernel
theorem dX4_checkReader_12 : decode cX4_checkReader 12 = .ok (.dup, 1) := by decide +kernel
theorem dX4_checkReader_13 : decode cX4_checkReader 13 = .ok (.ldc 159, 2) := by decide +kernel
theorem dX4_checkReader_15 : decode cX4_checkReader 15 = .ok (.invokespecial 161, 3) := by decide +kernel
theorem dX4_checkReader_18 : decode cX4_checkReader 18 = .ok (.athrow, 1) := by decide +kernel
theorem dX4_checkReader_19 : decode cX4_checkReader 19 = .ok (.return_, 1) := by decide +kernel
theorem dX4_checkBook_0 : decode cX4_checkBook 0 = .ok (.iload_n 0, 1) := by decide +kernel
theorem dX4_checkBook_1 : decode cX4_checkBook 1 = .ok (.ifCond .lt 8, 3) := by decide +kernel
theorem dX4_checkBook_4 : decode cX4_checkBook 4 = .ok (.iload_n 0, 1) := by decide +kernel
theorem dX4_checkBook_5 : decode cX4_checkBook 5 = .ok (.iconst 5, 1) := by decide +kernel
theorem dX4_checkBook_6 : decode cX4_checkBook 6 = .ok (.if_icmp .lt 13, 3) := by decide +kernel
theorem dX4_checkBook_9 : decode cX4_checkBook 9 = .ok (.new 157, 3) := by decide +kernel
theorem dX4_checkBook_12 : decode cX4_checkBook 12 = .ok (.dup, 1) := by decide +kernel
theorem dX4_checkBook_13 : decode cX4_checkBook 13 = .ok (.ldc 162, 2) := by decide +kernel
theorem dX4_checkBook_15 : decode cX4_checkBook 15 = .ok (.invokespecial 161, 3) := by decide +kernel
theorem dX4_checkBook_18 : decode cX4_checkBook 18 = .ok (.athrow, 1) := by decide +kernel
theorem dX4_checkBook_19 : decode cX4_checkBook 19 = .ok (.return_, 1) := by decide +kernel
theorem dX4_checkNode_0 : decode cX4_checkNode 0 = .ok (.iload_n 0, 1) := by decide +kernel
theorem dX4_checkNode_1 : decode cX4_checkNode 1 = .ok (.ifCond .lt 9, 3) := by decide +kernel
theorem dX4_checkNode_4 : decode cX4_checkNode 4 = .ok (.iload_n 0, 1) := by decide +kernel
theorem dX4_checkNode_5 : decode cX4_checkNode 5 = .ok (.bipush 9, 2) := by decide +kernel
theorem dX4_checkNode_7 : decode cX4_checkNode 7 = .ok (.if_icmp .lt 13, 3) := by decide +kernel
theorem dX4_checkNode_10 : decode cX4_checkNode 10 = .ok (.new 157, 3) := by decide +kernel
theorem dX4_checkNode_13 : decode cX4_checkNode 13 = .ok (.dup, 1) := by decide +kernel
theorem dX4_checkNode_14 : decode cX4_checkNode 14 = .ok (.ldc 164, 2) := by decide +kernel
theorem dX4_checkNode_16 : decode cX4_checkNode 16 = .ok (.invokespecial 161, 3) := by decide +kernel
theorem dX4_checkNode_19 : decode cX4_checkNode 19 = .ok (.athrow, 1) := by decide +kernel
theorem dX4_checkNode_20 : decode cX4_checkNode 20 = .ok (.return_, 1) := by decide +kernel
theorem dX4_checkPlace_0 : decode cX4_checkPlace 0 = .ok (.iload_n 0, 1) := by decide +kernel
theorem dX4_checkPlace_1 : decode cX4_checkPlace 1 = .ok (.ifCond .ge 13, 3) := by decide +kernel
theorem dX4_checkPlace_4 : decode cX4_checkPlace 4 = .ok (.new 157, 3) := by decide +kernel
theorem dX4_checkPlace_7 : decode cX4_checkPlace 7 = .ok (.dup, 1) := by decide +kernel
theorem dX4_checkPlace_8 : decode cX4_checkPlace 8 = .ok (.ldc 166, 2) := by decide +kernel
theorem dX4_checkPlace_10 : decode cX4_checkPlace 10 = .ok (.invokespecial 161, 3) := by decide +kernel
theorem dX4_checkPlace_13 : decode cX4_checkPlace 13 = .ok (.athrow, 1) := by decide +kernel
theorem dX4_checkPlace_14 : decode cX4_checkPlace 14 = .ok (.return_, 1) := by decide +kernel
theorem dX4_checkRange_0 : decode cX4_checkRange 0 = .ok (.iload_n 0, 1) := by decide +kernel
theorem dX4_checkRange_1 : decode cX4_checkRange 1 = .ok (.iload_n 1, 1) := by decide +kernel
theorem dX4_checkRange_2 : decode cX4_checkRange 2 = .ok (.if_icmp .lt 8, 3) := by decide +kernel
theorem dX4_checkRange_5 : decode cX4_checkRange 5 = .ok (.iload_n 0, 1) := by decide +kernel
theorem dX4_checkRange_6 : decode cX4_checkRange 6 = .ok (.iload_n 2, 1) := by decide +kernel
theorem dX4_checkRange_7 : decode cX4_checkRange 7 = .ok (.if_icmp .le 13, 3) := by decide +kernel
theorem dX4_checkRange_10 : decode cX4_checkRange 10 = .ok (.new 168, 3) := by decide +kernel
theorem dX4_checkRange_13 : decode cX4_checkRange 13 = .ok (.dup, 1) := by decide +kernel
theorem dX4_checkRange_14 : decode cX4_checkRange 14 = .ok (.ldc 170, 2) := by decide +kernel
theorem dX4_checkRange_16 : decode cX4_checkRange 16 = .ok (.invokespecial 172, 3) := by decide +kernel
theorem dX4_checkRange_19 : decode cX4_checkRange 19 = .ok (.athrow, 1) := by decide +kernel
theorem dX4_checkRange_20 : decode cX4_checkRange 20 = .ok (.return_, 1) := by decide +kernel
theorem dX4_beginWalks_0 : decode cX4_beginWalks 0 = .ok (.iconst 0, 1) := by decide +kernel
theorem dX4_beginWalks_1 : decode cX4_beginWalks 1 = .ok (.istore_n 1, 1) := by decide +kernel
theorem dX4_beginWalks_2 : decode cX4_beginWalks 2 = .ok (.iload_n 1, 1) := by decide +kernel
theorem dX4_beginWalks_3 : decode cX4_beginWalks 3 = .ok (.iconst 4, 1) := by decide +kernel
theorem dX4_beginWalks_4 : decode cX4_beginWalks 4 = .ok (.if_icmp .ge 39, 3) := by decide +kernel
theorem dX4_beginWalks_7 : decode cX4_beginWalks 7 = .ok (.aload_n 0, 1) := by decide +kernel
theorem dX4_beginWalks_8 : decode cX4_beginWalks 8 = .ok (.getfield 18, 3) := by decide +kernel
theorem dX4_beginWalks_11 : decode cX4_beginWalks 11 = .ok (.iload_n 1, 1) := by decide +kernel
theorem dX4_beginWalks_12 : decode cX4_beginWalks 12 = .ok (.aaload, 1) := by decide +kernel
theorem dX4_beginWalks_13 : decode cX4_beginWalks 13 = .ok (.invokevirtual 173, 3) := by decide +kernel
theorem dX4_beginWalks_16 : decode cX4_beginWalks 16 = .ok (.aload_n 0, 1) := by decide +kernel
theorem dX4_beginWalks_17 : decode cX4_beginWalks 17 = .ok (.getfield 18, 3) := by decide +kernel
theorem dX4_beginWalks_20 : decode cX4_beginWalks 20 = .ok (.iload_n 1, 1) := by decide +kernel
theorem dX4_beginWalks_21 : decode cX4_beginWalks 21 = .ok (.aaload, 1) := by decide +kernel
theorem dX4_beginWalks_22 : decode cX4_beginWalks 22 = .ok (.aload_n 0, 1) := by decide +kernel
theorem dX4_beginWalks_23 : decode cX4_beginWalks 23 = .ok (.getfield 12, 3) := by decide +kernel
theorem dX4_beginWalks_26 : decode cX4_beginWalks 26 = .ok (.aload_n 0, 1) := by decide +kernel
theorem dX4_beginWalks_27 : decode cX4_beginWalks 27 = .ok (.getfield 43, 3) := by decide +kernel
theorem dX4_beginWalks_30 : decode cX4_beginWalks 30 = .ok (.aload_n 0, 1) := by decide +kernel
theorem dX4_beginWalks_31 : decode cX4_beginWalks 31 = .ok (.getfield 47, 3) := by decide +kernel
theorem dX4_beginWalks_34 : decode cX4_beginWalks 34 = .ok (.invokevirtual 176, 3) := by decide +kernel
theorem dX4_beginWalks_37 : decode cX4_beginWalks 37 = .ok (.iinc 1 1, 3) := by decide +kernel
theorem dX4_beginWalks_40 : decode cX4_beginWalks 40 = .ok (.goto (-38), 3) := by decide +kernel
theorem dX4_beginWalks_43 : decode cX4_beginWalks 43 = .ok (.return_, 1) := by decide +kernel
theorem dX4_mendWalks_0 : decode cX4_mendWalks 0 = .ok (.iconst 0, 1) := by decide +kernel
theorem dX4_mendWalks_1 : decode cX4_mendWalks 1 = .ok (.istore_n 1, 1) := by decide +kernel
theorem dX4_mendWalks_2 : decode cX4_mendWalks 2 = .ok (.iload_n 1, 1) := by decide +kernel
theorem dX4_mendWalks_3 : decode cX4_mendWalks 3 = .ok (.iconst 4, 1) := by decide +kernel
theorem dX4_mendWalks_4 : decode cX4_mendWalks 4 = .ok (.if_icmp .ge 43, 3) := by decide +kernel
theorem dX4_mendWalks_7 : decode cX4_mendWalks 7 = .ok (.aload_n 0, 1) := by decide +kernel
theorem dX4_mendWalks_8 : decode cX4_mendWalks 8 = .ok (.getfield 18, 3) := by decide +kernel
theorem dX4_mendWalks_11 : decode cX4_mendWalks 11 = .ok (.iload_n 1, 1) := by decide +kernel
theorem dX4_mendWalks_12 : decode cX4_mendWalks 12 = .ok (.aaload, 1) := by decide +kernel
theorem dX4_mendWalks_13 : decode cX4_mendWalks 13 = .ok (.aload_n 0, 1) := by decide +kernel
theorem dX4_mendWalks_14 : decode cX4_mendWalks 14 = .ok (.getfield 12, 3) := by decide +kernel
theorem dX4_mendWalks_17 : decode cX4_mendWalks 17 = .ok (.invokevirtual 179, 3) := by decide +kernel
theorem dX4_mendWalks_20 : decode cX4_mendWalks 20 = .ok (.aload_n 0, 1) := by decide +kernel
theorem dX4_mendWalks_21 : decode cX4_mendWalks 21 = .ok (.getfield 18, 3) := by decide +kernel
theorem dX4_mendWalks_24 : decode cX4_mendWalks 24 = .ok (.iload_n 1, 1) := by decide +kernel
theorem dX4_mendWalks_25 : decode cX4_mendWalks 25 = .ok (.aaload, 1) := by decide +kernel
theorem dX4_mendWalks_26 : decode cX4_mendWalks 26 = .ok (.aload_n 0, 1) := by decide +kernel
theorem dX4_mendWalks_27 : decode cX4_mendWalks 27 = .ok (.getfield 12, 3) := by decide +kernel
theorem dX4_mendWalks_30 : decode cX4_mendWalks 30 = .ok (.aload_n 0, 1) := by decide +kernel
theorem dX4_mendWalks_31 : decode cX4_mendWalks 31 = .ok (.getfield 43, 3) := by decide +kernel
theorem dX4_mendWalks_34 : decode cX4_mendWalks 34 = .ok (.aload_n 0, 1) := by decide +kernel
theorem dX4_mendWalks_35 : decode cX4_mendWalks 35 = .ok (.getfield 47, 3) := by decide +kernel
theorem dX4_mendWalks_38 : decode cX4_mendWalks 38 = .ok (.invokevirtual 176, 3) := by decide +kernel
theorem dX4_mendWalks_41 : decode cX4_mendWalks 41 = .ok (.iinc 1 1, 3) := by decide +kernel
theorem dX4_mendWalks_44 : decode cX4_mendWalks 44 = .ok (.goto (-42), 3) := by decide +kernel
theorem dX4_mendWalks_47 : decode cX4_mendWalks 47 = .ok (.return_, 1) := by decide +kernel
theorem dX4_rankBooks_0 : decode cX4_rankBooks 0 = .ok (.aload_n 0, 1) := by decide +kernel
theorem dX4_rankBooks_1 : decode cX4_rankBooks 1 = .ok (.getfield 25, 3) := by decide +kernel
theorem dX4_rankBooks_4 : decode cX4_rankBooks 4 = .ok (.invokevirtual 183, 3) := by decide +kernel
theorem dX4_rankBooks_7 : decode cX4_rankBooks 7 = .ok (.iconst 0, 1) := by decide +kernel
theorem dX4_rankBooks_8 : decode cX4_rankBooks 8 = .ok (.istore_n 2, 1) := by decide +kernel
theorem dX4_rankBooks_9 : decode cX4_rankBooks 9 = .ok (.iload_n 2, 1) := by decide +kernel
theorem dX4_rankBooks_10 : decode cX4_rankBooks 10 = .ok (.iconst 5, 1) := by decide +kernel
theorem dX4_rankBooks_11 : decode cX4_rankBooks 11 = .ok (.if_icmp .ge 53, 3) := by decide +kernel
theorem dX4_rankBooks_14 : decode cX4_rankBooks 14 = .ok (.aload_n 0, 1) := by decide +kernel
theorem dX4_rankBooks_15 : decode cX4_rankBooks 15 = .ok (.getfield 12, 3) := by decide +kernel
theorem dX4_rankBooks_18 : decode cX4_rankBooks 18 = .ok (.iload_n 2, 1) := by decide +kernel
theorem dX4_rankBooks_19 : decode cX4_rankBooks 19 = .ok (.invokevirtual 92, 3) := by decide +kernel
theorem dX4_rankBooks_22 : decode cX4_rankBooks 22 = .ok (.ifCond .ne 36, 3) := by decide +kernel
theorem dX4_rankBooks_25 : decode cX4_rankBooks 25 = .ok (.aload_n 0, 1) := by decide +kernel
theorem dX4_rankBooks_26 : decode cX4_rankBooks 26 = .ok (.getfield 12, 3) := by decide +kernel
theorem dX4_rankBooks_29 : decode cX4_rankBooks 29 = .ok (.iload_n 1, 1) := by decide +kernel
theorem dX4_rankBooks_30 : decode cX4_rankBooks 30 = .ok (.iload_n 2, 1) := by decide +kernel
theorem dX4_rankBooks_31 : decode cX4_rankBooks 31 = .ok (.invokevirtual 66, 3) := by decide +kernel
theorem dX4_rankBooks_34 : decode cX4_rankBooks 34 = .ok (.ifCond .ne 24, 3) := by decide +kernel
theorem dX4_rankBooks_37 : decode cX4_rankBooks 37 = .ok (.aload_n 0, 1) := by decide +kernel
theorem dX4_rankBooks_38 : decode cX4_rankBooks 38 = .ok (.getfield 25, 3) := by decide +kernel
theorem dX4_rankBooks_41 : decode cX4_rankBooks 41 = .ok (.aload_n 0, 1) := by decide +kernel
theorem dX4_rankBooks_42 : decode cX4_rankBooks 42 = .ok (.getfield 18, 3) := by decide +kernel
theorem dX4_rankBooks_45 : decode cX4_rankBooks 45 = .ok (.iload_n 1, 1) := by decide +kernel
theorem dX4_rankBooks_46 : decode cX4_rankBooks 46 = .ok (.aaload, 1) := by decide +kernel
theorem dX4_rankBooks_47 : decode cX4_rankBooks 47 = .ok (.iconst 4, 1) := by decide +kernel
theorem dX4_rankBooks_48 : decode cX4_rankBooks 48 = .ok (.iload_n 2, 1) := by decide +kernel
theorem dX4_rankBooks_49 : decode cX4_rankBooks 49 = .ok (.iadd, 1) := by decide +kernel
theorem dX4_rankBooks_50 : decode cX4_rankBooks 50 = .ok (.invokevirtual 104, 3) := by decide +kernel
theorem dX4_rankBooks_53 : decode cX4_rankBooks 53 = .ok (.iload_n 2, 1) := by decide +kernel
theorem dX4_rankBooks_54 : decode cX4_rankBooks 54 = .ok (.iload_n 1, 1) := by decide +kernel
theorem dX4_rankBooks_55 : decode cX4_rankBooks 55 = .ok (.invokevirtual 186, 3) := by decide +kernel
theorem dX4_rankBooks_58 : decode cX4_rankBooks 58 = .ok (.iinc 2 1, 3) := by decide +kernel
theorem dX4_rankBooks_61 : decode cX4_rankBooks 61 = .ok (.goto (-52), 3) := by decide +kernel
theorem dX4_rankBooks_64 : decode cX4_rankBooks 64 = .ok (.return_, 1) := by decide +kernel
theorem dX4_rankWays_0 : decode cX4_rankWays 0 = .ok (.aload_n 0, 1) := by decide +kernel
theorem dX4_rankWays_1 : decode cX4_rankWays 1 = .ok (.getfield 25, 3) := by decide +kernel
theorem dX4_rankWays_4 : decode cX4_rankWays 4 = .ok (.invokevirtual 183, 3) := by decide +kernel
theorem dX4_rankWays_7 : decode cX4_rankWays 7 = .ok (.iconst 0, 1) := by decide +kernel
theorem dX4_rankWays_8 : decode cX4_rankWays 8 = .ok (.istore_n 3, 1) := by decide +kernel
theorem dX4_rankWays_9 : decode cX4_rankWays 9 = .ok (.iload_n 3, 1) := by decide +kernel
theorem dX4_rankWays_10 : decode cX4_rankWays 10 = .ok (.iconst 5, 1) := by decide +kernel
theorem dX4_rankWays_11 : decode cX4_rankWays 11 = .ok (.if_icmp .ge 55, 3) := by decide +kernel
theorem dX4_rankWays_14 : decode cX4_rankWays 14 = .ok (.iconst 0, 1) := by decide +kernel
theorem dX4_rankWays_15 : decode cX4_rankWays 15 = .ok (.istore 4, 2) := by decide +kernel
theorem dX4_rankWays_17 : decode cX4_rankWays 17 = .ok (.iload 4, 2) := by decide +kernel
theorem dX4_rankWays_19 : decode cX4_rankWays 19 = .ok (.iconst 4, 1) := by decide +kernel
theorem dX4_rankWays_20 : decode cX4_rankWays 20 = .ok (.if_icmp .ge 40, 3) := by decide +kernel
theorem dX4_rankWays_23 : decode cX4_rankWays 23 = .ok (.aload_n 0, 1) := by decide +kernel
theorem dX4_rankWays_24 : decode cX4_rankWays 24 = .ok (.iload_n 1, 1) := by decide +kernel
theorem dX4_rankWays_25 : decode cX4_rankWays 25 = .ok (.iload_n 3, 1) := by decide +kernel
theorem dX4_rankWays_26 : decode cX4_rankWays 26 = .ok (.iload 4, 2) := by decide +kernel
theorem dX4_rankWays_28 : decode cX4_rankWays 28 = .ok (.iload_n 2, 1) := by decide +kernel
theorem dX4_rankWays_29 : decode cX4_rankWays 29 = .ok (.invokevirtual 190, 3) := by decide +kernel
theorem dX4_rankWays_32 : decode cX4_rankWays 32 = .ok (.ifCond .eq 22, 3) := by decide +kernel
theorem dX4_rankWays_35 : decode cX4_rankWays 35 = .ok (.aload_n 0, 1) := by decide +kernel
theorem dX4_rankWays_36 : decode cX4_rankWays 36 = .ok (.getfield 25, 3) := by decide +kernel
theorem dX4_rankWays_39 : decode cX4_rankWays 39 = .ok (.aload_n 0, 1) := by decide +kernel
theorem dX4_rankWays_40 : decode cX4_rankWays 40 = .ok (.iload_n 1, 1) := by decide +kernel
theorem dX4_rankWays_41 : decode cX4_rankWays 41 = .ok (.iload_n 3, 1) := by decide +kernel
theorem dX4_rankWays_42 : decode cX4_rankWays 42 = .ok (.iload 4, 2) := by decide +kernel
theorem dX4_rankWays_44 : decode cX4_rankWays 44 = .ok (.iload_n 2, 1) := by decide +kernel
theorem dX4_rankWays_45 : decode cX4_rankWays 45 = .ok (.invokevirtual 194, 3) := by decide +kernel
theorem dX4_rankWays_48 : decode cX4_rankWays 48 = .ok (.iload_n 3, 1) := by decide +kernel
theorem dX4_rankWays_49 : decode cX4_rankWays 49 = .ok (.iload 4, 2) := by decide +kernel
theorem dX4_rankWays_51 : decode cX4_rankWays 51 = .ok (.invokevirtual 186, 3) := by decide +kernel
theorem dX4_rankWays_54 : decode cX4_rankWays 54 = .ok (.iinc 4 1, 3) := by decide +kernel
theorem dX4_rankWays_57 : decode cX4_rankWays 57 = .ok (.goto (-40), 3) := by decide +kernel
theorem dX4_rankWays_60 : decode cX4_rankWays 60 = .ok (.iinc 3 1, 3) := by decide +kernel
theorem dX4_rankWays_63 : decode cX4_rankWays 63 = .ok (.goto (-54), 3) := by decide +kernel
theorem dX4_rankWays_66 : decode cX4_rankWays 66 = .ok (.return_, 1) := by decide +kernel
theorem dX4_isWay_0 : decode cX4_isWay 0 = .ok (.iload_n 2, 1) := by decide +kernel
theorem dX4_isWay_1 : decode cX4_isWay 1 = .ok (.iload 4, 2) := by decide +kernel
theorem dX4_isWay_3 : decode cX4_isWay 3 = .ok (.if_icmp .eq 55, 3) := by decide +kernel
theorem dX4_isWay_6 : decode cX4_isWay 6 = .ok (.iload_n 3, 1) := by decide +kernel
theorem dX4_isWay_7 : decode cX4_isWay 7 = .ok (.iload_n 1, 1) := by decide +kernel
theorem dX4_isWay_8 : decode cX4_isWay 8 = .ok (.if_icmp .eq 50, 3) := by decide +kernel
theorem dX4_isWay_11 : decode cX4_isWay 11 = .ok (.aload_n 0, 1) := by decide +kernel
theorem dX4_isWay_12 : decode cX4_isWay 12 = .ok (.getfield 12, 3) := by decide +kernel
theorem dX4_isWay_15 : decode cX4_isWay 15 = .ok (.iload_n 1, 1) := by decide +kernel
theorem dX4_isWay_16 : decode cX4_isWay 16 = .ok (.iconst 4, 1) := by decide +kernel
theorem dX4_isWay_17 : decode cX4_isWay 17 = .ok (.iload_n 2, 1) := by decide +kernel
theorem dX4_isWay_18 : decode cX4_isWay 18 = .ok (.iadd, 1) := by decide +kernel
theorem dX4_isWay_19 : decode cX4_isWay 19 = .ok (.invokevirtual 198, 3) := by decide +kernel
theorem dX4_isWay_22 : decode cX4_isWay 22 = .ok (.ifCond .le 36, 3) := by decide +kernel
theorem dX4_isWay_25 : decode cX4_isWay 25 = .ok (.aload_n 0, 1) := by decide +kernel
theorem dX4_isWay_26 : decode cX4_isWay 26 = .ok (.getfield 12, 3) := by decide +kernel
theorem dX4_isWay_29 : decode cX4_isWay 29 = .ok (.iconst 4, 1) := by decide +kernel
theorem dX4_isWay_30 : decode cX4_isWay 30 = .ok (.iload_n 2, 1) := by decide +kernel
theorem dX4_isWay_31 : decode cX4_isWay 31 = .ok (.iadd, 1) := by decide +kernel
theorem dX4_isWay_32 : decode cX4_isWay 32 = .ok (.iload_n 3, 1) := by decide +kernel
theorem dX4_isWay_33 : decode cX4_isWay 33 = .ok (.invokevirtual 198, 3) := by decide +kernel
theorem dX4_isWay_36 : decode cX4_isWay 36 = .ok (.ifCond .le 22, 3) := by decide +kernel
theorem dX4_isWay_39 : decode cX4_isWay 39 = .ok (.aload_n 0, 1) := by decide +kernel
theorem dX4_isWay_40 : decode cX4_isWay 40 = .ok (.getfield 12, 3) := by decide +kernel
theorem dX4_isWay_43 : decode cX4_isWay 43 = .ok (.iload_n 3, 1) := by decide +kernel
theorem dX4_isWay_44 : decode cX4_isWay 44 = .ok (.iconst 4, 1) := by decide +kernel
theorem dX4_isWay_45 : decode cX4_isWay 45 = .ok (.iload 4, 2) := by decide +kernel
theorem dX4_isWay_47 : decode cX4_isWay 47 = .ok (.iadd, 1) := by decide +kernel
theorem dX4_isWay_48 : decode cX4_isWay 48 = .ok (.invokevirtual 198, 3) := by decide +kernel
theorem dX4_isWay_51 : decode cX4_isWay 51 = .ok (.ifCond .le 7, 3) := by decide +kernel
theorem dX4_isWay_54 : decode cX4_isWay 54 = .ok (.iconst 1, 1) := by decide +kernel
theorem dX4_isWay_55 : decode cX4_isWay 55 = .ok (.goto 4, 3) := by decide +kernel
theorem dX4_isWay_58 : decode cX4_isWay 58 = .ok (.iconst 0, 1) := by decide +kernel
theorem dX4_isWay_59 : decode cX4_isWay 59 = .ok (.ireturn, 1) := by decide +kernel
theorem dX4_carriedOver_0 : decode cX4_carriedOver 0 = .ok (.aload_n 0, 1) := by decide +kernel
theorem dX4_carriedOver_1 : decode cX4_carriedOver 1 = .ok (.ldc2_w 201, 3) := by decide +kernel
theorem dX4_carriedOver_4 : decode cX4_carriedOver 4 = .ok (.iload_n 1, 1) := by decide +kernel
theorem dX4_carriedOver_5 : decode cX4_carriedOver 5 = .ok (.iconst 4, 1) := by decide +kernel
theorem dX4_carriedOver_6 : decode cX4_carriedOver 6 = .ok (.iload_n 2, 1) := by decide +kernel
theorem dX4_carriedOver_7 : decode cX4_carriedOver 7 = .ok (.iadd, 1) := by decide +kernel
theorem dX4_carriedOver_8 : decode cX4_carriedOver 8 = .ok (.invokevirtual 203, 3) := by decide +kernel
theorem dX4_carriedOver_11 : decode cX4_carriedOver 11 = .ok (.lstore 5, 2) := by decide +kernel
theorem dX4_carriedOver_13 : decode cX4_carriedOver 13 = .ok (.aload_n 0, 1) := by decide +kernel
theorem dX4_carriedOver_14 : decode cX4_carriedOver 14 = .ok (.lload 5, 2) := by decide +kernel
theorem dX4_carriedOver_16 : decode cX4_carriedOver 16 = .ok (.iconst 4, 1) := by decide +kernel
theorem dX4_carriedOver_17 : decode cX4_carriedOver 17 = .ok (.iload_n 2, 1) := by decide +kernel
theorem dX4_carriedOver_18 : decode cX4_carriedOver 18 = .ok (.iadd, 1) := by decide +kernel
theorem dX4_carriedOver_19 : decode cX4_carriedOver 19 = .ok (.iload_n 3, 1) := by decide +kernel
theorem dX4_carriedOver_20 : decode cX4_carriedOver 20 = .ok (.invokevirtual 203, 3) := by decide +kernel
theorem dX4_carriedOver_23 : decode cX4_carriedOver 23 = .ok (.lstore 5, 2) := by decide +kernel
theorem dX4_carriedOver_25 : decode cX4_carriedOver 25 = .ok (.aload_n 0, 1) := by decide +kernel
theorem dX4_carriedOver_26 : decode cX4_carriedOver 26 = .ok (.lload 5, 2) := by decide +kernel
theorem dX4_carriedOver_28 : decode cX4_carriedOver 28 = .ok (.iload_n 3, 1) := by decide +kernel
theorem dX4_carriedOver_29 : decode cX4_carriedOver 29 = .ok (.iconst 4, 1) := by decide +kernel
theorem dX4_carriedOver_30 : decode cX4_carriedOver 30 = .ok (.iload 4, 2) := by decide +kernel
theorem dX4_carriedOver_32 : decode cX4_carriedOver 32 = .ok (.iadd, 1) := by decide +kernel
theorem dX4_carriedOver_33 : decode cX4_carriedOver 33 = .ok (.invokevirtual 203, 3) := by decide +kernel
theorem dX4_carriedOver_36 : decode cX4_carriedOver 36 = .ok (.lreturn, 1) := by decide +kernel
theorem dX4_carriedFrom_0 : decode cX4_carriedFrom 0 = .ok (.aload_n 0, 1) := by decide +kernel
theorem dX4_carriedFrom_1 : decode cX4_carriedFrom 1 = .ok (.getfield 12, 3) := by decide +kernel
theorem dX4_carriedFrom_4 : decode cX4_carriedFrom 4 = .ok (.iload_n 3, 1) := by decide +kernel
theorem dX4_carriedFrom_5 : decode cX4_carriedFrom 5 = .ok (.invokevirtual 207, 3) := by decide +kernel
theorem dX4_carriedFrom_8 : decode cX4_carriedFrom 8 = .ok (.istore 5, 2) := by decide +kernel
theorem dX4_carriedFrom_10 : decode cX4_carriedFrom 10 = .ok (.iload 5, 2) := by decide +kernel
theorem dX4_carriedFrom_12 : decode cX4_carriedFrom 12 = .ok (.ifCond .ne 7, 3) := by decide +kernel
theorem dX4_carriedFrom_15 : decode cX4_carriedFrom 15 = .ok (.lconst 0, 1) := by decide +kernel
theorem dX4_carriedFrom_16 : decode cX4_carriedFrom 16 = .ok (.goto 20, 3) := by decide +kernel
theorem dX4_carriedFrom_19 : decode cX4_carriedFrom 19 = .ok (.lload_n 1, 1) := by decide +kernel
theorem dX4_carriedFrom_20 : decode cX4_carriedFrom 20 = .ok (.aload_n 0, 1) := by decide +kernel
theorem dX4_carriedFrom_21 : decode cX4_carriedFrom 21 = .ok (.getfield 12, 3) := by decide +kernel
theorem dX4_carriedFrom_24 : decode cX4_carriedFrom 24 = .ok (.iload_n 3, 1) := by decide +kernel
theorem dX4_carriedFrom_25 : decode cX4_carriedFrom 25 = .ok (.iload 4, 2) := by decide +kernel
theorem dX4_carriedFrom_27 : decode cX4_carriedFrom 27 = .ok (.invokevirtual 198, 3) := by decide +kernel
theorem dX4_carriedFrom_30 : decode cX4_carriedFrom 30 = .ok (.i2l, 1) := by decide +kernel
theorem dX4_carriedFrom_31 : decode cX4_carriedFrom 31 = .ok (.lmul, 1) := by decide +kernel
theorem dX4_carriedFrom_32 : decode cX4_carriedFrom 32 = .ok (.iload 5, 2) := by decide +kernel
theorem dX4_carriedFrom_34 : decode cX4_carriedFrom 34 = .ok (.i2l, 1) := by decide +kernel
theorem dX4_carriedFrom_35 : decode cX4_carriedFrom 35 = .ok (.ldiv, 1) := by decide +kernel
theorem dX4_carriedFrom_36 : decode cX4_carriedFrom 36 = .ok (.lreturn, 1) := by decide +kernel
theorem dX4_writeLine_0 : decode cX4_writeLine 0 = .ok (.aload_n 0, 1) := by decide +kernel
theorem dX4_writeLine_1 : decode cX4_writeLine 1 = .ok (.getfield 39, 3) := by decide +kernel
theorem dX4_writeLine_4 : decode cX4_writeLine 4 = .ok (.iconst 0, 1) := by decide +kernel
theorem dX4_writeLine_5 : decode cX4_writeLine 5 = .ok (.invokevirtual 210, 3) := by decide +kernel
theorem dX4_writeLine_8 : decode cX4_writeLine 8 = .ok (.aload_n 0, 1) := by decide +kernel
theorem dX4_writeLine_9 : decode cX4_writeLine 9 = .ok (.getfield 12, 3) := by decide +kernel
theorem dX4_writeLine_12 : decode cX4_writeLine 12 = .ok (.iload_n 1, 1) := by decide +kernel
theorem dX4_writeLine_13 : decode cX4_writeLine 13 = .ok (.iload_n 2, 1) := by decide +kernel
theorem dX4_writeLine_14 : decode cX4_writeLine 14 = .ok (.invokevirtual 66, 3) := by decide +kernel
theorem dX4_writeLine_17 : decode cX4_writeLine 17 = .ok (.istore_n 3, 1) := by decide +kernel
theorem dX4_writeLine_18 : decode cX4_writeLine 18 = .ok (.iload_n 3, 1) := by decide +kernel
theorem dX4_writeLine_19 : decode cX4_writeLine 19 = .ok (.ifCond .ne 14, 3) := by decide +kernel
theorem dX4_writeLine_22 : decode cX4_writeLine 22 = .ok (.aload_n 0, 1) := by decide +kernel
theorem dX4_writeLine_23 : decode cX4_writeLine 23 = .ok (.getfield 39, 3) := by decide +kernel
theorem dX4_writeLine_26 : decode cX4_writeLine 26 = .ok (.ldc 213, 2) := by decide +kernel
theorem dX4_writeLine_28 : decode cX4_writeLine 28 = .ok (.invokevirtual 215, 3) := by decide +kernel
theorem dX4_writeLine_31 : decode cX4_writeLine 31 = .ok (.pop, 1) := by decide +kernel
theorem dX4_writeLine_32 : decode cX4_writeLine 32 = .ok (.return_, 1) := by decide +kernel
theorem dX4_writeLine_33 : decode cX4_writeLine 33 = .ok (.aload_n 0, 1) := by decide +kernel
theorem dX4_writeLine_34 : decode cX4_writeLine 34 = .ok (.getfield 39, 3) := by decide +kernel
theorem dX4_writeLine_37 : decode cX4_writeLine 37 = .ok (.bipush 114, 2) := by decide +kernel
theorem dX4_writeLine_39 : decode cX4_writeLine 39 = .ok (.invokevirtual 219, 3) := by decide +kernel
theorem dX4_writeLine_42 : decode cX4_writeLine 42 = .ok (.iload_n 1, 1) := by decide +kernel
theorem dX4_writeLine_43 : decode cX4_writeLine 43 = .ok (.invokevirtual 222, 3) := by decide +kernel
theorem dX4_writeLine_46 : decode cX4_writeLine 46 = .ok (.ldc 225, 2) := by decide +kernel
theorem dX4_writeLine_48 : decode cX4_writeLine 48 = .ok (.invokevirtual 215, 3) := by decide +kernel
theorem dX4_writeLine_51 : decode cX4_writeLine 51 = .ok (.iload_n 2, 1) := by decide +kernel
theorem dX4_writeLine_52 : decode cX4_writeLine 52 = .ok (.invokevirtual 222, 3) := by decide +kernel
theorem dX4_writeLine_55 : decode cX4_writeLine 55 = .ok (.pop, 1) := by decide +kernel
theorem dX4_writeLine_56 : decode cX4_writeLine 56 = .ok (.aload_n 0, 1) := by decide +kernel
theorem dX4_writeLine_57 : decode cX4_writeLine 57 = .ok (.getfield 39, 3) := by decide +kernel
theorem dX4_writeLine_60 : decode cX4_writeLine 60 = .ok (.bipush 58, 2) := by decide +kernel
theorem dX4_writeLine_62 : decode cX4_writeLine 62 = .ok (.invokevirtual 219, 3) := by decide +kernel
theorem dX4_writeLine_65 : decode cX4_writeLine 65 = .ok (.iload_n 3, 1) := by decide +kernel
theorem dX4_writeLine_66 : decode cX4_writeLine 66 = .ok (.invokevirtual 222, 3) := by decide +kernel
theorem dX4_writeLine_69 : decode cX4_writeLine 69 = .ok (.aload_n 0, 1) := by decide +kernel
theorem dX4_writeLine_70 : decode cX4_writeLine 70 = .ok (.getfield 12, 3) := by decide +kernel
theorem dX4_writeLine_73 : decode cX4_writeLine 73 = .ok (.iload_n 2, 1) := by decide +kernel
theorem dX4_writeLine_74 : decode cX4_writeLine 74 = .ok (.invokevirtual 92, 3) := by decide +kernel
theorem dX4_writeLine_77 : decode cX4_writeLine 77 = .ok (.invokestatic 227, 3) := by decide +kernel
theorem dX4_writeLine_80 : decode cX4_writeLine 80 = .ok (.invokevirtual 215, 3) := by decide +kernel
theorem dX4_writeLine_83 : decode cX4_writeLine 83 = .ok (.pop, 1) := by decide +kernel
theorem dX4_writeLine_84 : decode cX4_writeLine 84 = .ok (.return_, 1) := by decide +kernel
theorem dX4_barText_0 : decode cX4_barText 0 = .ok (.iload_n 0, 1) := by decide +kernel
theorem dX4_barText_1 : decode cX4_barText 1 = .ok (.ifCond .ne 6, 3) := by decide +kernel
theorem dX4_barText_4 : decode cX4_barText 4 = .ok (.ldc 231, 2) := by decide +kernel
theorem dX4_barText_6 : decode cX4_barText 6 = .ok (.areturn, 1) := by decide +kernel
theorem dX4_barText_7 : decode cX4_barText 7 = .ok (.iload_n 0, 1) := by decide +kernel
theorem dX4_barText_8 : decode cX4_barText 8 = .ok (.iconst 1, 1) := by decide +kernel
theorem dX4_barText_9 : decode cX4_barText 9 = .ok (.if_icmp .ne 8, 3) := by decide +kernel
theorem dX4_barText_12 : decode cX4_barText 12 = .ok (.ldc 233, 2) := by decide +kernel
theorem dX4_barText_14 : decode cX4_barText 14 = .ok (.goto 5, 3) := by decide +kernel
theorem dX4_barText_17 : decode cX4_barText 17 = .ok (.ldc 235, 2) := by decide +kernel
theorem dX4_barText_19 : decode cX4_barText 19 = .ok (.areturn, 1) := by decide +kernel
theorem dX5_init_0 : decode cX5_init 0 = .ok (.aload_n 0, 1) := by decide +kernel
theorem dX5_init_1 : decode cX5_init 1 = .ok (.invokespecial 1, 3) := by decide +kernel
theorem dX5_init_4 : decode cX5_init 4 = .ok (.aload_n 0, 1) := by decide +kernel
theorem dX5_init_5 : decode cX5_init 5 = .ok (.bipush 20, 2) := by decide +kernel
theorem dX5_init_7 : decode cX5_init 7 = .ok (.newarray .int, 2) := by decide +kernel
theorem dX5_init_9 : decode cX5_init 9 = .ok (.putfield 7, 3) := by decide +kernel
theorem dX5_init_12 : decode cX5_init 12 = .ok (.aload_n 0, 1) := by decide +kernel
theorem dX5_init_13 : decode cX5_init 13 = .ok (.iconst 5, 1) := by decide +kernel
theorem dX5_init_14 : decode cX5_init 14 = .ok (.newarray .int, 2) := by decide +kernel
theorem dX5_init_16 : decode cX5_init 16 = .ok (.putfield 13, 3) := by decide +kernel
theorem dX5_init_19 : decode cX5_init 19 = .ok (.aload_n 0, 1) := by decide +kernel
theorem dX5_init_20 : decode cX5_init 20 = .ok (.bipush 80, 2) := by decide +kernel
theorem dX5_init_22 : decode cX5_init 22 = .ok (.putfield 16, 3) := by decide +kernel
theorem dX5_init_25 : decode cX5_init 25 = .ok (.aload_n 0, 1) := by decide +kernel
theorem dX5_init_26 : decode cX5_init 26 = .ok (.sipush 1000, 3) := by decide +kernel
theorem dX5_init_29 : decode cX5_init 29 = .ok (.putfield 20, 3) := by decide +kernel
theorem dX5_init_32 : decode cX5_init 32 = .ok (.aload_n 0, 1) := by decide +kernel
theorem dX5_init_33 : decode cX5_init 33 = .ok (.bipush 36, 2) := by decide +kernel
theorem dX5_init_35 : decode cX5_init 35 = .ok (.newarray .long, 2) := by decide +kernel
theorem dX5_init_37 : decode cX5_init 37 = .ok (.putfield 23, 3) := by decide +kernel
theorem dX5_init_40 : decode cX5_init 40 = .ok (.aload_n 0, 1) := by decide +kernel
theorem dX5_init_41 : decode cX5_init 41 = .ok (.bipush 36, 2) := by decide +kernel
theorem dX5_init_43 : decode cX5_init 43 = .ok (.newarray .long, 2) := by decide +kernel
theorem dX5_init_45 : decode cX5_init 45 = .ok (.putfield 27, 3) := by decide +kernel
theorem dX5_init_48 : decode cX5_init 48 = .ok (.aload_n 0, 1) := by decide +kernel
theorem dX5_init_49 : decode cX5_init 49 = .ok (.sipush 324, 3) := by decide +kernel
theorem dX5_init_52 : decode cX5_init 52 = .ok (.newarray .long, 2) := by decide +kernel
theorem dX5_init_54 : decode cX5_init 54 = .ok (.putfield 30, 3) := by decide +kernel
theorem dX5_init_57 : decode cX5_init 57 = .ok (.aload_n 0, 1) := by decide +kernel
theorem dX5_init_58 : decode cX5_init 58 = .ok (.bipush 81, 2) := by decide +kernel
theorem dX5_init_60 : decode cX5_init 60 = .ok (.newarray .double, 2) := by decide +kernel
theorem dX5_init_62 : decode cX5_init 62 = .ok (.putfield 33, 3) := by decide +kernel
theorem dX5_init_65 : decode cX5_init 65 = .ok (.aload_n 0, 1) := by decide +kernel
theorem dX5_init_66 : decode cX5_init 66 = .ok (.bipush 9, 2) := by decide +kernel
theorem dX5_init_68 : decode cX5_init 68 = .ok (.newarray .double, 2) := by decide +kernel
theorem dX5_init_70 : decode cX5_init 70 = .ok (.putfield 37, 3) := by decide +kernel
theorem dX5_init_73 : decode cX5_init 73 = .ok (.aload_n 0, 1) := by decide +kernel
theorem dX5_init_74 : decode cX5_init 74 = .ok (.bipush 9, 2) := by decide +kernel
theorem dX5_init_76 : decode cX5_init 76 = .ok (.newarray .double, 2) := by decide +kernel
theorem dX5_init_78 : decode cX5_init 78 = .ok (.putfield 40, 3) := by decide +kernel
theorem dX5_init_81 : decode cX5_init 81 = .ok (.aload_n 0, 1) := by decide +kernel
theorem dX5_init_82 : decode cX5_init 82 = .ok (.bipush 12, 2) := by decide +kernel
theorem dX5_init_84 : decode cX5_init 84 = .ok (.newarray .int, 2) := by decide +kernel
theorem dX5_init_86 : decode cX5_init 86 = .ok (.putfield 43, 3) := by decide +kernel
theorem dX5_init_89 : decode cX5_init 89 = .ok (.aload_n 0, 1) := by decide +kernel
theorem dX5_init_90 : decode cX5_init 90 = .ok (.bipush 12, 2) := by decide +kernel
theorem dX5_init_92 : decode cX5_init 92 = .ok (.newarray .int, 2) := by decide +kernel
theorem dX5_init_94 : decode cX5_init 94 = .ok (.putfield 46, 3) := by decide +kernel
theorem dX5_init_97 : decode cX5_init 97 = .ok (.aload_n 0, 1) := by decide +kernel
theorem dX5_init_98 : decode cX5_init 98 = .ok (.bipush 12, 2) := by decide +kernel
theorem dX5_init_100 : decode cX5_init 100 = .ok (.newarray .int, 2) := by decide +kernel
theorem dX5_init_102 : decode cX5_init 102 = .ok (.putfield 49, 3) := by decide +kernel
theorem dX5_init_105 : decode cX5_init 105 = .ok (.aload_n 0, 1) := by decide +kernel
theorem dX5_init_106 : decode cX5_init 106 = .ok (.invokevirtual 52, 3) := by decide +kernel
theorem dX5_init_109 : decode cX5_init 109 = .ok (.return_, 1) := by decide +kernel
theorem dX5_thrown_0 : decode cX5_thrown 0 = .ok (.aload_n 0, 1) := by decide +kernel
theorem dX5_thrown_1 : decode cX5_thrown 1 = .ok (.getfield 55, 3) := by decide +kernel
theorem dX5_thrown_4 : decode cX5_thrown 4 = .ok (.ireturn, 1) := by decide +kernel
theorem dX5_fails_0 : decode cX5_fails 0 = .ok (.aload_n 0, 1) := by decide +kernel
theorem dX5_fails_1 : decode cX5_fails 1 = .ok (.iload_n 1, 1) := by decide +kernel
theorem dX5_fails_2 : decode cX5_fails 2 = .ok (.putfield 55, 3) := by decide +kernel
theorem dX5_fails_5 : decode cX5_fails 5 = .ok (.iload_n 1, 1) := by decide +kernel
theorem dX5_fails_6 : decode cX5_fails 6 = .ok (.ifCond .le 7, 3) := by decide +kernel
theorem dX5_fails_9 : decode cX5_fails 9 = .ok (.iconst 1, 1) := by decide +kernel
theorem dX5_fails_10 : decode cX5_fails 10 = .ok (.goto 4, 3) := by decide +kernel
theorem dX5_fails_13 : decode cX5_fails 13 = .ok (.iconst 0, 1) := by decide +kernel
theorem dX5_fails_14 : decode cX5_fails 14 = .ok (.ireturn, 1) := by decide +kernel
theorem dX5_in_0 : decode cX5_in 0 = .ok (.iload_n 1, 1) := by decide +kernel
theorem dX5_in_1 : decode cX5_in 1 = .ok (.iload_n 2, 1) := by decide +kernel
theorem dX5_in_2 : decode cX5_in 2 = .ok (.if_icmp .lt 12, 3) := by decide +kernel
theorem dX5_in_5 : decode cX5_in 5 = .ok (.iload_n 1, 1) := by decide +kernel
theorem dX5_in_6 : decode cX5_in 6 = .ok (.iload_n 3, 1) := by decide +kernel
theorem dX5_in_7 : decode cX5_in 7 = .ok (.if_icmp .gt 7, 3) := by decide +kernel
theorem dX5_in_10 : decode cX5_in 10 = .ok (.iconst 1, 1) := by decide +kernel
theorem dX5_in_11 : decode cX5_in 11 = .ok (.goto 4, 3) := by decide +kernel
theorem dX5_in_14 : decode cX5_in 14 = .ok (.iconst 0, 1) := by decide +kernel
theorem dX5_in_15 : decode cX5_in 15 = .ok (.ireturn, 1) := by decide +kernel
theorem dX5_loanOf_0 : decode cX5_loanOf 0 = .ok (.iload_n 1, 1) := by decide +kernel
theorem dX5_loanOf_1 : decode cX5_loanOf 1 = .ok (.iload_n 2, 1) := by decide +kernel
theorem dX5_loanOf_2 : decode cX5_loanOf 2 = .ok (.if_icmp .ge 7, 3) := by decide +kernel
theorem dX5_loanOf_5 : decode cX5_loanOf 5 = .ok (.iload_n 1, 1) := by decide +kernel
theorem dX5_loanOf_6 : decode cX5_loanOf 6 = .ok (.goto 4, 3) := by decide +kernel
theorem dX5_loanOf_9 : decode cX5_loanOf 9 = .ok (.iload_n 2, 1) := by decide +kernel
theorem dX5_loanOf_10 : decode cX5_loanOf 10 = .ok (.istore_n 3, 1) := by decide +kernel
theorem dX5_loanOf_11 : decode cX5_loanOf 11 = .ok (.iload_n 1, 1) := by decide +kernel
theorem dX5_loanOf_12 : decode cX5_loanOf 12 = .ok (.iload_n 2, 1) := by decide +kernel
theorem dX5_loanOf_13 : decode cX5_loanOf 13 = .ok (.if_icmp .ge 7, 3) := by decide +kernel
theorem dX5_loanOf_16 : decode cX5_loanOf 16 = .ok (.iload_n 2, 1) := by decide +kernel
theorem dX5_loanOf_17 : decode cX5_loanOf 17 = .ok (.goto 4, 3) := by decide +kernel
theorem dX5_loanOf_20 : decode cX5_loanOf 20 = .ok (.iload_n 1, 1) := by decide +kernel
theorem dX5_loanOf_21 : decode cX5_loanOf 21 = .ok (.iconst 4, 1) := by decide +kernel
theorem dX5_loanOf_22 : decode cX5_loanOf 22 = .ok (.isub, 1) := by decide +kernel
theorem dX5_loanOf_23 : decode cX5_loanOf 23 = .ok (.istore 4, 2) := by decide +kernel
theorem dX5_loanOf_25 : decode cX5_loanOf 25 = .ok (.iload_n 3, 1) := by decide +kernel
theorem dX5_loanOf_26 : decode cX5_loanOf 26 = .ok (.iconst 3, 1) := by decide +kernel
theorem dX5_loanOf_27 : decode cX5_loanOf 27 = .ok (.if_icmp .gt 19, 3) := by decide +kernel
theorem dX5_loanOf_30 : decode cX5_loanOf 30 = .ok (.iload 4, 2) := by decide +kernel
theorem dX5_loanOf_32 : decode cX5_loanOf 32 = .ok (.ifCond .lt 14, 3) := by decide +kernel
theorem dX5_loanOf_35 : decode cX5_loanOf 35 = .ok (.aload_n 0, 1) := by decide +kernel
theorem dX5_loanOf_36 : decode cX5_loanOf 36 = .ok (.getfield 13, 3) := by decide +kernel
theorem dX5_loanOf_39 : decode cX5_loanOf 39 = .ok (.iload 4, 2) := by decide +kernel
theorem dX5_loanOf_41 : decode cX5_loanOf 41 = .ok (.iaload, 1) := by decide +kernel
theorem dX5_loanOf_42 : decode cX5_loanOf 42 = .ok (.iconst 2, 1) := by decide +kernel
theorem dX5_loanOf_43 : decode cX5_loanOf 43 = .ok (.if_icmp .ne 7, 3) := by decide +kernel
theorem dX5_loanOf_46 : decode cX5_loanOf 46 = .ok (.iconst 0, 1) := by decide +kernel
theorem dX5_loanOf_47 : decode cX5_loanOf 47 = .ok (.goto 14, 3) := by decide +kernel
theorem dX5_loanOf_50 : decode cX5_loanOf 50 = .ok (.aload_n 0, 1) := by decide +kernel
theorem dX5_loanOf_51 : decode cX5_loanOf 51 = .ok (.getfield 7, 3) := by decide +kernel
theorem dX5_loanOf_54 : decode cX5_loanOf 54 = .ok (.iconst 5, 1) := by decide +kernel
theorem dX5_loanOf_55 : decode cX5_loanOf 55 = .ok (.iload_n 3, 1) := by decide +kernel
theorem dX5_loanOf_56 : decode cX5_loanOf 56 = .ok (.imul, 1) := by decide +kernel
theorem dX5_loanOf_57 : decode cX5_loanOf 57 = .ok (.iload 4, 2) := by decide +kernel
theorem dX5_loanOf_59 : decode cX5_loanOf 59 = .ok (.iadd, 1) := by decide +kernel
theorem dX5_loanOf_60 : decode cX5_loanOf 60 = .ok (.iaload, 1) := by decide +kernel
theorem dX5_loanOf_61 : decode cX5_loanOf 61 = .ok (.ireturn, 1) := by decide +kernel
theorem dX5_allOf_0 : decode cX5_allOf 0 = .ok (.iconst 0, 1) := by decide +kernel
theorem dX5_allOf_1 : decode cX5_allOf 1 = .ok (.istore_n 2, 1) := by decide +kernel
theorem dX5_allOf_2 : decode cX5_allOf 2 = .ok (.iconst 0, 1) := by decide +kernel
theorem dX5_allOf_3 : decode cX5_allOf 3 = .ok (.istore_n 3, 1) := by decide +kernel
theorem dX5_allOf_4 : decode cX5_allOf 4 = .ok (.iload_n 3, 1) := by decide +kernel
theorem dX5_allOf_5 : decode cX5_allOf 5 = .ok (.bipush 9, 2) := by decide +kernel
theorem dX5_allOf_7 : decode cX5_allOf 7 = .ok (.if_icmp .ge 18, 3) := by decide +kernel
theorem dX5_allOf_10 : decode cX5_allOf 10 = .ok (.iload_n 2, 1) := by decide +kernel
theorem dX5_allOf_11 : decode cX5_allOf 11 = .ok (.aload_n 0, 1) := by decide +kernel
theorem dX5_allOf_12 : decode cX5_allOf 12 = .ok (.iload_n 1, 1) := by decide +kernel
theorem dX5_allOf_13 : decode cX5_allOf 13 = .ok (.iload_n 3, 1) := by decide +kernel
theorem dX5_allOf_14 : decode cX5_allOf 14 = .ok (.invokevirtual 58, 3) := by decide +kernel
theorem dX5_allOf_17 : decode cX5_allOf 17 = .ok (.iadd, 1) := by decide +kernel
theorem dX5_allOf_18 : decode cX5_allOf 18 = .ok (.istore_n 2, 1) := by decide +kernel
theorem dX5_allOf_19 : decode cX5_allOf 19 = .ok (.iinc 3 1, 3) := by decide +kernel
theorem dX5_allOf_22 : decode cX5_allOf 22 = .ok (.goto (-18), 3) := by decide +kernel
theorem dX5_allOf_25 : decode cX5_allOf 25 = .ok (.iload_n 2, 1) := by decide +kernel
theorem dX5_allOf_26 : decode cX5_allOf 26 = .ok (.ireturn, 1) := by decide +kernel
theorem dX5_from_0 : decode cX5_from 0 = .ok (.aload_n 0, 1) := by decide +kernel
theorem dX5_from_1 : decode cX5_from 1 = .ok (.iload_n 2, 1) := by decide +kernel
theorem dX5_from_2 : decode cX5_from 2 = .ok (.invokevirtual 62, 3) := by decide +kernel
theorem dX5_from_5 : decode cX5_from 5 = .ok (.ifCond .le 12, 3) := by decide +kernel
theorem dX5_from_8 : decode cX5_from 8 = .ok (.aload_n 0, 1) := by decide +kernel
theorem dX5_from_9 : decode cX5_from 9 = .ok (.iload_n 2, 1) := by decide +kernel
theorem dX5_from_10 : decode cX5_from 10 = .ok (.iload_n 3, 1) := by decide +kernel
theorem dX5_from_11 : decode cX5_from 11 = .ok (.invokevirtual 58, 3) := by decide +kernel
theorem dX5_from_14 : decode cX5_from 14 = .ok (.goto 13, 3) := by decide +kernel
theorem dX5_from_17 : decode cX5_from 17 = .ok (.iload_n 3, 1) := by decide +kernel
theorem dX5_from_18 : decode cX5_from 18 = .ok (.iload_n 1, 1) := by decide +kernel
theorem dX5_from_19 : decode cX5_from 19 = .ok (.if_icmp .ne 7, 3) := by decide +kernel
theorem dX5_from_22 : decode cX5_from 22 = .ok (.iconst 1, 1) := by decide +kernel
theorem dX5_from_23 : decode cX5_from 23 = .ok (.goto 4, 3) := by decide +kernel
theorem dX5_from_26 : decode cX5_from 26 = .ok (.iconst 0, 1) := by decide +kernel
theorem dX5_from_27 : decode cX5_from 27 = .ok (.ireturn, 1) := by decide +kernel
theorem dX5_sumOf_0 : decode cX5_sumOf 0 = .ok (.aload_n 0, 1) := by decide +kernel
theorem dX5_sumOf_1 : decode cX5_sumOf 1 = .ok (.iload_n 1, 1) := by decide +kernel
theorem dX5_sumOf_2 : decode cX5_sumOf 2 = .ok (.invokevirtual 62, 3) := by decide +kernel
theorem dX5_sumOf_5 : decode cX5_sumOf 5 = .ok (.ifCond .le 11, 3) := by decide +kernel
theorem dX5_sumOf_8 : decode cX5_sumOf 8 = .ok (.aload_n 0, 1) := by decide +kernel
theorem dX5_sumOf_9 : decode cX5_sumOf 9 = .ok (.iload_n 1, 1) := by decide +kernel
theorem dX5_sumOf_10 : decode cX5_sumOf 10 = .ok (.invokevirtual 62, 3) := by decide +kernel
theorem dX5_sumOf_13 : decode cX5_sumOf 13 = .ok (.goto 4, 3) := by decide +kernel
theorem dX5_sumOf_16 : decode cX5_sumOf 16 = .ok (.iconst 1, 1) := by decide +kernel
theorem dX5_sumOf_17 : decode cX5_sumOf 17 = .ok (.ireturn, 1) := by decide +kernel
theorem dX5_sends_0 : decode cX5_sends 0 = .ok (.lload_n 3, 1) := by decide +kernel
theorem dX5_sends_1 : decode cX5_sends 1 = .ok (.lstore 5, 2) := by decide +kernel
theorem dX5_sends_3 : decode cX5_sends 3 = .ok (.iconst (-1), 1) := by decide +kernel
theorem dX5_sends_4 : decode cX5_sends 4 = .ok (.istore 7, 2) := by decide +kernel
theorem dX5_sends_6 : decode cX5_sends 6 = .ok (.aload_n 0, 1) := by decide +kernel
theorem dX5_sends_7 : decode cX5_sends 7 = .ok (.iload_n 2, 1) := by decide +kernel
theorem dX5_sends_8 : decode cX5_sends 8 = .ok (.invokevirtual 66, 3) := by decide +kernel
theorem dX5_sends_11 : decode cX5_sends 11 = .ok (.istore 8, 2) := by decide +kernel
theorem dX5_sends_13 : decode cX5_sends 13 = .ok (.bipush 8, 2) := by decide +kernel
theorem dX5_sends_15 : decode cX5_sends 15 = .ok (.istore 9, 2) := by decide +kernel
theorem dX5_sends_17 : decode cX5_sends 17 = .ok (.iload 9, 2) := by decide +kernel
theorem dX5_sends_19 : decode cX5_sends 19 = .ok (.ifCond .lt 85, 3) := by decide +kernel
theorem dX5_sends_22 : decode cX5_sends 22 = .ok (.aload_n 0, 1) := by decide +kernel
theorem dX5_sends_23 : decode cX5_sends 23 = .ok (.iload_n 1, 1) := by decide +kernel
theorem dX5_sends_24 : decode cX5_sends 24 = .ok (.iload_n 2, 1) := by decide +kernel
theorem dX5_sends_25 : decode cX5_sends 25 = .ok (.iload 9, 2) := by decide +kernel
theorem dX5_sends_27 : decode cX5_sends 27 = .ok (.invokevirtual 69, 3) := by decide +kernel
theorem dX5_sends_30 : decode cX5_sends 30 = .ok (.istore 10, 2) := by decide +kernel
theorem dX5_sends_32 : decode cX5_sends 32 = .ok (.iload 10, 2) := by decide +kernel
theorem dX5_sends_34 : decode cX5_sends 34 = .ok (.ifCond .le 64, 3) := by decide +kernel
theorem dX5_sends_37 : decode cX5_sends 37 = .ok (.lload_n 3, 1) := by decide +kernel
theorem dX5_sends_38 : decode cX5_sends 38 = .ok (.iload 10, 2) := by decide +kernel
theorem dX5_sends_40 : decode cX5_sends 40 = .ok (.i2l, 1) := by decide +kernel
theorem dX5_sends_41 : decode cX5_sends 41 = .ok (.lmul, 1) := by decide +kernel
theorem dX5_sends_42 : decode cX5_sends 42 = .ok (.iload 8, 2) := by decide +kernel
theorem dX5_sends_44 : decode cX5_sends 44 = .ok (.i2l, 1) := by decide +kernel
theorem dX5_sends_45 : decode cX5_sends 45 = .ok (.ldiv, 1) := by decide +kernel
theorem dX5_sends_46 : decode cX5_sends 46 = .ok (.lstore 11, 2) := by decide +kernel
theorem dX5_sends_48 : decode cX5_sends 48 = .ok (.iload 9, 2) := by decide +kernel
theorem dX5_sends_50 : decode cX5_sends 50 = .ok (.istore 7, 2) := by decide +kernel
theorem dX5_sends_52 : decode cX5_sends 52 = .ok (.lload 5, 2) := by decide +kernel
theorem dX5_sends_54 : decode cX5_sends 54 = .ok (.lload 11, 2) := by decide +kernel
theorem dX5_sends_56 : decode cX5_sends 56 = .ok (.lsub, 1) := by decide +kernel
theorem dX5_sends_57 : decode cX5_sends 57 = .ok (.lstore 5, 2) := by decide +kernel
theorem dX5_sends_59 : decode cX5_sends 59 = .ok (.aload_n 0, 1) := by decide +kernel
theorem dX5_sends_60 : decode cX5_sends 60 = .ok (.getfield 23, 3) := by decide +kernel
theorem dX5_sends_63 : decode cX5_sends 63 = .ok (.bipush 9, 2) := by decide +kernel
theorem dX5_sends_65 : decode cX5_sends 65 = .ok (.iload_n 1, 1) := by decide +kernel
theorem dX5_sends_66 : decode cX5_sends 66 = .ok (.imul, 1) := by decide +kernel
theorem dX5_sends_67 : decode cX5_sends 67 = .ok (.iload 9, 2) := by decide +kernel
theorem dX5_sends_69 : decode cX5_sends 69 = .ok (.iadd, 1) := by decide +kernel
theorem dX5_sends_70 : decode cX5_sends 70 = .ok (.dup2, 1) := by decide +kernel
theorem dX5_sends_71 : decode cX5_sends 71 = .ok (.laload, 1) := by decide +kernel
theorem dX5_sends_72 : decode cX5_sends 72 = .ok (.lload 11, 2) := by decide +kernel
theorem dX5_sends_74 : decode cX5_sends 74 = .ok (.ladd, 1) := by decide +kernel
theorem dX5_sends_75 : decode cX5_sends 75 = .ok (.lastore, 1) := by decide +kernel
theorem dX5_sends_76 : decode cX5_sends 76 = .ok (.aload_n 0, 1) := by decide +kernel
theorem dX5_sends_77 : decode cX5_sends 77 = .ok (.getfield 30, 3) := by decide +kernel
theorem dX5_sends_80 : decode cX5_sends 80 = .ok (.bipush 81, 2) := by decide +kernel
theorem dX5_sends_82 : decode cX5_sends 82 = .ok (.iload_n 1, 1) := by decide +kernel
theorem dX5_sends_83 : decode cX5_sends 83 = .ok (.imul, 1) := by decide +kernel
theorem dX5_sends_84 : decode cX5_sends 84 = .ok (.bipush 9, 2) := by decide +kernel
theorem dX5_sends_86 : decode cX5_sends 86 = .ok (.iload_n 2, 1) := by decide +kernel
theorem dX5_sends_87 : decode cX5_sends 87 = .ok (.imul, 1) := by decide +kernel
theorem dX5_sends_88 : decode cX5_sends 88 = .ok (.iadd, 1) := by decide +kernel
theorem dX5_sends_89 : decode cX5_sends 89 = .ok (.iload 9, 2) := by decide +kernel
theorem dX5_sends_91 : decode cX5_sends 91 = .ok (.iadd, 1) := by decide +kernel
theorem dX5_sends_92 : decode cX5_sends 92 = .ok (.dup2, 1) := by decide +kernel
theorem dX5_sends_93 : decode cX5_sends 93 = .ok (.laload, 1) := by decide +kernel
theorem dX5_sends_94 : decode cX5_sends 94 = .ok (.lload 11, 2) := by decide +kernel
theorem dX5_sends_96 : decode cX5_sends 96 = .ok (.ladd, 1) := by decide +kernel
theorem dX5_sends_97 : decode cX5_sends 97 = .ok (.lastore, 1) := by decide +kernel
theorem dX5_sends_98 : decode cX5_sends 98 = .ok (.iinc 9 (-1), 3) := by decide +kernel
theorem dX5_sends_101 : decode cX5_sends 101 = .ok (.goto (-84), 3) := by decide +kernel
theorem dX5_sends_104 : decode cX5_sends 104 = .ok (.aload_n 0, 1) := by decide +kernel
theorem dX5_sends_105 : decode cX5_sends 105 = .ok (.getfield 23, 3) := by decide +kernel
theorem dX5_sends_108 : decode cX5_sends 108 = .ok (.bipush 9, 2) := by decide +kernel
theorem dX5_sends_110 : decode cX5_sends 110 = .ok (.iload_n 1, 1) := by decide +kernel
theorem dX5_sends_111 : decode cX5_sends 111 = .ok (.imul, 1) := by decide +kernel
theorem dX5_sends_112 : decode cX5_sends 112 = .ok (.iload 7, 2) := by decide +kernel
theorem dX5_sends_114 : decode cX5_sends 114 = .ok (.iadd, 1) := by decide +kernel
theorem dX5_sends_115 : decode cX5_sends 115 = .ok (.dup2, 1) := by decide +kernel
theorem dX5_sends_116 : decode cX5_sends 116 = .ok (.laload, 1) := by decide +kernel
theorem dX5_sends_117 : decode cX5_sends 117 = .ok (.lload 5, 2) := by decide +kernel
theorem dX5_sends_119 : decode cX5_sends 119 = .ok (.ladd, 1) := by decide +kernel
theorem dX5_sends_120 : decode cX5_sends 120 = .ok (.lastore, 1) := by decide +kernel
theorem dX5_sends_121 : decode cX5_sends 121 = .ok (.aload_n 0, 1) := by decide +kernel
theorem dX5_sends_122 : decode cX5_sends 122 = .ok (.getfield 30, 3) := by decide +kernel
theorem dX5_sends_125 : decode cX5_sends 125 = .ok (.bipush 81, 2) := by decide +kernel
theorem dX5_sends_127 : decode cX5_sends 127 = .ok (.iload_n 1, 1) := by decide +kernel
theorem dX5_sends_128 : decode cX5_sends 128 = .ok (.imul, 1) := by decide +kernel
theorem dX5_sends_129 : decode cX5_sends 129 = .ok (.bipush 9, 2) := by decide +kernel
theorem dX5_sends_131 : decode cX5_sends 131 = .ok (.iload_n 2, 1) := by decide +kernel
theorem dX5_sends_132 : decode cX5_sends 132 = .ok (.imul, 1) := by decide +kernel
theorem dX5_sends_133 : decode cX5_sends 133 = .ok (.iadd, 1) := by decide +kernel
theorem dX5_sends_134 : decode cX5_sends 134 = .ok (.iload 7, 2) := by decide +kernel
theorem dX5_sends_136 : decode cX5_sends 136 = .ok (.iadd, 1) := by decide +kernel
theorem dX5_sends_137 : decode cX5_sends 137 = .ok (.dup2, 1) := by decide +kernel
theorem dX5_sends_138 : decode cX5_sends 138 = .ok (.laload, 1) := by decide +kernel
theorem dX5_sends_139 : decode cX5_sends 139 = .ok (.lload 5, 2) := by decide +kernel
theorem dX5_sends_141 : decode cX5_sends 141 = .ok (.ladd, 1) := by decide +kernel
theorem dX5_sends_142 : decode cX5_sends 142 = .ok (.lastore, 1) := by decide +kernel
theorem dX5_sends_143 : decode cX5_sends 143 = .ok (.return_, 1) := by decide +kernel
theorem dX5_push_0 : decode cX5_push 0 = .ok (.aload_n 0, 1) := by decide +kernel
theorem dX5_push_1 : decode cX5_push 1 = .ok (.getfield 23, 3) := by decide +kernel
theorem dX5_push_4 : decode cX5_push 4 = .ok (.bipush 9, 2) := by decide +kernel
theorem dX5_push_6 : decode cX5_push 6 = .ok (.iload_n 1, 1) := by decide +kernel
theorem dX5_push_7 : decode cX5_push 7 = .ok (.imul, 1) := by decide +kernel
theorem dX5_push_8 : decode cX5_push 8 = .ok (.iload_n 2, 1) := by decide +kernel
theorem dX5_push_9 : decode cX5_push 9 = .ok (.iadd, 1) := by decide +kernel
theorem dX5_push_10 : decode cX5_push 10 = .ok (.laload, 1) := by decide +kernel
theorem dX5_push_11 : decode cX5_push 11 = .ok (.lstore_n 3, 1) := by decide +kernel
theorem dX5_push_12 : decode cX5_push 12 = .ok (.lload_n 3, 1) := by decide +kernel
theorem dX5_push_13 : decode cX5_push 13 = .ok (.bipush 100, 2) := by decide +kernel
theorem dX5_push_15 : decode cX5_push 15 = .ok (.aload_n 0, 1) := by decide +kernel
theorem dX5_push_16 : decode cX5_push 16 = .ok (.getfield 16, 3) := by decide +kernel
theorem dX5_push_19 : decode cX5_push 19 = .ok (.isub, 1) := by decide +kernel
theorem dX5_push_20 : decode cX5_push 20 = .ok (.i2l, 1) := by decide +kernel
theorem dX5_push_21 : decode cX5_push 21 = .ok (.lmul, 1) := by decide +kernel
theorem dX5_push_22 : decode cX5_push 22 = .ok (.ldc2_w 73, 3) := by decide +kernel
theorem dX5_push_25 : decode cX5_push 25 = .ok (.ldiv, 1) := by decide +kernel
theorem dX5_push_26 : decode cX5_push 26 = .ok (.lstore 5, 2) := by decide +kernel
theorem dX5_push_28 : decode cX5_push 28 = .ok (.aload_n 0, 1) := by decide +kernel
theorem dX5_push_29 : decode cX5_push 29 = .ok (.getfield 23, 3) := by decide +kernel
theorem dX5_push_32 : decode cX5_push 32 = .ok (.bipush 9, 2) := by decide +kernel
theorem dX5_push_34 : decode cX5_push 34 = .ok (.iload_n 1, 1) := by decide +kernel
theorem dX5_push_35 : decode cX5_push 35 = .ok (.imul, 1) := by decide +kernel
theorem dX5_push_36 : decode cX5_push 36 = .ok (.iload_n 2, 1) := by decide +kernel
theorem dX5_push_37 : decode cX5_push 37 = .ok (.iadd, 1) := by decide +kernel
theorem dX5_push_38 : decode cX5_push 38 = .ok (.lconst 0, 1) := by decide +kernel
theorem dX5_push_39 : decode cX5_push 39 = .ok (.lastore, 1) := by decide +kernel
theorem dX5_push_40 : decode cX5_push 40 = .ok (.aload_n 0, 1) := by decide +kernel
theorem dX5_push_41 : decode cX5_push 41 = .ok (.getfield 27, 3) := by decide +kernel
theorem dX5_push_44 : decode cX5_push 44 = .ok (.bipush 9, 2) := by decide +kernel
theorem dX5_push_46 : decode cX5_push 46 = .ok (.iload_n 1, 1) := by decide +kernel
theorem dX5_push_47 : decode cX5_push 47 = .ok (.imul, 1) := by decide +kernel
theorem dX5_push_48 : decode cX5_push 48 = .ok (.iload_n 2, 1) := by decide +kernel
theorem dX5_push_49 : decode cX5_push 49 = .ok (.iadd, 1) := by decide +kernel
theorem dX5_push_50 : decode cX5_push 50 = .ok (.dup2, 1) := by decide +kernel
theorem dX5_push_51 : decode cX5_push 51 = .ok (.laload, 1) := by decide +kernel
theorem dX5_push_52 : decode cX5_push 52 = .ok (.lload 5, 2) := by decide +kernel
theorem dX5_push_54 : decode cX5_push 54 = .ok (.ladd, 1) := by decide +kernel
theorem dX5_push_55 : decode cX5_push 55 = .ok (.lastore, 1) := by decide +kernel
theorem dX5_push_56 : decode cX5_push 56 = .ok (.aload_n 0, 1) := by decide +kernel
theorem dX5_push_57 : decode cX5_push 57 = .ok (.iload_n 1, 1) := by decide +kernel
theorem dX5_push_58 : decode cX5_push 58 = .ok (.iload_n 2, 1) := by decide +kernel
theorem dX5_push_59 : decode cX5_push 59 = .ok (.lload_n 3, 1) := by decide +kernel
theorem dX5_push_60 : decode cX5_push 60 = .ok (.lload 5, 2) := by decide +kernel
theorem dX5_push_62 : decode cX5_push 62 = .ok (.lsub, 1) := by decide +kernel
theorem dX5_push_63 : decode cX5_push 63 = .ok (.invokevirtual 75, 3) := by decide +kernel
theorem dX5_push_66 : decode cX5_push 66 = .ok (.aload_n 0, 1) := by decide +kernel
theorem dX5_push_67 : decode cX5_push 67 = .ok (.dup, 1) := by decide +kernel
theorem dX5_push_68 : decode cX5_push 68 = .ok (.getfield 79, 3) := by decide +kernel
theorem dX5_push_71 : decode cX5_push 71 = .ok (.iconst 1, 1) := by decide +kernel
theorem dX5_push_72 : decode cX5_push 72 = .ok (.iadd, 1) := by decide +kernel
theorem dX5_push_73 : decode cX5_push 73 = .ok (.putfield 79, 3) := by decide +kernel
theorem dX5_push_76 : decode cX5_push 76 = .ok (.return_, 1) := by decide +kernel
theorem dX5_next_0 : decode cX5_next 0 = .ok (.iconst 0, 1) := by decide +kernel
theorem dX5_next_1 : decode cX5_next 1 = .ok (.istore_n 2, 1) := by decide +kernel
theorem dX5_next_2 : decode cX5_next 2 = .ok (.iload_n 2, 1) := by decide +kernel
theorem dX5_next_3 : decode cX5_next 3 = .ok (.bipush 9, 2) := by decide +kernel
theorem dX5_next_5 : decode cX5_next 5 = .ok (.if_icmp .ge 44, 3) := by decide +kernel
theorem dX5_next_8 : decode cX5_next 8 = .ok (.aload_n 0, 1) := by decide +kernel
theorem dX5_next_9 : decode cX5_next 9 = .ok (.getfield 23, 3) := by decide +kernel
theorem dX5_next_12 : decode cX5_next 12 = .ok (.bipush 9, 2) := by decide +kernel
theorem dX5_next_14 : decode cX5_next 14 = .ok (.iload_n 1, 1) := by decide +kernel
theorem dX5_next_15 : decode cX5_next 15 = .ok (.imul, 1) := by decide +kernel
theorem dX5_next_16 : decode cX5_next 16 = .ok (.iload_n 2, 1) := by decide +kernel
theorem dX5_next_17 : decode cX5_next 17 = .ok (.iadd, 1) := by decide +kernel
theorem dX5_next_18 : decode cX5_next 18 = .ok (.laload, 1) := by decide +kernel
theorem dX5_next_19 : decode cX5_next 19 = .ok (.lstore_n 3, 1) := by decide +kernel
theorem dX5_next_20 : decode cX5_next 20 = .ok (.lload_n 3, 1) := by decide +kernel
theorem dX5_next_21 : decode cX5_next 21 = .ok (.aload_n 0, 1) := by decide +kernel
theorem dX5_next_22 : decode cX5_next 22 = .ok (.getfield 20, 3) := by decide +kernel
theorem dX5_next_25 : decode cX5_next 25 = .ok (.i2l, 1) := by decide +kernel
theorem dX5_next_26 : decode cX5_next 26 = .ok (.lcmp, 1) := by decide +kernel
theorem dX5_next_27 : decode cX5_next 27 = .ok (.ifCond .ge 14, 3) := by decide +kernel
theorem dX5_next_30 : decode cX5_next 30 = .ok (.lload_n 3, 1) := by decide +kernel
theorem dX5_next_31 : decode cX5_next 31 = .ok (.aload_n 0, 1) := by decide +kernel
theorem dX5_next_32 : decode cX5_next 32 = .ok (.getfield 20, 3) := by decide +kernel
theorem dX5_next_35 : decode cX5_next 35 = .ok (.ineg, 1) := by decide +kernel
theorem dX5_next_36 : decode cX5_next 36 = .ok (.i2l, 1) := by decide +kernel
theorem dX5_next_37 : decode cX5_next 37 = .ok (.lcmp, 1) := by decide +kernel
theorem dX5_next_38 : decode cX5_next 38 = .ok (.ifCond .gt 5, 3) := by decide +kernel
theorem dX5_next_41 : decode cX5_next 41 = .ok (.iload_n 2, 1) := by decide +kernel
theorem dX5_next_42 : decode cX5_next 42 = .ok (.ireturn, 1) := by decide +kernel
theorem dX5_next_43 : decode cX5_next 43 = .ok (.iinc 2 1, 3) := by decide +kernel
theorem dX5_next_46 : decode cX5_next 46 = .ok (.goto (-44), 3) := by decide +kernel
theorem dX5_next_49 : decode cX5_next 49 = .ok (.iconst (-1), 1) := by decide +kernel
theorem dX5_next_50 : decode cX5_next 50 = .ok (.ireturn, 1) := by decide +kernel
theorem dX5_settles_0 : decode cX5_settles 0 = .ok (.iconst 0, 1) := by decide +kernel
theorem dX5_settles_1 : decode cX5_settles 1 = .ok (.istore_n 1, 1) := by decide +kernel
theorem dX5_settles_2 : decode cX5_settles 2 = .ok (.iload_n 1, 1) := by decide +kernel
theorem dX5_settles_3 : decode cX5_settles 3 = .ok (.iconst 4, 1) := by decide +kernel
theorem dX5_settles_4 : decode cX5_settles 4 = .ok (.if_icmp .ge 34, 3) := by decide +kernel
theorem dX5_settles_7 : decode cX5_settles 7 = .ok (.aload_n 0, 1) := by decide +kernel
theorem dX5_settles_8 : decode cX5_settles 8 = .ok (.iload_n 1, 1) := by decide +kernel
theorem dX5_settles_9 : decode cX5_settles 9 = .ok (.invokevirtual 82, 3) := by decide +kernel
theorem dX5_settles_12 : decode cX5_settles 12 = .ok (.istore_n 2, 1) := by decide +kernel
theorem dX5_settles_13 : decode cX5_settles 13 = .ok (.iload_n 2, 1) := by decide +kernel
theorem dX5_settles_14 : decode cX5_settles 14 = .ok (.ifCond .lt 18, 3) := by decide +kernel
theorem dX5_settles_17 : decode cX5_settles 17 = .ok (.aload_n 0, 1) := by decide +kernel
theorem dX5_settles_18 : decode cX5_settles 18 = .ok (.iload_n 1, 1) := by decide +kernel
theorem dX5_settles_19 : decode cX5_settles 19 = .ok (.iload_n 2, 1) := by decide +kernel
theorem dX5_settles_20 : decode cX5_settles 20 = .ok (.invokevirtual 85, 3) := by decide +kernel
theorem dX5_settles_23 : decode cX5_settles 23 = .ok (.aload_n 0, 1) := by decide +kernel
theorem dX5_settles_24 : decode cX5_settles 24 = .ok (.iload_n 1, 1) := by decide +kernel
theorem dX5_settles_25 : decode cX5_settles 25 = .ok (.invokevirtual 82, 3) := by decide +kernel
theorem dX5_settles_28 : decode cX5_settles 28 = .ok (.istore_n 2, 1) := by decide +kernel
theorem dX5_settles_29 : decode cX5_settles 29 = .ok (.goto (-16), 3) := by decide +kernel
theorem dX5_settles_32 : decode cX5_settles 32 = .ok (.iinc 1 1, 3) := by decide +kernel
theorem dX5_settles_35 : decode cX5_settles 35 = .ok (.goto (-33), 3) := by decide +kernel
theorem dX5_settles_38 : decode cX5_settles 38 = .ok (.return_, 1) := by decide +kernel
theorem dX5_begins_0 : decode cX5_begins 0 = .ok (.iconst 0, 1) := by decide +kernel
theorem dX5_begins_1 : decode cX5_begins 1 = .ok (.istore_n 1, 1) := by decide +kernel
theorem dX5_begins_2 : decode cX5_begins 2 = .ok (.iload_n 1, 1) := by decide +kernel
theorem dX5_begins_3 : decode cX5_begins 3 = .ok (.sipush 324, 3) := by decide +kernel
theorem dX5_begins_6 : decode cX5_begins 6 = .ok (.if_icmp .ge 16, 3) := by decide +kernel
theorem dX5_begins_9 : decode cX5_begins 9 = .ok (.aload_n 0, 1) := by decide +kernel
theorem dX5_begins_10 : decode cX5_begins 10 = .ok (.getfield 30, 3) := by decide +kernel
theorem dX5_begins_13 : decode cX5_begins 13 = .ok (.iload_n 1, 1) := by decide +kernel
theorem dX5_begins_14 : decode cX5_begins 14 = .ok (.lconst 0, 1) := by decide +kernel
theorem dX5_begins_15 : decode cX5_begins 15 = .ok (.lastore, 1) := by decide +kernel
theorem dX5_begins_16 : decode cX5_begins 16 = .ok (.iinc 1 1, 3) := by decide +kernel
theorem dX5_begins_19 : decode cX5_begins 19 = .ok (.goto (-17), 3) := by decide +kernel
theorem dX5_begins_22 : decode cX5_begins 22 = .ok (.iconst 0, 1) := by decide +kernel
theorem dX5_begins_23 : decode cX5_begins 23 = .ok (.istore_n 1, 1) := by decide +kernel
theorem dX5_begins_24 : decode cX5_begins 24 = .ok (.iload_n 1, 1) := by decide +kernel
theorem dX5_begins_25 : decode cX5_begins 25 = .ok (.bipush 36, 2) := by decide +kernel
theorem dX5_begins_27 : decode cX5_begins 27 = .ok (.if_icmp .ge 40, 3) := by decide +kernel
theorem dX5_begins_30 : decode cX5_begins 30 = .ok (.aload_n 0, 1) := by decide +kernel
theorem dX5_begins_31 : decode cX5_begins 31 = .ok (.getfield 27, 3) := by decide +kernel
theorem dX5_begins_34 : decode cX5_begins 34 = .ok (.iload_n 1, 1) := by decide +kernel
theorem dX5_begins_35 : decode cX5_begins 35 = .ok (.lconst 0, 1) := by decide +kernel
theorem dX5_begins_36 : decode cX5_begins 36 = .ok (.lastore, 1) := by decide +kernel
theorem dX5_begins_37 : decode cX5_begins 37 = .ok (.aload_n 0, 1) := by decide +kernel
theorem dX5_begins_38 : decode cX5_begins 38 = .ok (.getfield 23, 3) := by decide +kernel
theorem dX5_begins_41 : decode cX5_begins 41 = .ok (.iload_n 1, 1) := by decide +kernel
theorem dX5_begins_42 : decode cX5_begins 42 = .ok (.iload_n 1, 1) := by decide +kernel
theorem dX5_begins_43 : decode cX5_begins 43 = .ok (.bipush 9, 2) := by decide +kernel
theorem dX5_begins_45 : decode cX5_begins 45 = .ok (.irem, 1) := by decide +kernel
theorem dX5_begins_46 : decode cX5_begins 46 = .ok (.iload_n 1, 1) := by decide +kernel
theorem dX5_begins_47 : decode cX5_begins 47 = .ok (.bipush 9, 2) := by decide +kernel
theorem dX5_begins_49 : decode cX5_begins 49 = .ok (.idiv, 1) := by decide +kernel
theorem dX5_begins_50 : decode cX5_begins 50 = .ok (.if_icmp .ne 9, 3) := by decide +kernel
theorem dX5_begins_53 : decode cX5_begins 53 = .ok (.ldc2_w 89, 3) := by decide +kernel
theorem dX5_begins_56 : decode cX5_begins 56 = .ok (.goto 4, 3) := by decide +kernel
theorem dX5_begins_59 : decode cX5_begins 59 = .ok (.lconst 0, 1) := by decide +kernel
theorem dX5_begins_60 : decode cX5_begins 60 = .ok (.lastore, 1) := by decide +kernel
theorem dX5_begins_61 : decode cX5_begins 61 = .ok (.iinc 1 1, 3) := by decide +kernel
theorem dX5_begins_64 : decode cX5_begins 64 = .ok (.goto (-40), 3) := by decide +kernel
theorem dX5_begins_67 : decode cX5_begins 67 = .ok (.aload_n 0, 1) := by decide +kernel
theorem dX5_begins_68 : decode cX5_begins 68 = .ok (.invokevirtual 91, 3) := by decide +kernel
theorem dX5_begins_71 : decode cX5_begins 71 = .ok (.return_, 1) := by decide +kernel
theorem dX5_mends_0 : decode cX5_mends 0 = .ok (.iconst 0, 1) := by decide +kernel
theorem dX5_mends_1 : decode cX5_mends 1 = .ok (.istore_n 1, 1) := by decide +kernel
theorem dX5_mends_2 : decode cX5_mends 2 = .ok (.iload_n 1, 1) := by decide +kernel
theorem dX5_mends_3 : decode cX5_mends 3 = .ok (.iconst 4, 1) := by decide +kernel
theorem dX5_mends_4 : decode cX5_mends 4 = .ok (.if_icmp .ge 107, 3) := by decide +kernel
theorem dX5_mends_7 : decode cX5_mends 7 = .ok (.iconst 0, 1) := by decide +kernel
theorem dX5_mends_8 : decode cX5_mends 8 = .ok (.istore_n 2, 1) := by decide +kernel
theorem dX5_mends_9 : decode cX5_mends 9 = .ok (.iload_n 2, 1) := by decide +kernel
theorem dX5_mends_10 : decode cX5_mends 10 = .ok (.bipush 9, 2) := by decide +kernel
theorem dX5_mends_12 : decode cX5_mends 12 = .ok (.if_icmp .ge 93, 3) := by decide +kernel
theorem dX5_mends_15 : decode cX5_mends 15 = .ok (.lconst 0, 1) := by decide +kernel
theorem dX5_mends_16 : decode cX5_mends 16 = .ok (.lstore_n 3, 1) := by decide +kernel
theorem dX5_mends_17 : decode cX5_mends 17 = .ok (.iconst 0, 1) := by decide +kernel
theorem dX5_mends_18 : decode cX5_mends 18 = .ok (.istore 5, 2) := by decide +kernel
theorem dX5_mends_20 : decode cX5_mends 20 = .ok (.iload 5, 2) := by decide +kernel
theorem dX5_mends_22 : decode cX5_mends 22 = .ok (.bipush 9, 2) := by decide +kernel
theorem dX5_mends_24 : decode cX5_mends 24 = .ok (.if_icmp .ge 68, 3) := by decide +kernel
theorem dX5_mends_27 : decode cX5_mends 27 = .ok (.aload_n 0, 1) := by decide +kernel
theorem dX5_mends_28 : decode cX5_mends 28 = .ok (.getfield 30, 3) := by decide +kernel
theorem dX5_mends_31 : decode cX5_mends 31 = .ok (.bipush 81, 2) := by decide +kernel
theorem dX5_mends_33 : decode cX5_mends 33 = .ok (.iload_n 1, 1) := by decide +kernel
theorem dX5_mends_34 : decode cX5_mends 34 = .ok (.imul, 1) := by decide +kernel
theorem dX5_mends_35 : decode cX5_mends 35 = .ok (.bipush 9, 2) := by decide +kernel
theorem dX5_mends_37 : decode cX5_mends 37 = .ok (.iload_n 2, 1) := by decide +kernel
theorem dX5_mends_38 : decode cX5_mends 38 = .ok (.imul, 1) := by decide +kernel
theorem dX5_mends_39 : decode cX5_mends 39 = .ok (.iadd, 1) := by decide +kernel
theorem dX5_mends_40 : decode cX5_mends 40 = .ok (.iload 5, 2) := by decide +kernel
theorem dX5_mends_42 : decode cX5_mends 42 = .ok (.iadd, 1) := by decide +kernel
theorem dX5_mends_43 : decode cX5_mends 43 = .ok (.laload, 1) := by decide +kernel
theorem dX5_mends_44 : decode cX5_mends 44 = .ok (.lstore 6, 2) := by decide +kernel
theorem dX5_mends_46 : decode cX5_mends 46 = .ok (.lload_n 3, 1) := by decide +kernel
theorem dX5_mends_47 : decode cX5_mends 47 = .ok (.lload 6, 2) := by decide +kernel
theorem dX5_mends_49 : decode cX5_mends 49 = .ok (.ladd, 1) := by decide +kernel
theorem dX5_mends_50 : decode cX5_mends 50 = .ok (.lstore_n 3, 1) := by decide +kernel
theorem dX5_mends_51 : decode cX5_mends 51 = .ok (.aload_n 0, 1) := by decide +kernel
theorem dX5_mends_52 : decode cX5_mends 52 = .ok (.getfield 23, 3) := by decide +kernel
theorem dX5_mends_55 : decode cX5_mends 55 = .ok (.bipush 9, 2) := by decide +kernel
theorem dX5_mends_57 : decode cX5_mends 57 = .ok (.iload_n 1, 1) := by decide +kernel
theorem dX5_mends_58 : decode cX5_mends 58 = .ok (.imul, 1) := by decide +kernel
theorem dX5_mends_59 : decode cX5_mends 59 = .ok (.iload 5, 2) := by decide +kernel
theorem dX5_mends_61 : decode cX5_mends 61 = .ok (.iadd, 1) := by decide +kernel
theorem dX5_mends_62 : decode cX5_mends 62 = .ok (.dup2, 1) := by decide +kernel
theorem dX5_mends_63 : decode cX5_mends 63 = .ok (.laload, 1) := by decide +kernel
theorem dX5_mends_64 : decode cX5_mends 64 = .ok (.lload 6, 2) := by decide +kernel
theorem dX5_mends_66 : decode cX5_mends 66 = .ok (.lsub, 1) := by decide +kernel
theorem dX5_mends_67 : decode cX5_mends 67 = .ok (.lastore, 1) := by decide +kernel
theorem dX5_mends_68 : decode cX5_mends 68 = .ok (.aload_n 0, 1) := by decide +kernel
theorem dX5_mends_69 : decode cX5_mends 69 = .ok (.getfield 30, 3) := by decide +kernel
theorem dX5_mends_72 : decode cX5_mends 72 = .ok (.bipush 81, 2) := by decide +kernel
theorem dX5_mends_74 : decode cX5_mends 74 = .ok (.iload_n 1, 1) := by decide +kernel
theorem dX5_mends_75 : decode cX5_mends 75 = .ok (.imul, 1) := by decide +kernel
theorem dX5_mends_76 : decode cX5_mends 76 = .ok (.bipush 9, 2) := by decide +kernel
theorem dX5_mends_78 : decode cX5_mends 78 = .ok (.iload_n 2, 1) := by decide +kernel
theorem dX5_mends_79 : decode cX5_mends 79 = .ok (.imul, 1) := by decide +kernel
theorem dX5_mends_80 : decode cX5_mends 80 = .ok (.iadd, 1) := by decide +kernel
theorem dX5_mends_81 : decode cX5_mends 81 = .ok (.iload 5, 2) := by decide +kernel
theorem dX5_mends_83 : decode cX5_mends 83 = .ok (.iadd, 1) := by decide +kernel
theorem dX5_mends_84 : decode cX5_mends 84 = .ok (.lconst 0, 1) := by decide +kernel
theorem dX5_mends_85 : decode cX5_mends 85 = .ok (.lastore, 1) := by decide +kernel
theorem dX5_mends_86 : decode cX5_mends 86 = .ok (.iinc 5 1, 3) := by decide +kernel
theorem dX5_mends_89 : decode cX5_mends 89 = .ok (.goto (-69), 3) := by decide +kernel
theorem dX5_mends_92 : decode cX5_mends 92 = .ok (.aload_n 0, 1) := by decide +kernel
theorem dX5_mends_93 : decode cX5_mends 93 = .ok (.iload_n 1, 1) := by decide +kernel
theorem dX5_mends_94 : decode cX5_mends 94 = .ok (.iload_n 2, 1) := by decide +kernel
theorem dX5_mends_95 : decode cX5_mends 95 = .ok (.lload_n 3, 1) := by decide +kernel
theorem dX5_mends_96 : decode cX5_mends 96 = .ok (.invokevirtual 75, 3) := by decide +kernel
theorem dX5_mends_99 : decode cX5_mends 99 = .ok (.iinc 2 1, 3) := by decide +kernel
theorem dX5_mends_102 : decode cX5_mends 102 = .ok (.goto (-93), 3) := by decide +kernel
theorem dX5_mends_105 : decode cX5_mends 105 = .ok (.iinc 1 1, 3) := by decide +kernel
theorem dX5_mends_108 : decode cX5_mends 108 = .ok (.goto (-106), 3) := by decide +kernel
theorem dX5_mends_111 : decode cX5_mends 111 = .ok (.aload_n 0, 1) := by decide +kernel
theorem dX5_mends_112 : decode cX5_mends 112 = .ok (.invokevirtual 91, 3) := by decide +kernel
theorem dX5_mends_115 : decode cX5_mends 115 = .ok (.return_, 1) := by decide +kernel
theorem dX5_isPair_0 : decode cX5_isPair 0 = .ok (.aload_n 0, 1) := by decide +kernel
theorem dX5_isPair_1 : decode cX5_isPair 1 = .ok (.iload_n 1, 1) := by decide +kernel
theorem dX5_isPair_2 : decode cX5_isPair 2 = .ok (.iconst 0, 1) := by decide +kernel
theorem dX5_isPair_3 : decode cX5_isPair 3 = .ok (.iconst 3, 1) := by decide +kernel
theorem dX5_isPair_4 : decode cX5_isPair 4 = .ok (.invokevirtual 94, 3) := by decide +kernel
theorem dX5_isPair_7 : decode cX5_isPair 7 = .ok (.ifCond .eq 17, 3) := by decide +kernel
theorem dX5_isPair_10 : decode cX5_isPair 10 = .ok (.aload_n 0, 1) := by decide +kernel
theorem dX5_isPair_11 : decode cX5_isPair 11 = .ok (.iload_n 2, 1) := by decide +kernel
theorem dX5_isPair_12 : decode cX5_isPair 12 = .ok (.iconst 0, 1) := by decide +kernel
theorem dX5_isPair_13 : decode cX5_isPair 13 = .ok (.iconst 4, 1) := by decide +kernel
theorem dX5_isPair_14 : decode cX5_isPair 14 = .ok (.invokevirtual 94, 3) := by decide +kernel
theorem dX5_isPair_17 : decode cX5_isPair 17 = .ok (.ifCond .eq 7, 3) := by decide +kernel
theorem dX5_isPair_20 : decode cX5_isPair 20 = .ok (.iconst 1, 1) := by decide +kernel
theorem dX5_isPair_21 : decode cX5_isPair 21 = .ok (.goto 4, 3) := by decide +kernel
theorem dX5_isPair_24 : decode cX5_isPair 24 = .ok (.iconst 0, 1) := by decide +kernel
theorem dX5_isPair_25 : decode cX5_isPair 25 = .ok (.ireturn, 1) := by decide +kernel
theorem dX5_loan_0 : decode cX5_loan 0 = .ok (.aload_n 0, 1) := by decide +kernel
theorem dX5_loan_1 : decode cX5_loan 1 = .ok (.aload_n 0, 1) := by decide +kernel
theorem dX5_loan_2 : decode cX5_loan 2 = .ok (.iload_n 1, 1) := by decide +kernel
theorem dX5_loan_3 : decode cX5_loan 3 = .ok (.iload_n 2, 1) := by decide +kernel
theorem dX5_loan_4 : decode cX5_loan 4 = .ok (.invokevirtual 98, 3) := by decide +kernel
theorem dX5_loan_7 : decode cX5_loan 7 = .ok (.ifCond .ne 7, 3) := by decide +kernel
theorem dX5_loan_10 : decode cX5_loan 10 = .ok (.iconst 1, 1) := by decide +kernel
theorem dX5_loan_11 : decode cX5_loan 11 = .ok (.goto 19, 3) := by decide +kernel
theorem dX5_loan_14 : decode cX5_loan 14 = .ok (.aload_n 0, 1) := by decide +kernel
theorem dX5_loan_15 : decode cX5_loan 15 = .ok (.iload_n 3, 1) := by decide +kernel
theorem dX5_loan_16 : decode cX5_loan 16 = .ok (.iconst 1, 1) := by decide +kernel
theorem dX5_loan_17 : decode cX5_loan 17 = .ok (.bipush 99, 2) := by decide +kernel
theorem dX5_loan_19 : decode cX5_loan 19 = .ok (.invokevirtual 94, 3) := by decide +kernel
theorem dX5_loan_22 : decode cX5_loan 22 = .ok (.ifCond .eq 7, 3) := by decide +kernel
theorem dX5_loan_25 : decode cX5_loan 25 = .ok (.iconst 0, 1) := by decide +kernel
theorem dX5_loan_26 : decode cX5_loan 26 = .ok (.goto 4, 3) := by decide +kernel
theorem dX5_loan_29 : decode cX5_loan 29 = .ok (.iconst 2, 1) := by decide +kernel
theorem dX5_loan_30 : decode cX5_loan 30 = .ok (.invokevirtual 102, 3) := by decide +kernel
theorem dX5_loan_33 : decode cX5_loan 33 = .ok (.ifCond .eq 5, 3) := by decide +kernel
theorem dX5_loan_36 : decode cX5_loan 36 = .ok (.iconst (-1), 1) := by decide +kernel
theorem dX5_loan_37 : decode cX5_loan 37 = .ok (.ireturn, 1) := by decide +kernel
theorem dX5_loan_38 : decode cX5_loan 38 = .ok (.aload_n 0, 1) := by decide +kernel
theorem dX5_loan_39 : decode cX5_loan 39 = .ok (.getfield 7, 3) := by decide +kernel
theorem dX5_loan_42 : decode cX5_loan 42 = .ok (.iconst 5, 1) := by decide +kernel
theorem dX5_loan_43 : decode cX5_loan 43 = .ok (.iload_n 1, 1) := by decide +kernel
theorem dX5_loan_44 : decode cX5_loan 44 = .ok (.imul, 1) := by decide +kernel
theorem dX5_loan_45 : decode cX5_loan 45 = .ok (.iload_n 2, 1) := by decide +kernel
theorem dX5_loan_46 : decode cX5_loan 46 = .ok (.iadd, 1) := by decide +kernel
theorem dX5_loan_47 : decode cX5_loan 47 = .ok (.iaload, 1) := by decide +kernel
theorem dX5_loan_48 : decode cX5_loan 48 = .ok (.iload_n 3, 1) := by decide +kernel
theorem dX5_loan_49 : decode cX5_loan 49 = .ok (.iadd, 1) := by decide +kernel
theorem dX5_loan_50 : decode cX5_loan 50 = .ok (.istore 4, 2) := by decide +kernel
theorem dX5_loan_52 : decode cX5_loan 52 = .ok (.aload_n 0, 1) := by decide +kernel
theorem dX5_loan_53 : decode cX5_loan 53 = .ok (.getfield 7, 3) := by decide +kernel
theorem dX5_loan_56 : decode cX5_loan 56 = .ok (.iconst 5, 1) := by decide +kernel
theorem dX5_loan_57 : decode cX5_loan 57 = .ok (.iload_n 1, 1) := by decide +kernel
theorem dX5_loan_58 : decode cX5_loan 58 = .ok (.imul, 1) := by decide +kernel
theorem dX5_loan_59 : decode cX5_loan 59 = .ok (.iload_n 2, 1) := by decide +kernel
theorem dX5_loan_60 : decode cX5_loan 60 = .ok (.iadd, 1) := by decide +kernel
theorem dX5_loan_61 : decode cX5_loan 61 = .ok (.iload 4, 2) := by decide +kernel
theorem dX5_loan_63 : decode cX5_loan 63 = .ok (.bipush 99, 2) := by decide +kernel
theorem dX5_loan_65 : decode cX5_loan 65 = .ok (.if_icmp .le 8, 3) := by decide +kernel
theorem dX5_loan_68 : decode cX5_loan 68 = .ok (.bipush 99, 2) := by decide +kernel
theorem dX5_loan_70 : decode cX5_loan 70 = .ok (.goto 5, 3) := by decide +kernel
theorem dX5_loan_73 : decode cX5_loan 73 = .ok (.iload 4, 2) := by decide +kernel
theorem dX5_loan_75 : decode cX5_loan 75 = .ok (.iastore, 1) := by decide +kernel
theorem dX5_loan_76 : decode cX5_loan 76 = .ok (.aload_n 0, 1) := by decide +kernel
theorem dX5_loan_77 : decode cX5_loan 77 = .ok (.invokevirtual 106, 3) := by decide +kernel
theorem dX5_loan_80 : decode cX5_loan 80 = .ok (.aload_n 0, 1) := by decide +kernel
theorem dX5_loan_81 : decode cX5_loan 81 = .ok (.getfield 7, 3) := by decide +kernel
theorem dX5_loan_84 : decode cX5_loan 84 = .ok (.iconst 5, 1) := by decide +kernel
theorem dX5_loan_85 : decode cX5_loan 85 = .ok (.iload_n 1, 1) := by decide +kernel
theorem dX5_loan_86 : decode cX5_loan 86 = .ok (.imul, 1) := by decide +kernel
theorem dX5_loan_87 : decode cX5_loan 87 = .ok (.iload_n 2, 1) := by decide +kernel
theorem dX5_loan_88 : decode cX5_loan 88 = .ok (.iadd, 1) := by decide +kernel
theorem dX5_loan_89 : decode cX5_loan 89 = .ok (.iaload, 1) := by decide +kernel
theorem dX5_loan_90 : decode cX5_loan 90 = .ok (.ireturn, 1) := by decide +kernel
theorem dX5_strike_0 : decode cX5_strike 0 = .ok (.aload_n 0, 1) := by decide +kernel
theorem dX5_strike_1 : decode cX5_strike 1 = .ok (.iload_n 1, 1) := by decide +kernel
theorem dX5_strike_2 : decode cX5_strike 2 = .ok (.iload_n 2, 1) := by decide +kernel
theorem dX5_strike_3 : decode cX5_strike 3 = .ok (.invokevirtual 98, 3) := by decide +kernel
theorem dX5_strike_6 : decode cX5_strike 6 = .ok (.istore_n 3, 1) := by decide +kernel
theorem dX5_strike_7 : decode cX5_strike 7 = .ok (.aload_n 0, 1) := by decide +kernel
theorem dX5_strike_8 : decode cX5_strike 8 = .ok (.iload_n 3, 1) := by decide +kernel
theorem dX5_strike_9 : decode cX5_strike 9 = .ok (.ifCond .ne 7, 3) := by decide +kernel
theorem dX5_strike_12 : decode cX5_strike 12 = .ok (.iconst 1, 1) := by decide +kernel
theorem dX5_strike_13 : decode cX5_strike 13 = .ok (.goto 21, 3) := by decide +kernel
theorem dX5_strike_16 : decode cX5_strike 16 = .ok (.aload_n 0, 1) := by decide +kernel
theorem dX5_strike_17 : decode cX5_strike 17 = .ok (.getfield 7, 3) := by decide +kernel
theorem dX5_strike_20 : decode cX5_strike 20 = .ok (.iconst 5, 1) := by decide +kernel
theorem dX5_strike_21 : decode cX5_strike 21 = .ok (.iload_n 1, 1) := by decide +kernel
theorem dX5_strike_22 : decode cX5_strike 22 = .ok (.imul, 1) := by decide +kernel
theorem dX5_strike_23 : decode cX5_strike 23 = .ok (.iload_n 2, 1) := by decide +kernel
theorem dX5_strike_24 : decode cX5_strike 24 = .ok (.iadd, 1) := by decide +kernel
theorem dX5_strike_25 : decode cX5_strike 25 = .ok (.iaload, 1) := by decide +kernel
theorem dX5_strike_26 : decode cX5_strike 26 = .ok (.ifCond .ne 7, 3) := by decide +kernel
theorem dX5_strike_29 : decode cX5_strike 29 = .ok (.iconst 2, 1) := by decide +kernel
theorem dX5_strike_30 : decode cX5_strike 30 = .ok (.goto 4, 3) := by decide +kernel
theorem dX5_strike_33 : decode cX5_strike 33 = .ok (.iconst 0, 1) := by decide +kernel
theorem dX5_strike_34 : decode cX5_strike 34 = .ok (.invokevirtual 102, 3) := by decide +kernel
theorem dX5_strike_37 : decode cX5_strike 37 = .ok (.ifCond .eq 5, 3) := by decide +kernel
theorem dX5_strike_40 : decode cX5_strike 40 = .ok (.iconst (-1), 1) := by decide +kernel
theorem dX5_strike_41 : decode cX5_strike 41 = .ok (.ireturn, 1) := by decide +kernel
theorem dX5_strike_42 : decode cX5_strike 42 = .ok (.aload_n 0, 1) := by decide +kernel
theorem dX5_strike_43 : decode cX5_strike 43 = .ok (.getfield 7, 3) := by decide +kernel
theorem dX5_strike_46 : decode cX5_strike 46 = .ok (.iconst 5, 1) := by decide +kernel
theorem dX5_strike_47 : decode cX5_strike 47 = .ok (.iload_n 1, 1) := by decide +kernel
theorem dX5_strike_48 : decode cX5_strike 48 = .ok (.imul, 1) := by decide +kernel
theorem dX5_strike_49 : decode cX5_strike 49 = .ok (.iload_n 2, 1) := by decide +kernel
theorem dX5_strike_50 : decode cX5_strike 50 = .ok (.iadd, 1) := by decide +kernel
theorem dX5_strike_51 : decode cX5_strike 51 = .ok (.iaload, 1) := by decide +kernel
theorem dX5_strike_52 : decode cX5_strike 52 = .ok (.istore 4, 2) := by decide +kernel
theorem dX5_strike_54 : decode cX5_strike 54 = .ok (.aload_n 0, 1) := by decide +kernel
theorem dX5_strike_55 : decode cX5_strike 55 = .ok (.getfield 7, 3) := by decide +kernel
theorem dX5_strike_58 : decode cX5_strike 58 = .ok (.iconst 5, 1) := by decide +kernel
theorem dX5_strike_59 : decode cX5_strike 59 = .ok (.iload_n 1, 1) := by decide +kernel
theorem dX5_strike_60 : decode cX5_strike 60 = .ok (.imul, 1) := by decide +kernel
theorem dX5_strike_61 : decode cX5_strike 61 = .ok (.iload_n 2, 1) := by decide +kernel
theorem dX5_strike_62 : decode cX5_strike 62 = .ok (.iadd, 1) := by decide +kernel
theorem dX5_strike_63 : decode cX5_strike 63 = .ok (.iconst 0, 1) := by decide +kernel
theorem dX5_strike_64 : decode cX5_strike 64 = .ok (.iastore, 1) := by decide +kernel
theorem dX5_strike_65 : decode cX5_strike 65 = .ok (.aload_n 0, 1) := by decide +kernel
theorem dX5_strike_66 : decode cX5_strike 66 = .ok (.invokevirtual 106, 3) := by decide +kernel
theorem dX5_strike_69 : decode cX5_strike 69 = .ok (.iload 4, 2) := by decide +kernel
theorem dX5_strike_71 : decode cX5_strike 71 = .ok (.ireturn, 1) := by decide +kernel
theorem dX5_fade_0 : decode cX5_fade 0 = .ok (.aload_n 0, 1) := by decide +kernel
theorem dX5_fade_1 : decode cX5_fade 1 = .ok (.iconst 0, 1) := by decide +kernel
theorem dX5_fade_2 : decode cX5_fade 2 = .ok (.invokevirtual 102, 3) := by decide +kernel
theorem dX5_fade_5 : decode cX5_fade 5 = .ok (.pop, 1) := by decide +kernel
theorem dX5_fade_6 : decode cX5_fade 6 = .ok (.iconst 0, 1) := by decide +kernel
theorem dX5_fade_7 : decode cX5_fade 7 = .ok (.istore_n 1, 1) := by decide +kernel
theorem dX5_fade_8 : decode cX5_fade 8 = .ok (.iconst 0, 1) := by decide +kernel
theorem dX5_fade_9 : decode cX5_fade 9 = .ok (.istore_n 2, 1) := by decide +kernel
theorem dX5_fade_10 : decode cX5_fade 10 = .ok (.iload_n 2, 1) := by decide +kernel
theorem dX5_fade_11 : decode cX5_fade 11 = .ok (.bipush 20, 2) := by decide +kernel
theorem dX5_fade_13 : decode cX5_fade 13 = .ok (.if_icmp .ge 36, 3) := by decide +kernel
theorem dX5_fade_16 : decode cX5_fade 16 = .ok (.aload_n 0, 1) := by decide +kernel
theorem dX5_fade_17 : decode cX5_fade 17 = .ok (.getfield 7, 3) := by decide +kernel
theorem dX5_fade_20 : decode cX5_fade 20 = .ok (.iload_n 2, 1) := by decide +kernel
theorem dX5_fade_21 : decode cX5_fade 21 = .ok (.dup2, 1) := by decide +kernel
theorem dX5_fade_22 : decode cX5_fade 22 = .ok (.iaload, 1) := by decide +kernel
theorem dX5_fade_23 : decode cX5_fade 23 = .ok (.iconst 2, 1) := by decide +kernel
theorem dX5_fade_24 : decode cX5_fade 24 = .ok (.idiv, 1) := by decide +kernel
theorem dX5_fade_25 : decode cX5_fade 25 = .ok (.iastore, 1) := by decide +kernel
theorem dX5_fade_26 : decode cX5_fade 26 = .ok (.iload_n 1, 1) := by decide +kernel
theorem dX5_fade_27 : decode cX5_fade 27 = .ok (.aload_n 0, 1) := by decide +kernel
theorem dX5_fade_28 : decode cX5_fade 28 = .ok (.getfield 7, 3) := by decide +kernel
theorem dX5_fade_31 : decode cX5_fade 31 = .ok (.iload_n 2, 1) := by decide +kernel
theorem dX5_fade_32 : decode cX5_fade 32 = .ok (.iaload, 1) := by decide +kernel
theorem dX5_fade_33 : decode cX5_fade 33 = .ok (.ifCond .le 7, 3) := by decide +kernel
theorem dX5_fade_36 : decode cX5_fade 36 = .ok (.iconst 1, 1) := by decide +kernel
theorem dX5_fade_37 : decode cX5_fade 37 = .ok (.goto 4, 3) := by decide +kernel
theorem dX5_fade_40 : decode cX5_fade 40 = .ok (.iconst 0, 1) := by decide +kernel
theorem dX5_fade_41 : decode cX5_fade 41 = .ok (.iadd, 1) := by decide +kernel
theorem dX5_fade_42 : decode cX5_fade 42 = .ok (.istore_n 1, 1) := by decide +kernel
theorem dX5_fade_43 : decode cX5_fade 43 = .ok (.iinc 2 1, 3) := by decide +kernel
theorem dX5_fade_46 : decode cX5_fade 46 = .ok (.goto (-36), 3) := by decide +kernel
theorem dX5_fade_49 : decode cX5_fade 49 = .ok (.aload_n 0, 1) := by decide +kernel
theorem dX5_fade_50 : decode cX5_fade 50 = .ok (.invokevirtual 106, 3) := by decide +kernel
theorem dX5_fade_53 : decode cX5_fade 53 = .ok (.iload_n 1, 1) := by decide +kernel
theorem dX5_fade_54 : decode cX5_fade 54 = .ok (.ireturn, 1) := by decide +kernel
theorem dX5_bar_0 : decode cX5_bar 0 = .ok (.aload_n 0, 1) := by decide +kernel
theorem dX5_bar_1 : decode cX5_bar 1 = .ok (.iload_n 1, 1) := by decide +kernel
theorem dX5_bar_2 : decode cX5_bar 2 = .ok (.iconst 0, 1) := by decide +kernel
theorem dX5_bar_3 : decode cX5_bar 3 = .ok (.iconst 4, 1) := by decide +kernel
theorem dX5_bar_4 : decode cX5_bar 4 = .ok (.invokevirtual 94, 3) := by decide +kernel
theorem dX5_bar_7 : decode cX5_bar 7 = .ok (.istore_n 3, 1) := by decide +kernel
theorem dX5_bar_8 : decode cX5_bar 8 = .ok (.aload_n 0, 1) := by decide +kernel
theorem dX5_bar_9 : decode cX5_bar 9 = .ok (.iload_n 3, 1) := by decide +kernel
theorem dX5_bar_10 : decode cX5_bar 10 = .ok (.ifCond .ne 7, 3) := by decide +kernel
theorem dX5_bar_13 : decode cX5_bar 13 = .ok (.iconst 1, 1) := by decide +kernel
theorem dX5_bar_14 : decode cX5_bar 14 = .ok (.goto 18, 3) := by decide +kernel
theorem dX5_bar_17 : decode cX5_bar 17 = .ok (.aload_n 0, 1) := by decide +kernel
theorem dX5_bar_18 : decode cX5_bar 18 = .ok (.iload_n 2, 1) := by decide +kernel
theorem dX5_bar_19 : decode cX5_bar 19 = .ok (.iconst 0, 1) := by decide +kernel
theorem dX5_bar_20 : decode cX5_bar 20 = .ok (.iconst 2, 1) := by decide +kernel
theorem dX5_bar_21 : decode cX5_bar 21 = .ok (.invokevirtual 94, 3) := by decide +kernel
theorem dX5_bar_24 : decode cX5_bar 24 = .ok (.ifCond .eq 7, 3) := by decide +kernel
theorem dX5_bar_27 : decode cX5_bar 27 = .ok (.iconst 0, 1) := by decide +kernel
theorem dX5_bar_28 : decode cX5_bar 28 = .ok (.goto 4, 3) := by decide +kernel
theorem dX5_bar_31 : decode cX5_bar 31 = .ok (.iconst 2, 1) := by decide +kernel
theorem dX5_bar_32 : decode cX5_bar 32 = .ok (.invokevirtual 102, 3) := by decide +kernel
theorem dX5_bar_35 : decode cX5_bar 35 = .ok (.ifCond .eq 5, 3) := by decide +kernel
theorem dX5_bar_38 : decode cX5_bar 38 = .ok (.iconst (-1), 1) := by decide +kernel
theorem dX5_bar_39 : decode cX5_bar 39 = .ok (.ireturn, 1) := by decide +kernel
theorem dX5_bar_40 : decode cX5_bar 40 = .ok (.aload_n 0, 1) := by decide +kernel
theorem dX5_bar_41 : decode cX5_bar 41 = .ok (.getfield 13, 3) := by decide +kernel
theorem dX5_bar_44 : decode cX5_bar 44 = .ok (.iload_n 1, 1) := by decide +kernel
theorem dX5_bar_45 : decode cX5_bar 45 = .ok (.iaload, 1) := by decide +kernel
theorem dX5_bar_46 : decode cX5_bar 46 = .ok (.istore 4, 2) := by decide +kernel
theorem dX5_bar_48 : decode cX5_bar 48 = .ok (.aload_n 0, 1) := by decide +kernel
theorem dX5_bar_49 : decode cX5_bar 49 = .ok (.getfield 13, 3) := by decide +kernel
theorem dX5_bar_52 : decode cX5_bar 52 = .ok (.iload_n 1, 1) := by decide +kernel
theorem dX5_bar_53 : decode cX5_bar 53 = .ok (.iload_n 2, 1) := by decide +kernel
theorem dX5_bar_54 : decode cX5_bar 54 = .ok (.iastore, 1) := by decide +kernel
theorem dX5_bar_55 : decode cX5_bar 55 = .ok (.aload_n 0, 1) := by decide +kernel
theorem dX5_bar_56 : decode cX5_bar 56 = .ok (.invokevirtual 106, 3) := by decide +kernel
theorem dX5_bar_59 : decode cX5_bar 59 = .ok (.iload 4, 2) := by decide +kernel
theorem dX5_bar_61 : decode cX5_bar 61 = .ok (.ireturn, 1) := by decide +kernel
theorem dX5_walk_0 : decode cX5_walk 0 = .ok (.aload_n 0, 1) := by decide +kernel
theorem dX5_walk_1 : decode cX5_walk 1 = .ok (.aload_n 0, 1) := by decide +kernel
theorem dX5_walk_2 : decode cX5_walk 2 = .ok (.iload_n 1, 1) := by decide +kernel
theorem dX5_walk_3 : decode cX5_walk 3 = .ok (.bipush 50, 2) := by decide +kernel
theorem dX5_walk_5 : decode cX5_walk 5 = .ok (.bipush 90, 2) := by decide +kernel
theorem dX5_walk_7 : decode cX5_walk 7 = .ok (.invokevirtual 94, 3) := by decide +kernel
theorem dX5_walk_10 : decode cX5_walk 10 = .ok (.ifCond .eq 19, 3) := by decide +kernel
theorem dX5_walk_13 : decode cX5_walk 13 = .ok (.aload_n 0, 1) := by decide +kernel
theorem dX5_walk_14 : decode cX5_walk 14 = .ok (.iload_n 2, 1) := by decide +kernel
theorem dX5_walk_15 : decode cX5_walk 15 = .ok (.bipush 100, 2) := by decide +kernel
theorem dX5_walk_17 : decode cX5_walk 17 = .ok (.ldc 109, 2) := by decide +kernel
theorem dX5_walk_19 : decode cX5_walk 19 = .ok (.invokevirtual 94, 3) := by decide +kernel
theorem dX5_walk_22 : decode cX5_walk 22 = .ok (.ifCond .eq 7, 3) := by decide +kernel
theorem dX5_walk_25 : decode cX5_walk 25 = .ok (.iconst 0, 1) := by decide +kernel
theorem dX5_walk_26 : decode cX5_walk 26 = .ok (.goto 4, 3) := by decide +kernel
theorem dX5_walk_29 : decode cX5_walk 29 = .ok (.iconst 1, 1) := by decide +kernel
theorem dX5_walk_30 : decode cX5_walk 30 = .ok (.invokevirtual 102, 3) := by decide +kernel
theorem dX5_walk_33 : decode cX5_walk 33 = .ok (.ifCond .ne 17, 3) := by decide +kernel
theorem dX5_walk_36 : decode cX5_walk 36 = .ok (.aload_n 0, 1) := by decide +kernel
theorem dX5_walk_37 : decode cX5_walk 37 = .ok (.iload_n 1, 1) := by decide +kernel
theorem dX5_walk_38 : decode cX5_walk 38 = .ok (.putfield 16, 3) := by decide +kernel
theorem dX5_walk_41 : decode cX5_walk 41 = .ok (.aload_n 0, 1) := by decide +kernel
theorem dX5_walk_42 : decode cX5_walk 42 = .ok (.iload_n 2, 1) := by decide +kernel
theorem dX5_walk_43 : decode cX5_walk 43 = .ok (.putfield 20, 3) := by decide +kernel
theorem dX5_walk_46 : decode cX5_walk 46 = .ok (.aload_n 0, 1) := by decide +kernel
theorem dX5_walk_47 : decode cX5_walk 47 = .ok (.invokevirtual 52, 3) := by decide +kernel
theorem dX5_walk_50 : decode cX5_walk 50 = .ok (.return_, 1) := by decide +kernel
theorem dX5_isNode_0 : decode cX5_isNode 0 = .ok (.aload_n 0, 1) := by decide +kernel
theorem dX5_isNode_1 : decode cX5_isNode 1 = .ok (.iload_n 1, 1) := by decide +kernel
theorem dX5_isNode_2 : decode cX5_isNode 2 = .ok (.iconst 0, 1) := by decide +kernel
theorem dX5_isNode_3 : decode cX5_isNode 3 = .ok (.iconst 3, 1) := by decide +kernel
theorem dX5_isNode_4 : decode cX5_isNode 4 = .ok (.invokevirtual 94, 3) := by decide +kernel
theorem dX5_isNode_7 : decode cX5_isNode 7 = .ok (.ifCond .eq 18, 3) := by decide +kernel
theorem dX5_isNode_10 : decode cX5_isNode 10 = .ok (.aload_n 0, 1) := by decide +kernel
theorem dX5_isNode_11 : decode cX5_isNode 11 = .ok (.iload_n 2, 1) := by decide +kernel
theorem dX5_isNode_12 : decode cX5_isNode 12 = .ok (.iconst 0, 1) := by decide +kernel
theorem dX5_isNode_13 : decode cX5_isNode 13 = .ok (.bipush 8, 2) := by decide +kernel
theorem dX5_isNode_15 : decode cX5_isNode 15 = .ok (.invokevirtual 94, 3) := by decide +kernel
theorem dX5_isNode_18 : decode cX5_isNode 18 = .ok (.ifCond .eq 7, 3) := by decide +kernel
theorem dX5_isNode_21 : decode cX5_isNode 21 = .ok (.iconst 1, 1) := by decide +kernel
theorem dX5_isNode_22 : decode cX5_isNode 22 = .ok (.goto 4, 3) := by decide +kernel
theorem dX5_isNode_25 : decode cX5_isNode 25 = .ok (.iconst 0, 1) := by decide +kernel
theorem dX5_isNode_26 : decode cX5_isNode 26 = .ok (.ireturn, 1) := by decide +kernel
theorem dX5_landed_0 : decode cX5_landed 0 = .ok (.aload_n 0, 1) := by decide +kernel
theorem dX5_landed_1 : decode cX5_landed 1 = .ok (.aload_n 0, 1) := by decide +kernel
theorem dX5_landed_2 : decode cX5_landed 2 = .ok (.iload_n 1, 1) := by decide +kernel
theorem dX5_landed_3 : decode cX5_landed 3 = .ok (.iload_n 2, 1) := by decide +kernel
theorem dX5_landed_4 : decode cX5_landed 4 = .ok (.invokevirtual 110, 3) := by decide +kernel
theorem dX5_landed_7 : decode cX5_landed 7 = .ok (.ifCond .eq 7, 3) := by decide +kernel
theorem dX5_landed_10 : decode cX5_landed 10 = .ok (.iconst 0, 1) := by decide +kernel
theorem dX5_landed_11 : decode cX5_landed 11 = .ok (.goto 4, 3) := by decide +kernel
theorem dX5_landed_14 : decode cX5_landed 14 = .ok (.iconst 1, 1) := by decide +kernel
theorem dX5_landed_15 : decode cX5_landed 15 = .ok (.invokevirtual 102, 3) := by decide +kernel
theorem dX5_landed_18 : decode cX5_landed 18 = .ok (.ifCond .eq 7, 3) := by decide +kernel
theorem dX5_landed_21 : decode cX5_landed 21 = .ok (.iconst (-1), 1) := by decide +kernel
theorem dX5_landed_22 : decode cX5_landed 22 = .ok (.goto 15, 3) := by decide +kernel
theorem dX5_landed_25 : decode cX5_landed 25 = .ok (.aload_n 0, 1) := by decide +kernel
theorem dX5_landed_26 : decode cX5_landed 26 = .ok (.getfield 27, 3) := by decide +kernel
theorem dX5_landed_29 : decode cX5_landed 29 = .ok (.bipush 9, 2) := by decide +kernel
theorem dX5_landed_31 : decode cX5_landed 31 = .ok (.iload_n 1, 1) := by decide +kernel
theorem dX5_landed_32 : decode cX5_landed 32 = .ok (.imul, 1) := by decide +kernel
theorem dX5_landed_33 : decode cX5_landed 33 = .ok (.iload_n 2, 1) := by decide +kernel
theorem dX5_landed_34 : decode cX5_landed 34 = .ok (.iadd, 1) := by decide +kernel
theorem dX5_landed_35 : decode cX5_landed 35 = .ok (.laload, 1) := by decide +kernel
theorem dX5_landed_36 : decode cX5_landed 36 = .ok (.l2i, 1) := by decide +kernel
theorem dX5_landed_37 : decode cX5_landed 37 = .ok (.ireturn, 1) := by decide +kernel
theorem dX5_rest_0 : decode cX5_rest 0 = .ok (.aload_n 0, 1) := by decide +kernel
theorem dX5_rest_1 : decode cX5_rest 1 = .ok (.aload_n 0, 1) := by decide +kernel
theorem dX5_rest_2 : decode cX5_rest 2 = .ok (.iload_n 1, 1) := by decide +kernel
theorem dX5_rest_3 : decode cX5_rest 3 = .ok (.iload_n 2, 1) := by decide +kernel
theorem dX5_rest_4 : decode cX5_rest 4 = .ok (.invokevirtual 110, 3) := by decide +kernel
theorem dX5_rest_7 : decode cX5_rest 7 = .ok (.ifCond .eq 7, 3) := by decide +kernel
theorem dX5_rest_10 : decode cX5_rest 10 = .ok (.iconst 0, 1) := by decide +kernel
theorem dX5_rest_11 : decode cX5_rest 11 = .ok (.goto 4, 3) := by decide +kernel
theorem dX5_rest_14 : decode cX5_rest 14 = .ok (.iconst 1, 1) := by decide +kernel
theorem dX5_rest_15 : decode cX5_rest 15 = .ok (.invokevirtual 102, 3) := by decide +kernel
theorem dX5_rest_18 : decode cX5_rest 18 = .ok (.ifCond .eq 7, 3) := by decide +kernel
theorem dX5_rest_21 : decode cX5_rest 21 = .ok (.iconst (-1), 1) := by decide +kernel
theorem dX5_rest_22 : decode cX5_rest 22 = .ok (.goto 15, 3) := by decide +kernel
theorem dX5_rest_25 : decode cX5_rest 25 = .ok (.aload_n 0, 1) := by decide +kernel
theorem dX5_rest_26 : decode cX5_rest 26 = .ok (.getfield 23, 3) := by decide +kernel
theorem dX5_rest_29 : decode cX5_rest 29 = .ok (.bipush 9, 2) := by decide +kernel
theorem dX5_rest_31 : decode cX5_rest 31 = .ok (.iload_n 1, 1) := by decide +kernel
theorem dX5_rest_32 : decode cX5_rest 32 = .ok (.imul, 1) := by decide +kernel
theorem dX5_rest_33 : decode cX5_rest 33 = .ok (.iload_n 2, 1) := by decide +kernel
theorem dX5_rest_34 : decode cX5_rest 34 = .ok (.iadd, 1) := by decide +kernel
theorem dX5_rest_35 : decode cX5_rest 35 = .ok (.laload, 1) := by decide +kernel
theorem dX5_rest_36 : decode cX5_rest 36 = .ok (.l2i, 1) := by decide +kernel
theorem dX5_rest_37 : decode cX5_rest 37 = .ok (.ireturn, 1) := by decide +kernel
theorem dX5_sent_0 : decode cX5_sent 0 = .ok (.aload_n 0, 1) := by decide +kernel
theorem dX5_sent_1 : decode cX5_sent 1 = .ok (.aload_n 0, 1) := by decide +kernel
theorem dX5_sent_2 : decode cX5_sent 2 = .ok (.iload_n 1, 1) := by decide +kernel
theorem dX5_sent_3 : decode cX5_sent 3 = .ok (.iload_n 2, 1) := by decide +kernel
theorem dX5_sent_4 : decode cX5_sent 4 = .ok (.invokevirtual 110, 3) := by decide +kernel
theorem dX5_sent_7 : decode cX5_sent 7 = .ok (.ifCond .eq 18, 3) := by decide +kernel
theorem dX5_sent_10 : decode cX5_sent 10 = .ok (.aload_n 0, 1) := by decide +kernel
theorem dX5_sent_11 : decode cX5_sent 11 = .ok (.iload_n 3, 1) := by decide +kernel
theorem dX5_sent_12 : decode cX5_sent 12 = .ok (.iconst 0, 1) := by decide +kernel
theorem dX5_sent_13 : decode cX5_sent 13 = .ok (.bipush 8, 2) := by decide +kernel
theorem dX5_sent_15 : decode cX5_sent 15 = .ok (.invokevirtual 94, 3) := by decide +kernel
theorem dX5_sent_18 : decode cX5_sent 18 = .ok (.ifCond .eq 7, 3) := by decide +kernel
theorem dX5_sent_21 : decode cX5_sent 21 = .ok (.iconst 0, 1) := by decide +kernel
theorem dX5_sent_22 : decode cX5_sent 22 = .ok (.goto 4, 3) := by decide +kernel
theorem dX5_sent_25 : decode cX5_sent 25 = .ok (.iconst 1, 1) := by decide +kernel
theorem dX5_sent_26 : decode cX5_sent 26 = .ok (.invokevirtual 102, 3) := by decide +kernel
theorem dX5_sent_29 : decode cX5_sent 29 = .ok (.ifCond .eq 7, 3) := by decide +kernel
theorem dX5_sent_32 : decode cX5_sent 32 = .ok (.iconst (-1), 1) := by decide +kernel
theorem dX5_sent_33 : decode cX5_sent 33 = .ok (.goto 20, 3) := by decide +kernel
theorem dX5_sent_36 : decode cX5_sent 36 = .ok (.aload_n 0, 1) := by decide +kernel
theorem dX5_sent_37 : decode cX5_sent 37 = .ok (.getfield 30, 3) := by decide +kernel
theorem dX5_sent_40 : decode cX5_sent 40 = .ok (.bipush 81, 2) := by decide +kernel
theorem dX5_sent_42 : decode cX5_sent 42 = .ok (.iload_n 1, 1) := by decide +kernel
theorem dX5_sent_43 : decode cX5_sent 43 = .ok (.imul, 1) := by decide +kernel
theorem dX5_sent_44 : decode cX5_sent 44 = .ok (.bipush 9, 2) := by decide +kernel
theorem dX5_sent_46 : decode cX5_sent 46 = .ok (.iload_n 2, 1) := by decide +kernel
theorem dX5_sent_47 : decode cX5_sent 47 = .ok (.imul, 1) := by decide +kernel
theorem dX5_sent_48 : decode cX5_sent 48 = .ok (.iadd, 1) := by decide +kernel
theorem dX5_sent_49 : decode cX5_sent 49 = .ok (.iload_n 3, 1) := by decide +kernel
theorem dX5_sent_50 : decode cX5_sent 50 = .ok (.iadd, 1) := by decide +kernel
theorem dX5_sent_51 : decode cX5_sent 51 = .ok (.laload, 1) := by decide +kernel
theorem dX5_sent_52 : decode cX5_sent 52 = .ok (.l2i, 1) := by decide +kernel
theorem dX5_sent_53 : decode cX5_sent 53 = .ok (.ireturn, 1) := by decide +kernel
theorem dX5_pushes_0 : decode cX5_pushes 0 = .ok (.aload_n 0, 1) := by decide +kernel
theorem dX5_pushes_1 : decode cX5_pushes 1 = .ok (.iconst 0, 1) := by decide +kernel
theorem dX5_pushes_2 : decode cX5_pushes 2 = .ok (.invokevirtual 102, 3) := by decide +kernel
theorem dX5_pushes_5 : decode cX5_pushes 5 = .ok (.pop, 1) := by decide +kernel
theorem dX5_pushes_6 : decode cX5_pushes 6 = .ok (.aload_n 0, 1) := by decide +kernel
theorem dX5_pushes_7 : decode cX5_pushes 7 = .ok (.getfield 79, 3) := by decide +kernel
theorem dX5_pushes_10 : decode cX5_pushes 10 = .ok (.ireturn, 1) := by decide +kernel
theorem dX5_isListed_0 : decode cX5_isListed 0 = .ok (.aload_n 0, 1) := by decide +kernel
theorem dX5_isListed_1 : decode cX5_isListed 1 = .ok (.getfield 13, 3) := by decide +kernel
theorem dX5_isListed_4 : decode cX5_isListed 4 = .ok (.iload_n 2, 1) := by decide +kernel
theorem dX5_isListed_5 : decode cX5_isListed 5 = .ok (.iaload, 1) := by decide +kernel
theorem dX5_isListed_6 : decode cX5_isListed 6 = .ok (.ifCond .ne 20, 3) := by decide +kernel
theorem dX5_isListed_9 : decode cX5_isListed 9 = .ok (.aload_n 0, 1) := by decide +kernel
theorem dX5_isListed_10 : decode cX5_isListed 10 = .ok (.getfield 7, 3) := by decide +kernel
theorem dX5_isListed_13 : decode cX5_isListed 13 = .ok (.iconst 5, 1) := by decide +kernel
theorem dX5_isListed_14 : decode cX5_isListed 14 = .ok (.iload_n 1, 1) := by decide +kernel
theorem dX5_isListed_15 : decode cX5_isListed 15 = .ok (.imul, 1) := by decide +kernel
theorem dX5_isListed_16 : decode cX5_isListed 16 = .ok (.iload_n 2, 1) := by decide +kernel
theorem dX5_isListed_17 : decode cX5_isListed 17 = .ok (.iadd, 1) := by decide +kernel
theorem dX5_isListed_18 : decode cX5_isListed 18 = .ok (.iaload, 1) := by decide +kernel
theorem dX5_isListed_19 : decode cX5_isListed 19 = .ok (.ifCond .ne 7, 3) := by decide +kernel
theorem dX5_isListed_22 : decode cX5_isListed 22 = .ok (.iconst 1, 1) := by decide +kernel
theorem dX5_isListed_23 : decode cX5_isListed 23 = .ok (.goto 4, 3) := by decide +kernel
theorem dX5_isListed_26 : decode cX5_isListed 26 = .ok (.iconst 0, 1) := by decide +kernel
theorem dX5_isListed_27 : decode cX5_isListed 27 = .ok (.ireturn, 1) := by decide +kernel
theorem dX5_ahead_0 : decode cX5_ahead 0 = .ok (.iconst 0, 1) := by decide +kernel
theorem dX5_ahead_1 : decode cX5_ahead 1 = .ok (.istore_n 3, 1) := by decide +kernel
theorem dX5_ahead_2 : decode cX5_ahead 2 = .ok (.iconst 0, 1) := by decide +kernel
theorem dX5_ahead_3 : decode cX5_ahead 3 = .ok (.istore 4, 2) := by decide +kernel
