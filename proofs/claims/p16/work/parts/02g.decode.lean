theorem dJ7_copyOfRange_39247_13 : decode cJ7_copyOfRange_39247 13 = .ok (.invokestatic 339, 3) := by decide +kernel
theorem dJ7_copyOfRange_39247_16 : decode cJ7_copyOfRange_39247 16 = .ok (.areturn, 1) := by decide +kernel
theorem dJ7_copyOfRange_39247_17 : decode cJ7_copyOfRange_39247 17 = .ok (.aload_n 0, 1) := by decide +kernel
theorem dJ7_copyOfRange_39247_18 : decode cJ7_copyOfRange_39247 18 = .ok (.invokevirtual 310, 3) := by decide +kernel
theorem dJ7_copyOfRange_39247_21 : decode cJ7_copyOfRange_39247 21 = .ok (.checkcast 311, 3) := by decide +kernel
theorem dJ7_copyOfRange_39247_24 : decode cJ7_copyOfRange_39247 24 = .ok (.areturn, 1) := by decide +kernel
theorem dJ7_copyOfRangeByte_39247_0 : decode cJ7_copyOfRangeByte_39247 0 = .ok (.iload_n 1, 1) := by decide +kernel
theorem dJ7_copyOfRangeByte_39247_1 : decode cJ7_copyOfRangeByte_39247 1 = .ok (.iload_n 2, 1) := by decide +kernel
theorem dJ7_copyOfRangeByte_39247_2 : decode cJ7_copyOfRangeByte_39247 2 = .ok (.invokestatic 343, 3) := by decide +kernel
theorem dJ7_copyOfRangeByte_39247_5 : decode cJ7_copyOfRangeByte_39247 5 = .ok (.iload_n 2, 1) := by decide +kernel
theorem dJ7_copyOfRangeByte_39247_6 : decode cJ7_copyOfRangeByte_39247 6 = .ok (.iload_n 1, 1) := by decide +kernel
theorem dJ7_copyOfRangeByte_39247_7 : decode cJ7_copyOfRangeByte_39247 7 = .ok (.isub, 1) := by decide +kernel
theorem dJ7_copyOfRangeByte_39247_8 : decode cJ7_copyOfRangeByte_39247 8 = .ok (.istore_n 3, 1) := by decide +kernel
theorem dJ7_copyOfRangeByte_39247_9 : decode cJ7_copyOfRangeByte_39247 9 = .ok (.iload_n 3, 1) := by decide +kernel
theorem dJ7_copyOfRangeByte_39247_10 : decode cJ7_copyOfRangeByte_39247 10 = .ok (.newarray .byte, 2) := by decide +kernel
theorem dJ7_copyOfRangeByte_39247_12 : decode cJ7_copyOfRangeByte_39247 12 = .ok (.astore 4, 2) := by decide +kernel
theorem dJ7_copyOfRangeByte_39247_14 : decode cJ7_copyOfRangeByte_39247 14 = .ok (.aload_n 0, 1) := by decide +kernel
theorem dJ7_copyOfRangeByte_39247_15 : decode cJ7_copyOfRangeByte_39247 15 = .ok (.iload_n 1, 1) := by decide +kernel
theorem dJ7_copyOfRangeByte_39247_16 : decode cJ7_copyOfRangeByte_39247 16 = .ok (.aload 4, 2) := by decide +kernel
theorem dJ7_copyOfRangeByte_39247_18 : decode cJ7_copyOfRangeByte_39247 18 = .ok (.iconst 0, 1) := by decide +kernel
theorem dJ7_copyOfRangeByte_39247_19 : decode cJ7_copyOfRangeByte_39247 19 = .ok (.aload_n 0, 1) := by decide +kernel
theorem dJ7_copyOfRangeByte_39247_20 : decode cJ7_copyOfRangeByte_39247 20 = .ok (.arraylength, 1) := by decide +kernel
theorem dJ7_copyOfRangeByte_39247_21 : decode cJ7_copyOfRangeByte_39247 21 = .ok (.iload_n 1, 1) := by decide +kernel
theorem dJ7_copyOfRangeByte_39247_22 : decode cJ7_copyOfRangeByte_39247 22 = .ok (.isub, 1) := by decide +kernel
theorem dJ7_copyOfRangeByte_39247_23 : decode cJ7_copyOfRangeByte_39247 23 = .ok (.iload_n 3, 1) := by decide +kernel
theorem dJ7_copyOfRangeByte_39247_24 : decode cJ7_copyOfRangeByte_39247 24 = .ok (.invokestatic 304, 3) := by decide +kernel
theorem dJ7_copyOfRangeByte_39247_27 : decode cJ7_copyOfRangeByte_39247 27 = .ok (.invokestatic 150, 3) := by decide +kernel
theorem dJ7_copyOfRangeByte_39247_30 : decode cJ7_copyOfRangeByte_39247 30 = .ok (.aload 4, 2) := by decide +kernel
theorem dJ7_copyOfRangeByte_39247_32 : decode cJ7_copyOfRangeByte_39247 32 = .ok (.areturn, 1) := by decide +kernel
theorem dJ8_newLength_cabcc_0 : decode cJ8_newLength_cabcc 0 = .ok (.iload_n 0, 1) := by decide +kernel
theorem dJ8_newLength_cabcc_1 : decode cJ8_newLength_cabcc 1 = .ok (.iload_n 1, 1) := by decide +kernel
theorem dJ8_newLength_cabcc_2 : decode cJ8_newLength_cabcc 2 = .ok (.iload_n 2, 1) := by decide +kernel
theorem dJ8_newLength_cabcc_3 : decode cJ8_newLength_cabcc 3 = .ok (.invokestatic 194, 3) := by decide +kernel
theorem dJ8_newLength_cabcc_6 : decode cJ8_newLength_cabcc 6 = .ok (.iadd, 1) := by decide +kernel
theorem dJ8_newLength_cabcc_7 : decode cJ8_newLength_cabcc 7 = .ok (.istore_n 3, 1) := by decide +kernel
theorem dJ8_newLength_cabcc_8 : decode cJ8_newLength_cabcc 8 = .ok (.iconst 0, 1) := by decide +kernel
theorem dJ8_newLength_cabcc_9 : decode cJ8_newLength_cabcc 9 = .ok (.iload_n 3, 1) := by decide +kernel
theorem dJ8_newLength_cabcc_10 : decode cJ8_newLength_cabcc 10 = .ok (.if_icmp .ge 11, 3) := by decide +kernel
theorem dJ8_newLength_cabcc_13 : decode cJ8_newLength_cabcc 13 = .ok (.iload_n 3, 1) := by decide +kernel
theorem dJ8_newLength_cabcc_14 : decode cJ8_newLength_cabcc 14 = .ok (.ldc 200, 2) := by decide +kernel
theorem dJ8_newLength_cabcc_16 : decode cJ8_newLength_cabcc 16 = .ok (.if_icmp .gt 5, 3) := by decide +kernel
theorem dJ8_newLength_cabcc_19 : decode cJ8_newLength_cabcc 19 = .ok (.iload_n 3, 1) := by decide +kernel
theorem dJ8_newLength_cabcc_20 : decode cJ8_newLength_cabcc 20 = .ok (.ireturn, 1) := by decide +kernel
theorem dJ8_newLength_cabcc_21 : decode cJ8_newLength_cabcc 21 = .ok (.iload_n 0, 1) := by decide +kernel
theorem dJ8_newLength_cabcc_22 : decode cJ8_newLength_cabcc 22 = .ok (.iload_n 1, 1) := by decide +kernel
theorem dJ8_newLength_cabcc_23 : decode cJ8_newLength_cabcc 23 = .ok (.invokestatic 201, 3) := by decide +kernel
theorem dJ8_newLength_cabcc_26 : decode cJ8_newLength_cabcc 26 = .ok (.ireturn, 1) := by decide +kernel
theorem dJ8_hugeLength_7cf53_0 : decode cJ8_hugeLength_7cf53 0 = .ok (.iload_n 0, 1) := by decide +kernel
theorem dJ8_hugeLength_7cf53_1 : decode cJ8_hugeLength_7cf53 1 = .ok (.iload_n 1, 1) := by decide +kernel
theorem dJ8_hugeLength_7cf53_2 : decode cJ8_hugeLength_7cf53 2 = .ok (.iadd, 1) := by decide +kernel
theorem dJ8_hugeLength_7cf53_3 : decode cJ8_hugeLength_7cf53 3 = .ok (.istore_n 2, 1) := by decide +kernel
theorem dJ8_hugeLength_7cf53_4 : decode cJ8_hugeLength_7cf53 4 = .ok (.iload_n 2, 1) := by decide +kernel
theorem dJ8_hugeLength_7cf53_5 : decode cJ8_hugeLength_7cf53 5 = .ok (.ifCond .ge 44, 3) := by decide +kernel
theorem dJ8_hugeLength_7cf53_8 : decode cJ8_hugeLength_7cf53 8 = .ok (.new 204, 3) := by decide +kernel
theorem dJ8_hugeLength_7cf53_11 : decode cJ8_hugeLength_7cf53 11 = .ok (.dup, 1) := by decide +kernel
theorem dJ8_hugeLength_7cf53_12 : decode cJ8_hugeLength_7cf53 12 = .ok (.new 89, 3) := by decide +kernel
theorem dJ8_hugeLength_7cf53_15 : decode cJ8_hugeLength_7cf53 15 = .ok (.dup, 1) := by decide +kernel
theorem dJ8_hugeLength_7cf53_16 : decode cJ8_hugeLength_7cf53 16 = .ok (.invokespecial 91, 3) := by decide +kernel
theorem dJ8_hugeLength_7cf53_19 : decode cJ8_hugeLength_7cf53 19 = .ok (.ldc 206, 2) := by decide +kernel
theorem dJ8_hugeLength_7cf53_21 : decode cJ8_hugeLength_7cf53 21 = .ok (.invokevirtual 94, 3) := by decide +kernel
theorem dJ8_hugeLength_7cf53_24 : decode cJ8_hugeLength_7cf53 24 = .ok (.iload_n 0, 1) := by decide +kernel
theorem dJ8_hugeLength_7cf53_25 : decode cJ8_hugeLength_7cf53 25 = .ok (.invokevirtual 98, 3) := by decide +kernel
theorem dJ8_hugeLength_7cf53_28 : decode cJ8_hugeLength_7cf53 28 = .ok (.ldc 208, 2) := by decide +kernel
theorem dJ8_hugeLength_7cf53_30 : decode cJ8_hugeLength_7cf53 30 = .ok (.invokevirtual 94, 3) := by decide +kernel
theorem dJ8_hugeLength_7cf53_33 : decode cJ8_hugeLength_7cf53 33 = .ok (.iload_n 1, 1) := by decide +kernel
theorem dJ8_hugeLength_7cf53_34 : decode cJ8_hugeLength_7cf53 34 = .ok (.invokevirtual 98, 3) := by decide +kernel
theorem dJ8_hugeLength_7cf53_37 : decode cJ8_hugeLength_7cf53 37 = .ok (.ldc 210, 2) := by decide +kernel
theorem dJ8_hugeLength_7cf53_39 : decode cJ8_hugeLength_7cf53 39 = .ok (.invokevirtual 94, 3) := by decide +kernel
theorem dJ8_hugeLength_7cf53_42 : decode cJ8_hugeLength_7cf53 42 = .ok (.invokevirtual 101, 3) := by decide +kernel
theorem dJ8_hugeLength_7cf53_45 : decode cJ8_hugeLength_7cf53 45 = .ok (.invokespecial 212, 3) := by decide +kernel
theorem dJ8_hugeLength_7cf53_48 : decode cJ8_hugeLength_7cf53 48 = .ok (.athrow, 1) := by decide +kernel
theorem dJ8_hugeLength_7cf53_49 : decode cJ8_hugeLength_7cf53 49 = .ok (.iload_n 2, 1) := by decide +kernel
theorem dJ8_hugeLength_7cf53_50 : decode cJ8_hugeLength_7cf53 50 = .ok (.ldc 200, 2) := by decide +kernel
theorem dJ8_hugeLength_7cf53_52 : decode cJ8_hugeLength_7cf53 52 = .ok (.if_icmp .gt 6, 3) := by decide +kernel
theorem dJ8_hugeLength_7cf53_55 : decode cJ8_hugeLength_7cf53 55 = .ok (.ldc 200, 2) := by decide +kernel
theorem dJ8_hugeLength_7cf53_57 : decode cJ8_hugeLength_7cf53 57 = .ok (.ireturn, 1) := by decide +kernel
theorem dJ8_hugeLength_7cf53_58 : decode cJ8_hugeLength_7cf53 58 = .ok (.iload_n 2, 1) := by decide +kernel
theorem dJ8_hugeLength_7cf53_59 : decode cJ8_hugeLength_7cf53 59 = .ok (.ireturn, 1) := by decide +kernel
theorem dJ3_checkIndex_8e157_0 : decode cJ3_checkIndex_8e157 0 = .ok (.iload_n 0, 1) := by decide +kernel
theorem dJ3_checkIndex_8e157_1 : decode cJ3_checkIndex_8e157 1 = .ok (.ifCond .lt 8, 3) := by decide +kernel
theorem dJ3_checkIndex_8e157_4 : decode cJ3_checkIndex_8e157 4 = .ok (.iload_n 0, 1) := by decide +kernel
theorem dJ3_checkIndex_8e157_5 : decode cJ3_checkIndex_8e157 5 = .ok (.iload_n 1, 1) := by decide +kernel
theorem dJ3_checkIndex_8e157_6 : decode cJ3_checkIndex_8e157 6 = .ok (.if_icmp .lt 10, 3) := by decide +kernel
theorem dJ3_checkIndex_8e157_9 : decode cJ3_checkIndex_8e157 9 = .ok (.aload_n 2, 1) := by decide +kernel
theorem dJ3_checkIndex_8e157_10 : decode cJ3_checkIndex_8e157 10 = .ok (.iload_n 0, 1) := by decide +kernel
theorem dJ3_checkIndex_8e157_11 : decode cJ3_checkIndex_8e157 11 = .ok (.iload_n 1, 1) := by decide +kernel
theorem dJ3_checkIndex_8e157_12 : decode cJ3_checkIndex_8e157 12 = .ok (.invokestatic 95, 3) := by decide +kernel
theorem dJ3_checkIndex_8e157_15 : decode cJ3_checkIndex_8e157 15 = .ok (.athrow, 1) := by decide +kernel
theorem dJ3_checkIndex_8e157_16 : decode cJ3_checkIndex_8e157 16 = .ok (.iload_n 0, 1) := by decide +kernel
theorem dJ3_checkIndex_8e157_17 : decode cJ3_checkIndex_8e157 17 = .ok (.ireturn, 1) := by decide +kernel
theorem dJ3_checkFromToIndex_8c36e_0 : decode cJ3_checkFromToIndex_8c36e 0 = .ok (.iload_n 0, 1) := by decide +kernel
theorem dJ3_checkFromToIndex_8c36e_1 : decode cJ3_checkFromToIndex_8c36e 1 = .ok (.ifCond .lt 13, 3) := by decide +kernel
theorem dJ3_checkFromToIndex_8c36e_4 : decode cJ3_checkFromToIndex_8c36e 4 = .ok (.iload_n 0, 1) := by decide +kernel
theorem dJ3_checkFromToIndex_8c36e_5 : decode cJ3_checkFromToIndex_8c36e 5 = .ok (.iload_n 1, 1) := by decide +kernel
theorem dJ3_checkFromToIndex_8c36e_6 : decode cJ3_checkFromToIndex_8c36e 6 = .ok (.if_icmp .gt 8, 3) := by decide +kernel
theorem dJ3_checkFromToIndex_8c36e_9 : decode cJ3_checkFromToIndex_8c36e 9 = .ok (.iload_n 1, 1) := by decide +kernel
theorem dJ3_checkFromToIndex_8c36e_10 : decode cJ3_checkFromToIndex_8c36e 10 = .ok (.iload_n 2, 1) := by decide +kernel
theorem dJ3_checkFromToIndex_8c36e_11 : decode cJ3_checkFromToIndex_8c36e 11 = .ok (.if_icmp .le 11, 3) := by decide +kernel
theorem dJ3_checkFromToIndex_8c36e_14 : decode cJ3_checkFromToIndex_8c36e 14 = .ok (.aload_n 3, 1) := by decide +kernel
theorem dJ3_checkFromToIndex_8c36e_15 : decode cJ3_checkFromToIndex_8c36e 15 = .ok (.iload_n 0, 1) := by decide +kernel
theorem dJ3_checkFromToIndex_8c36e_16 : decode cJ3_checkFromToIndex_8c36e 16 = .ok (.iload_n 1, 1) := by decide +kernel
theorem dJ3_checkFromToIndex_8c36e_17 : decode cJ3_checkFromToIndex_8c36e 17 = .ok (.iload_n 2, 1) := by decide +kernel
theorem dJ3_checkFromToIndex_8c36e_18 : decode cJ3_checkFromToIndex_8c36e 18 = .ok (.invokestatic 99, 3) := by decide +kernel
theorem dJ3_checkFromToIndex_8c36e_21 : decode cJ3_checkFromToIndex_8c36e 21 = .ok (.athrow, 1) := by decide +kernel
theorem dJ3_checkFromToIndex_8c36e_22 : decode cJ3_checkFromToIndex_8c36e 22 = .ok (.iload_n 0, 1) := by decide +kernel
theorem dJ3_checkFromToIndex_8c36e_23 : decode cJ3_checkFromToIndex_8c36e 23 = .ok (.ireturn, 1) := by decide +kernel
theorem dJ3_checkFromIndexSize_8c36e_0 : decode cJ3_checkFromIndexSize_8c36e 0 = .ok (.iload_n 2, 1) := by decide +kernel
theorem dJ3_checkFromIndexSize_8c36e_1 : decode cJ3_checkFromIndexSize_8c36e 1 = .ok (.iload_n 0, 1) := by decide +kernel
theorem dJ3_checkFromIndexSize_8c36e_2 : decode cJ3_checkFromIndexSize_8c36e 2 = .ok (.ior, 1) := by decide +kernel
theorem dJ3_checkFromIndexSize_8c36e_3 : decode cJ3_checkFromIndexSize_8c36e 3 = .ok (.iload_n 1, 1) := by decide +kernel
theorem dJ3_checkFromIndexSize_8c36e_4 : decode cJ3_checkFromIndexSize_8c36e 4 = .ok (.ior, 1) := by decide +kernel
theorem dJ3_checkFromIndexSize_8c36e_5 : decode cJ3_checkFromIndexSize_8c36e 5 = .ok (.ifCond .lt 10, 3) := by decide +kernel
theorem dJ3_checkFromIndexSize_8c36e_8 : decode cJ3_checkFromIndexSize_8c36e 8 = .ok (.iload_n 1, 1) := by decide +kernel
theorem dJ3_checkFromIndexSize_8c36e_9 : decode cJ3_checkFromIndexSize_8c36e 9 = .ok (.iload_n 2, 1) := by decide +kernel
theorem dJ3_checkFromIndexSize_8c36e_10 : decode cJ3_checkFromIndexSize_8c36e 10 = .ok (.iload_n 0, 1) := by decide +kernel
theorem dJ3_checkFromIndexSize_8c36e_11 : decode cJ3_checkFromIndexSize_8c36e 11 = .ok (.isub, 1) := by decide +kernel
theorem dJ3_checkFromIndexSize_8c36e_12 : decode cJ3_checkFromIndexSize_8c36e 12 = .ok (.if_icmp .le 11, 3) := by decide +kernel
theorem dJ3_checkFromIndexSize_8c36e_15 : decode cJ3_checkFromIndexSize_8c36e 15 = .ok (.aload_n 3, 1) := by decide +kernel
theorem dJ3_checkFromIndexSize_8c36e_16 : decode cJ3_checkFromIndexSize_8c36e 16 = .ok (.iload_n 0, 1) := by decide +kernel
theorem dJ3_checkFromIndexSize_8c36e_17 : decode cJ3_checkFromIndexSize_8c36e 17 = .ok (.iload_n 1, 1) := by decide +kernel
theorem dJ3_checkFromIndexSize_8c36e_18 : decode cJ3_checkFromIndexSize_8c36e 18 = .ok (.iload_n 2, 1) := by decide +kernel
theorem dJ3_checkFromIndexSize_8c36e_19 : decode cJ3_checkFromIndexSize_8c36e 19 = .ok (.invokestatic 103, 3) := by decide +kernel
theorem dJ3_checkFromIndexSize_8c36e_22 : decode cJ3_checkFromIndexSize_8c36e 22 = .ok (.athrow, 1) := by decide +kernel
theorem dJ3_checkFromIndexSize_8c36e_23 : decode cJ3_checkFromIndexSize_8c36e 23 = .ok (.iload_n 0, 1) := by decide +kernel
theorem dJ3_checkFromIndexSize_8c36e_24 : decode cJ3_checkFromIndexSize_8c36e 24 = .ok (.ireturn, 1) := by decide +kernel
theorem dL_cell_0 : decode cL_cell 0 = .ok (.iload_n 1, 1) := by decide +kernel
theorem dL_cell_1 : decode cL_cell 1 = .ok (.aload_n 0, 1) := by decide +kernel
theorem dL_cell_2 : decode cL_cell 2 = .ok (.arraylength, 1) := by decide +kernel
theorem dL_cell_3 : decode cL_cell 3 = .ok (.if_icmp .ge 9, 3) := by decide +kernel
theorem dL_cell_6 : decode cL_cell 6 = .ok (.aload_n 0, 1) := by decide +kernel
theorem dL_cell_7 : decode cL_cell 7 = .ok (.iload_n 1, 1) := by decide +kernel
theorem dL_cell_8 : decode cL_cell 8 = .ok (.iaload, 1) := by decide +kernel
theorem dL_cell_9 : decode cL_cell 9 = .ok (.goto 11, 3) := by decide +kernel
theorem dL_cell_12 : decode cL_cell 12 = .ok (.ldc 7, 2) := by decide +kernel
theorem dL_cell_14 : decode cL_cell 14 = .ok (.iload_n 1, 1) := by decide +kernel
theorem dL_cell_15 : decode cL_cell 15 = .ok (.imul, 1) := by decide +kernel
theorem dL_cell_16 : decode cL_cell 16 = .ok (.sipush 12503, 3) := by decide +kernel
theorem dL_cell_19 : decode cL_cell 19 = .ok (.iadd, 1) := by decide +kernel
theorem dL_cell_20 : decode cL_cell 20 = .ok (.ireturn, 1) := by decide +kernel
theorem dL_low_0 : decode cL_low 0 = .ok (.iload_n 0, 1) := by decide +kernel
theorem dL_low_1 : decode cL_low 1 = .ok (.ldc 8, 2) := by decide +kernel
theorem dL_low_3 : decode cL_low 3 = .ok (.iand, 1) := by decide +kernel
theorem dL_low_4 : decode cL_low 4 = .ok (.iload_n 1, 1) := by decide +kernel
theorem dL_low_5 : decode cL_low 5 = .ok (.irem, 1) := by decide +kernel
theorem dL_low_6 : decode cL_low 6 = .ok (.ireturn, 1) := by decide +kernel
theorem dL_does_0 : decode cL_does 0 = .ok (.iload_n 1, 1) := by decide +kernel
theorem dL_does_1 : decode cL_does 1 = .ok (.ifCond .ne 14, 3) := by decide +kernel
theorem dL_does_4 : decode cL_does 4 = .ok (.aload_n 0, 1) := by decide +kernel
theorem dL_does_5 : decode cL_does 5 = .ok (.iload_n 2, 1) := by decide +kernel
theorem dL_does_6 : decode cL_does 6 = .ok (.iload_n 3, 1) := by decide +kernel
theorem dL_does_7 : decode cL_does 7 = .ok (.iload 4, 2) := by decide +kernel
theorem dL_does_9 : decode cL_does 9 = .ok (.invokevirtual 9, 3) := by decide +kernel
theorem dL_does_12 : decode cL_does 12 = .ok (.goto 49, 3) := by decide +kernel
theorem dL_does_15 : decode cL_does 15 = .ok (.iload_n 1, 1) := by decide +kernel
theorem dL_does_16 : decode cL_does 16 = .ok (.iconst 1, 1) := by decide +kernel
theorem dL_does_17 : decode cL_does 17 = .ok (.if_icmp .ne 12, 3) := by decide +kernel
theorem dL_does_20 : decode cL_does 20 = .ok (.aload_n 0, 1) := by decide +kernel
theorem dL_does_21 : decode cL_does 21 = .ok (.iload_n 2, 1) := by decide +kernel
theorem dL_does_22 : decode cL_does 22 = .ok (.iload_n 3, 1) := by decide +kernel
theorem dL_does_23 : decode cL_does 23 = .ok (.invokevirtual 15, 3) := by decide +kernel
theorem dL_does_26 : decode cL_does 26 = .ok (.goto 35, 3) := by decide +kernel
theorem dL_does_29 : decode cL_does 29 = .ok (.iload_n 1, 1) := by decide +kernel
theorem dL_does_30 : decode cL_does 30 = .ok (.iconst 2, 1) := by decide +kernel
theorem dL_does_31 : decode cL_does 31 = .ok (.if_icmp .ne 12, 3) := by decide +kernel
theorem dL_does_34 : decode cL_does 34 = .ok (.aload_n 0, 1) := by decide +kernel
theorem dL_does_35 : decode cL_does 35 = .ok (.iload_n 2, 1) := by decide +kernel
theorem dL_does_36 : decode cL_does 36 = .ok (.iload_n 3, 1) := by decide +kernel
theorem dL_does_37 : decode cL_does 37 = .ok (.invokevirtual 19, 3) := by decide +kernel
theorem dL_does_40 : decode cL_does 40 = .ok (.goto 21, 3) := by decide +kernel
theorem dL_does_43 : decode cL_does 43 = .ok (.iload_n 1, 1) := by decide +kernel
theorem dL_does_44 : decode cL_does 44 = .ok (.iconst 3, 1) := by decide +kernel
theorem dL_does_45 : decode cL_does 45 = .ok (.if_icmp .ne 12, 3) := by decide +kernel
theorem dL_does_48 : decode cL_does 48 = .ok (.aload_n 0, 1) := by decide +kernel
theorem dL_does_49 : decode cL_does 49 = .ok (.iload_n 2, 1) := by decide +kernel
theorem dL_does_50 : decode cL_does 50 = .ok (.iload_n 3, 1) := by decide +kernel
theorem dL_does_51 : decode cL_does 51 = .ok (.invokevirtual 22, 3) := by decide +kernel
theorem dL_does_54 : decode cL_does 54 = .ok (.goto 7, 3) := by decide +kernel
theorem dL_does_57 : decode cL_does 57 = .ok (.aload_n 0, 1) := by decide +kernel
theorem dL_does_58 : decode cL_does 58 = .ok (.invokevirtual 25, 3) := by decide +kernel
theorem dL_does_61 : decode cL_does 61 = .ok (.ireturn, 1) := by decide +kernel
theorem dL_does_62 : decode cL_does 62 = .ok (.astore 5, 2) := by decide +kernel
theorem dL_does_64 : decode cL_does 64 = .ok (.bipush (-2), 2) := by decide +kernel
theorem dL_does_66 : decode cL_does 66 = .ok (.ireturn, 1) := by decide +kernel
theorem dL_does_67 : decode cL_does 67 = .ok (.astore 5, 2) := by decide +kernel
theorem dL_does_69 : decode cL_does 69 = .ok (.bipush (-3), 2) := by decide +kernel
theorem dL_does_71 : decode cL_does 71 = .ok (.ireturn, 1) := by decide +kernel
theorem dL_does_72 : decode cL_does 72 = .ok (.astore 5, 2) := by decide +kernel
theorem dL_does_74 : decode cL_does 74 = .ok (.bipush (-4), 2) := by decide +kernel
theorem dL_does_76 : decode cL_does 76 = .ok (.ireturn, 1) := by decide +kernel
theorem dL_walks_0 : decode cL_walks 0 = .ok (.aload_n 0, 1) := by decide +kernel
theorem dL_walks_1 : decode cL_walks 1 = .ok (.iload_n 1, 1) := by decide +kernel
theorem dL_walks_2 : decode cL_walks 2 = .ok (.iload_n 2, 1) := by decide +kernel
theorem dL_walks_3 : decode cL_walks 3 = .ok (.invokevirtual 35, 3) := by decide +kernel
theorem dL_walks_6 : decode cL_walks 6 = .ok (.iconst 0, 1) := by decide +kernel
theorem dL_walks_7 : decode cL_walks 7 = .ok (.ireturn, 1) := by decide +kernel
theorem dL_walks_8 : decode cL_walks 8 = .ok (.astore_n 3, 1) := by decide +kernel
theorem dL_walks_9 : decode cL_walks 9 = .ok (.bipush (-3), 2) := by decide +kernel
theorem dL_walks_11 : decode cL_walks 11 = .ok (.ireturn, 1) := by decide +kernel
theorem dL_tell_0 : decode cL_tell 0 = .ok (.bipush 64, 2) := by decide +kernel
theorem dL_tell_2 : decode cL_tell 2 = .ok (.newarray .int, 2) := by decide +kernel
theorem dL_tell_4 : decode cL_tell 4 = .ok (.astore_n 2, 1) := by decide +kernel
theorem dL_tell_5 : decode cL_tell 5 = .ok (.iload_n 1, 1) := by decide +kernel
theorem dL_tell_6 : decode cL_tell 6 = .ok (.iconst 4, 1) := by decide +kernel
theorem dL_tell_7 : decode cL_tell 7 = .ok (.invokestatic 39, 3) := by decide +kernel
theorem dL_tell_10 : decode cL_tell 10 = .ok (.istore_n 3, 1) := by decide +kernel
theorem dL_tell_11 : decode cL_tell 11 = .ok (.iconst 0, 1) := by decide +kernel
theorem dL_tell_12 : decode cL_tell 12 = .ok (.istore 4, 2) := by decide +kernel
theorem dL_tell_14 : decode cL_tell 14 = .ok (.iload 4, 2) := by decide +kernel
theorem dL_tell_16 : decode cL_tell 16 = .ok (.bipush 9, 2) := by decide +kernel
theorem dL_tell_18 : decode cL_tell 18 = .ok (.if_icmp .ge 49, 3) := by decide +kernel
theorem dL_tell_21 : decode cL_tell 21 = .ok (.aload_n 2, 1) := by decide +kernel
theorem dL_tell_22 : decode cL_tell 22 = .ok (.iload 4, 2) := by decide +kernel
theorem dL_tell_24 : decode cL_tell 24 = .ok (.aload_n 0, 1) := by decide +kernel
theorem dL_tell_25 : decode cL_tell 25 = .ok (.iload_n 3, 1) := by decide +kernel
theorem dL_tell_26 : decode cL_tell 26 = .ok (.iload 4, 2) := by decide +kernel
theorem dL_tell_28 : decode cL_tell 28 = .ok (.invokevirtual 44, 3) := by decide +kernel
theorem dL_tell_31 : decode cL_tell 31 = .ok (.iastore, 1) := by decide +kernel
theorem dL_tell_32 : decode cL_tell 32 = .ok (.aload_n 2, 1) := by decide +kernel
theorem dL_tell_33 : decode cL_tell 33 = .ok (.bipush 9, 2) := by decide +kernel
theorem dL_tell_35 : decode cL_tell 35 = .ok (.iload 4, 2) := by decide +kernel
theorem dL_tell_37 : decode cL_tell 37 = .ok (.iadd, 1) := by decide +kernel
theorem dL_tell_38 : decode cL_tell 38 = .ok (.aload_n 0, 1) := by decide +kernel
theorem dL_tell_39 : decode cL_tell 39 = .ok (.iload_n 3, 1) := by decide +kernel
theorem dL_tell_40 : decode cL_tell 40 = .ok (.iload 4, 2) := by decide +kernel
theorem dL_tell_42 : decode cL_tell 42 = .ok (.invokevirtual 22, 3) := by decide +kernel
theorem dL_tell_45 : decode cL_tell 45 = .ok (.iastore, 1) := by decide +kernel
theorem dL_tell_46 : decode cL_tell 46 = .ok (.aload_n 2, 1) := by decide +kernel
theorem dL_tell_47 : decode cL_tell 47 = .ok (.bipush 18, 2) := by decide +kernel
theorem dL_tell_49 : decode cL_tell 49 = .ok (.iload 4, 2) := by decide +kernel
theorem dL_tell_51 : decode cL_tell 51 = .ok (.iadd, 1) := by decide +kernel
theorem dL_tell_52 : decode cL_tell 52 = .ok (.aload_n 0, 1) := by decide +kernel
theorem dL_tell_53 : decode cL_tell 53 = .ok (.iload_n 3, 1) := by decide +kernel
theorem dL_tell_54 : decode cL_tell 54 = .ok (.iload_n 3, 1) := by decide +kernel
theorem dL_tell_55 : decode cL_tell 55 = .ok (.iload 4, 2) := by decide +kernel
theorem dL_tell_57 : decode cL_tell 57 = .ok (.invokevirtual 47, 3) := by decide +kernel
theorem dL_tell_60 : decode cL_tell 60 = .ok (.iastore, 1) := by decide +kernel
theorem dL_tell_61 : decode cL_tell 61 = .ok (.iinc 4 1, 3) := by decide +kernel
theorem dL_tell_64 : decode cL_tell 64 = .ok (.goto (-50), 3) := by decide +kernel
theorem dL_tell_67 : decode cL_tell 67 = .ok (.iconst 0, 1) := by decide +kernel
theorem dL_tell_68 : decode cL_tell 68 = .ok (.istore 4, 2) := by decide +kernel
theorem dL_tell_70 : decode cL_tell 70 = .ok (.iload 4, 2) := by decide +kernel
theorem dL_tell_72 : decode cL_tell 72 = .ok (.bipush 20, 2) := by decide +kernel
theorem dL_tell_74 : decode cL_tell 74 = .ok (.if_icmp .ge 49, 3) := by decide +kernel
theorem dL_tell_77 : decode cL_tell 77 = .ok (.aload_n 2, 1) := by decide +kernel
theorem dL_tell_78 : decode cL_tell 78 = .ok (.bipush 27, 2) := by decide +kernel
theorem dL_tell_80 : decode cL_tell 80 = .ok (.iload 4, 2) := by decide +kernel
theorem dL_tell_82 : decode cL_tell 82 = .ok (.iadd, 1) := by decide +kernel
theorem dL_tell_83 : decode cL_tell 83 = .ok (.aload_n 0, 1) := by decide +kernel
theorem dL_tell_84 : decode cL_tell 84 = .ok (.iload 4, 2) := by decide +kernel
theorem dL_tell_86 : decode cL_tell 86 = .ok (.iconst 5, 1) := by decide +kernel
theorem dL_tell_87 : decode cL_tell 87 = .ok (.idiv, 1) := by decide +kernel
theorem dL_tell_88 : decode cL_tell 88 = .ok (.iload 4, 2) := by decide +kernel
theorem dL_tell_90 : decode cL_tell 90 = .ok (.iconst 5, 1) := by decide +kernel
theorem dL_tell_91 : decode cL_tell 91 = .ok (.irem, 1) := by decide +kernel
theorem dL_tell_92 : decode cL_tell 92 = .ok (.bipush 6, 2) := by decide +kernel
theorem dL_tell_94 : decode cL_tell 94 = .ok (.invokevirtual 50, 3) := by decide +kernel
theorem dL_tell_97 : decode cL_tell 97 = .ok (.sipush 200, 3) := by decide +kernel
theorem dL_tell_100 : decode cL_tell 100 = .ok (.aload_n 0, 1) := by decide +kernel
theorem dL_tell_101 : decode cL_tell 101 = .ok (.iload 4, 2) := by decide +kernel
theorem dL_tell_103 : decode cL_tell 103 = .ok (.iconst 5, 1) := by decide +kernel
theorem dL_tell_104 : decode cL_tell 104 = .ok (.idiv, 1) := by decide +kernel
theorem dL_tell_105 : decode cL_tell 105 = .ok (.iload 4, 2) := by decide +kernel
theorem dL_tell_107 : decode cL_tell 107 = .ok (.iconst 5, 1) := by decide +kernel
theorem dL_tell_108 : decode cL_tell 108 = .ok (.irem, 1) := by decide +kernel
theorem dL_tell_109 : decode cL_tell 109 = .ok (.bipush 7, 2) := by decide +kernel
theorem dL_tell_111 : decode cL_tell 111 = .ok (.invokevirtual 50, 3) := by decide +kernel
theorem dL_tell_114 : decode cL_tell 114 = .ok (.imul, 1) := by decide +kernel
theorem dL_tell_115 : decode cL_tell 115 = .ok (.iadd, 1) := by decide +kernel
theorem dL_tell_116 : decode cL_tell 116 = .ok (.iastore, 1) := by decide +kernel
theorem dL_tell_117 : decode cL_tell 117 = .ok (.iinc 4 1, 3) := by decide +kernel
theorem dL_tell_120 : decode cL_tell 120 = .ok (.goto (-50), 3) := by decide +kernel
theorem dL_tell_123 : decode cL_tell 123 = .ok (.aload_n 2, 1) := by decide +kernel
theorem dL_tell_124 : decode cL_tell 124 = .ok (.bipush 47, 2) := by decide +kernel
theorem dL_tell_126 : decode cL_tell 126 = .ok (.aload_n 0, 1) := by decide +kernel
theorem dL_tell_127 : decode cL_tell 127 = .ok (.invokevirtual 54, 3) := by decide +kernel
theorem dL_tell_130 : decode cL_tell 130 = .ok (.iastore, 1) := by decide +kernel
theorem dL_tell_131 : decode cL_tell 131 = .ok (.aload_n 2, 1) := by decide +kernel
theorem dL_tell_132 : decode cL_tell 132 = .ok (.areturn, 1) := by decide +kernel
theorem dL_same_0 : decode cL_same 0 = .ok (.iconst 0, 1) := by decide +kernel
theorem dL_same_1 : decode cL_same 1 = .ok (.istore_n 2, 1) := by decide +kernel
theorem dL_same_2 : decode cL_same 2 = .ok (.iload_n 2, 1) := by decide +kernel
theorem dL_same_3 : decode cL_same 3 = .ok (.bipush 64, 2) := by decide +kernel
theorem dL_same_5 : decode cL_same 5 = .ok (.if_icmp .ge 20, 3) := by decide +kernel
theorem dL_same_8 : decode cL_same 8 = .ok (.aload_n 0, 1) := by decide +kernel
theorem dL_same_9 : decode cL_same 9 = .ok (.iload_n 2, 1) := by decide +kernel
theorem dL_same_10 : decode cL_same 10 = .ok (.iaload, 1) := by decide +kernel
theorem dL_same_11 : decode cL_same 11 = .ok (.aload_n 1, 1) := by decide +kernel
theorem dL_same_12 : decode cL_same 12 = .ok (.iload_n 2, 1) := by decide +kernel
theorem dL_same_13 : decode cL_same 13 = .ok (.iaload, 1) := by decide +kernel
theorem dL_same_14 : decode cL_same 14 = .ok (.if_icmp .eq 5, 3) := by decide +kernel
theorem dL_same_17 : decode cL_same 17 = .ok (.iconst 0, 1) := by decide +kernel
theorem dL_same_18 : decode cL_same 18 = .ok (.ireturn, 1) := by decide +kernel
theorem dL_same_19 : decode cL_same 19 = .ok (.iinc 2 1, 3) := by decide +kernel
theorem dL_same_22 : decode cL_same 22 = .ok (.goto (-20), 3) := by decide +kernel
theorem dL_same_25 : decode cL_same 25 = .ok (.iconst 1, 1) := by decide +kernel
theorem dL_same_26 : decode cL_same 26 = .ok (.ireturn, 1) := by decide +kernel
theorem dL_asks_0 : decode cL_asks 0 = .ok (.iload_n 1, 1) := by decide +kernel
theorem dL_asks_1 : decode cL_asks 1 = .ok (.iconst 4, 1) := by decide +kernel
theorem dL_asks_2 : decode cL_asks 2 = .ok (.invokestatic 39, 3) := by decide +kernel
theorem dL_asks_5 : decode cL_asks 5 = .ok (.istore_n 3, 1) := by decide +kernel
theorem dL_asks_6 : decode cL_asks 6 = .ok (.lconst 0, 1) := by decide +kernel
theorem dL_asks_7 : decode cL_asks 7 = .ok (.lstore 4, 2) := by decide +kernel
theorem dL_asks_9 : decode cL_asks 9 = .ok (.iconst 0, 1) := by decide +kernel
theorem dL_asks_10 : decode cL_asks 10 = .ok (.istore 6, 2) := by decide +kernel
theorem dL_asks_12 : decode cL_asks 12 = .ok (.iload 6, 2) := by decide +kernel
theorem dL_asks_14 : decode cL_asks 14 = .ok (.bipush 9, 2) := by decide +kernel
theorem dL_asks_16 : decode cL_asks 16 = .ok (.if_icmp .ge 129, 3) := by decide +kernel
theorem dL_asks_19 : decode cL_asks 19 = .ok (.aload_n 0, 1) := by decide +kernel
theorem dL_asks_20 : decode cL_asks 20 = .ok (.iload_n 3, 1) := by decide +kernel
theorem dL_asks_21 : decode cL_asks 21 = .ok (.iload 6, 2) := by decide +kernel
theorem dL_asks_23 : decode cL_asks 23 = .ok (.invokevirtual 44, 3) := by decide +kernel
theorem dL_asks_26 : decode cL_asks 26 = .ok (.i2l, 1) := by decide +kernel
theorem dL_asks_27 : decode cL_asks 27 = .ok (.aload_n 0, 1) := by decide +kernel
theorem dL_asks_28 : decode cL_asks 28 = .ok (.iload_n 3, 1) := by decide +kernel
theorem dL_asks_29 : decode cL_asks 29 = .ok (.iload 6, 2) := by decide +kernel
theorem dL_asks_31 : decode cL_asks 31 = .ok (.invokevirtual 22, 3) := by decide +kernel
theorem dL_asks_34 : decode cL_asks 34 = .ok (.i2l, 1) := by decide +kernel
theorem dL_asks_35 : decode cL_asks 35 = .ok (.ladd, 1) := by decide +kernel
theorem dL_asks_36 : decode cL_asks 36 = .ok (.lstore 7, 2) := by decide +kernel
theorem dL_asks_38 : decode cL_asks 38 = .ok (.iload 6, 2) := by decide +kernel
theorem dL_asks_40 : decode cL_asks 40 = .ok (.iload_n 3, 1) := by decide +kernel
theorem dL_asks_41 : decode cL_asks 41 = .ok (.if_icmp .ne 9, 3) := by decide +kernel
theorem dL_asks_44 : decode cL_asks 44 = .ok (.ldc2_w 57, 3) := by decide +kernel
theorem dL_asks_47 : decode cL_asks 47 = .ok (.goto 4, 3) := by decide +kernel
theorem dL_asks_50 : decode cL_asks 50 = .ok (.lconst 0, 1) := by decide +kernel
theorem dL_asks_51 : decode cL_asks 51 = .ok (.lstore 9, 2) := by decide +kernel
theorem dL_asks_53 : decode cL_asks 53 = .ok (.lload 4, 2) := by decide +kernel
theorem dL_asks_55 : decode cL_asks 55 = .ok (.lload 7, 2) := by decide +kernel
theorem dL_asks_57 : decode cL_asks 57 = .ok (.ladd, 1) := by decide +kernel
theorem dL_asks_58 : decode cL_asks 58 = .ok (.lstore 4, 2) := by decide +kernel
theorem dL_asks_60 : decode cL_asks 60 = .ok (.iconst 0, 1) := by decide +kernel
theorem dL_asks_61 : decode cL_asks 61 = .ok (.istore 11, 2) := by decide +kernel
theorem dL_asks_63 : decode cL_asks 63 = .ok (.iload 11, 2) := by decide +kernel
theorem dL_asks_65 : decode cL_asks 65 = .ok (.bipush 9, 2) := by decide +kernel
theorem dL_asks_67 : decode cL_asks 67 = .ok (.if_icmp .ge 39, 3) := by decide +kernel
theorem dL_asks_70 : decode cL_asks 70 = .ok (.lload 7, 2) := by decide +kernel
theorem dL_asks_72 : decode cL_asks 72 = .ok (.aload_n 0, 1) := by decide +kernel
theorem dL_asks_73 : decode cL_asks 73 = .ok (.iload_n 3, 1) := by decide +kernel
theorem dL_asks_74 : decode cL_asks 74 = .ok (.iload 6, 2) := by decide +kernel
theorem dL_asks_76 : decode cL_asks 76 = .ok (.iload 11, 2) := by decide +kernel
theorem dL_asks_78 : decode cL_asks 78 = .ok (.invokevirtual 47, 3) := by decide +kernel
theorem dL_asks_81 : decode cL_asks 81 = .ok (.i2l, 1) := by decide +kernel
theorem dL_asks_82 : decode cL_asks 82 = .ok (.ladd, 1) := by decide +kernel
theorem dL_asks_83 : decode cL_asks 83 = .ok (.lstore 7, 2) := by decide +kernel
theorem dL_asks_85 : decode cL_asks 85 = .ok (.lload 9, 2) := by decide +kernel
theorem dL_asks_87 : decode cL_asks 87 = .ok (.aload_n 0, 1) := by decide +kernel
theorem dL_asks_88 : decode cL_asks 88 = .ok (.iload_n 3, 1) := by decide +kernel
theorem dL_asks_89 : decode cL_asks 89 = .ok (.iload 11, 2) := by decide +kernel
theorem dL_asks_91 : decode cL_asks 91 = .ok (.iload 6, 2) := by decide +kernel
theorem dL_asks_93 : decode cL_asks 93 = .ok (.invokevirtual 47, 3) := by decide +kernel
theorem dL_asks_96 : decode cL_asks 96 = .ok (.i2l, 1) := by decide +kernel
theorem dL_asks_97 : decode cL_asks 97 = .ok (.ladd, 1) := by decide +kernel
theorem dL_asks_98 : decode cL_asks 98 = .ok (.lstore 9, 2) := by decide +kernel
theorem dL_asks_100 : decode cL_asks 100 = .ok (.iinc 11 1, 3) := by decide +kernel
theorem dL_asks_103 : decode cL_asks 103 = .ok (.goto (-40), 3) := by decide +kernel
theorem dL_asks_106 : decode cL_asks 106 = .ok (.lload 7, 2) := by decide +kernel
theorem dL_asks_108 : decode cL_asks 108 = .ok (.lload 9, 2) := by decide +kernel
theorem dL_asks_110 : decode cL_asks 110 = .ok (.lcmp, 1) := by decide +kernel
theorem dL_asks_111 : decode cL_asks 111 = .ok (.ifCond .ne 26, 3) := by decide +kernel
theorem dL_asks_114 : decode cL_asks 114 = .ok (.aload_n 0, 1) := by decide +kernel
theorem dL_asks_115 : decode cL_asks 115 = .ok (.iload_n 3, 1) := by decide +kernel
theorem dL_asks_116 : decode cL_asks 116 = .ok (.iload 6, 2) := by decide +kernel
theorem dL_asks_118 : decode cL_asks 118 = .ok (.invokevirtual 22, 3) := by decide +kernel
theorem dL_asks_121 : decode cL_asks 121 = .ok (.iload_n 2, 1) := by decide +kernel
theorem dL_asks_122 : decode cL_asks 122 = .ok (.if_icmp .ge 15, 3) := by decide +kernel
theorem dL_asks_125 : decode cL_asks 125 = .ok (.aload_n 0, 1) := by decide +kernel
theorem dL_asks_126 : decode cL_asks 126 = .ok (.iload_n 3, 1) := by decide +kernel
theorem dL_asks_127 : decode cL_asks 127 = .ok (.iload 6, 2) := by decide +kernel
theorem dL_asks_129 : decode cL_asks 129 = .ok (.invokevirtual 22, 3) := by decide +kernel
theorem dL_asks_132 : decode cL_asks 132 = .ok (.iload_n 2, 1) := by decide +kernel
theorem dL_asks_133 : decode cL_asks 133 = .ok (.ineg, 1) := by decide +kernel
theorem dL_asks_134 : decode cL_asks 134 = .ok (.if_icmp .gt 5, 3) := by decide +kernel
theorem dL_asks_137 : decode cL_asks 137 = .ok (.iconst 0, 1) := by decide +kernel
theorem dL_asks_138 : decode cL_asks 138 = .ok (.ireturn, 1) := by decide +kernel
theorem dL_asks_139 : decode cL_asks 139 = .ok (.iinc 6 1, 3) := by decide +kernel
theorem dL_asks_142 : decode cL_asks 142 = .ok (.goto (-130), 3) := by decide +kernel
theorem dL_asks_145 : decode cL_asks 145 = .ok (.lload 4, 2) := by decide +kernel
theorem dL_asks_147 : decode cL_asks 147 = .ok (.ldc2_w 57, 3) := by decide +kernel
theorem dL_asks_150 : decode cL_asks 150 = .ok (.lcmp, 1) := by decide +kernel
theorem dL_asks_151 : decode cL_asks 151 = .ok (.ifCond .ne 7, 3) := by decide +kernel
theorem dL_asks_154 : decode cL_asks 154 = .ok (.iconst 1, 1) := by decide +kernel
theorem dL_asks_155 : decode cL_asks 155 = .ok (.goto 4, 3) := by decide +kernel
theorem dL_asks_158 : decode cL_asks 158 = .ok (.iconst 0, 1) := by decide +kernel
theorem dL_asks_159 : decode cL_asks 159 = .ok (.ireturn, 1) := by decide +kernel
theorem dL_act_0 : decode cL_act 0 = .ok (.iload_n 1, 1) := by decide +kernel
theorem dL_act_1 : decode cL_act 1 = .ok (.iconst 5, 1) := by decide +kernel
theorem dL_act_2 : decode cL_act 2 = .ok (.invokestatic 39, 3) := by decide +kernel
theorem dL_act_5 : decode cL_act 5 = .ok (.istore_n 3, 1) := by decide +kernel
theorem dL_act_6 : decode cL_act 6 = .ok (.iload_n 1, 1) := by decide +kernel
theorem dL_act_7 : decode cL_act 7 = .ok (.iconst 3, 1) := by decide +kernel
theorem dL_act_8 : decode cL_act 8 = .ok (.ishr, 1) := by decide +kernel
theorem dL_act_9 : decode cL_act 9 = .ok (.bipush 6, 2) := by decide +kernel
theorem dL_act_11 : decode cL_act 11 = .ok (.invokestatic 39, 3) := by decide +kernel
theorem dL_act_14 : decode cL_act 14 = .ok (.istore 4, 2) := by decide +kernel
theorem dL_act_16 : decode cL_act 16 = .ok (.iload_n 2, 1) := by decide +kernel
theorem dL_act_17 : decode cL_act 17 = .ok (.tableswitch 62 0 2 #[27, 37, 53], 27) := by decide +kernel
theorem dL_act_44 : decode cL_act 44 = .ok (.aload_n 0, 1) := by decide +kernel
theorem dL_act_45 : decode cL_act 45 = .ok (.iconst 1, 1) := by decide +kernel
theorem dL_act_46 : decode cL_act 46 = .ok (.iload_n 3, 1) := by decide +kernel
theorem dL_act_47 : decode cL_act 47 = .ok (.iload 4, 2) := by decide +kernel
theorem dL_act_49 : decode cL_act 49 = .ok (.iconst 0, 1) := by decide +kernel
theorem dL_act_50 : decode cL_act 50 = .ok (.invokestatic 59, 3) := by decide +kernel
theorem dL_act_53 : decode cL_act 53 = .ok (.ireturn, 1) := by decide +kernel
theorem dL_act_54 : decode cL_act 54 = .ok (.aload_n 0, 1) := by decide +kernel
theorem dL_act_55 : decode cL_act 55 = .ok (.iconst 2, 1) := by decide +kernel
theorem dL_act_56 : decode cL_act 56 = .ok (.iload 4, 2) := by decide +kernel
theorem dL_act_58 : decode cL_act 58 = .ok (.iload_n 1, 1) := by decide +kernel
theorem dL_act_59 : decode cL_act 59 = .ok (.iconst 5, 1) := by decide +kernel
theorem dL_act_60 : decode cL_act 60 = .ok (.ishr, 1) := by decide +kernel
theorem dL_act_61 : decode cL_act 61 = .ok (.iconst 4, 1) := by decide +kernel
theorem dL_act_62 : decode cL_act 62 = .ok (.invokestatic 39, 3) := by decide +kernel
theorem dL_act_65 : decode cL_act 65 = .ok (.iconst 0, 1) := by decide +kernel
theorem dL_act_66 : decode cL_act 66 = .ok (.invokestatic 59, 3) := by decide +kernel
theorem dL_act_69 : decode cL_act 69 = .ok (.ireturn, 1) := by decide +kernel
theorem dL_act_70 : decode cL_act 70 = .ok (.aload_n 0, 1) := by decide +kernel
theorem dL_act_71 : decode cL_act 71 = .ok (.iconst 4, 1) := by decide +kernel
theorem dL_act_72 : decode cL_act 72 = .ok (.iconst 0, 1) := by decide +kernel
theorem dL_act_73 : decode cL_act 73 = .ok (.iconst 0, 1) := by decide +kernel
theorem dL_act_74 : decode cL_act 74 = .ok (.iconst 0, 1) := by decide +kernel
theorem dL_act_75 : decode cL_act 75 = .ok (.invokestatic 59, 3) := by decide +kernel
theorem dL_act_78 : decode cL_act 78 = .ok (.ireturn, 1) := by decide +kernel
theorem dL_act_79 : decode cL_act 79 = .ok (.aload_n 0, 1) := by decide +kernel
theorem dL_act_80 : decode cL_act 80 = .ok (.iconst 0, 1) := by decide +kernel
theorem dL_act_81 : decode cL_act 81 = .ok (.iload_n 3, 1) := by decide +kernel
theorem dL_act_82 : decode cL_act 82 = .ok (.iload 4, 2) := by decide +kernel
theorem dL_act_84 : decode cL_act 84 = .ok (.iload_n 1, 1) := by decide +kernel
theorem dL_act_85 : decode cL_act 85 = .ok (.iconst 5, 1) := by decide +kernel
theorem dL_act_86 : decode cL_act 86 = .ok (.ishr, 1) := by decide +kernel
theorem dL_act_87 : decode cL_act 87 = .ok (.bipush 101, 2) := by decide +kernel
theorem dL_act_89 : decode cL_act 89 = .ok (.invokestatic 39, 3) := by decide +kernel
theorem dL_act_92 : decode cL_act 92 = .ok (.invokestatic 59, 3) := by decide +kernel
theorem dL_act_95 : decode cL_act 95 = .ok (.ireturn, 1) := by decide +kernel
theorem dL_law_0 : decode cL_law 0 = .ok (.new 10, 3) := by decide +kernel
theorem dL_law_3 : decode cL_law 3 = .ok (.dup, 1) := by decide +kernel
theorem dL_law_4 : decode cL_law 4 = .ok (.invokespecial 63, 3) := by decide +kernel
theorem dL_law_7 : decode cL_law 7 = .ok (.astore_n 1, 1) := by decide +kernel
theorem dL_law_8 : decode cL_law 8 = .ok (.sipush 1000, 3) := by decide +kernel
theorem dL_law_11 : decode cL_law 11 = .ok (.istore_n 2, 1) := by decide +kernel
theorem dL_law_12 : decode cL_law 12 = .ok (.iconst 0, 1) := by decide +kernel
theorem dL_law_13 : decode cL_law 13 = .ok (.istore_n 3, 1) := by decide +kernel
theorem dL_law_14 : decode cL_law 14 = .ok (.iload_n 3, 1) := by decide +kernel
theorem dL_law_15 : decode cL_law 15 = .ok (.bipush 24, 2) := by decide +kernel
theorem dL_law_17 : decode cL_law 17 = .ok (.if_icmp .ge 155, 3) := by decide +kernel
theorem dL_law_20 : decode cL_law 20 = .ok (.aload_n 0, 1) := by decide +kernel
theorem dL_law_21 : decode cL_law 21 = .ok (.iconst 2, 1) := by decide +kernel
theorem dL_law_22 : decode cL_law 22 = .ok (.iload_n 3, 1) := by decide +kernel
theorem dL_law_23 : decode cL_law 23 = .ok (.imul, 1) := by decide +kernel
theorem dL_law_24 : decode cL_law 24 = .ok (.invokestatic 64, 3) := by decide +kernel
theorem dL_law_27 : decode cL_law 27 = .ok (.istore 4, 2) := by decide +kernel
theorem dL_law_29 : decode cL_law 29 = .ok (.aload_n 0, 1) := by decide +kernel
theorem dL_law_30 : decode cL_law 30 = .ok (.iconst 2, 1) := by decide +kernel
theorem dL_law_31 : decode cL_law 31 = .ok (.iload_n 3, 1) := by decide +kernel
theorem dL_law_32 : decode cL_law 32 = .ok (.imul, 1) := by decide +kernel
theorem dL_law_33 : decode cL_law 33 = .ok (.iconst 1, 1) := by decide +kernel
theorem dL_law_34 : decode cL_law 34 = .ok (.iadd, 1) := by decide +kernel
theorem dL_law_35 : decode cL_law 35 = .ok (.invokestatic 64, 3) := by decide +kernel
theorem dL_law_38 : decode cL_law 38 = .ok (.istore 5, 2) := by decide +kernel
theorem dL_law_40 : decode cL_law 40 = .ok (.iload 4, 2) := by decide +kernel
theorem dL_law_42 : decode cL_law 42 = .ok (.iconst 3, 1) := by decide +kernel
theorem dL_law_43 : decode cL_law 43 = .ok (.ishr, 1) := by decide +kernel
theorem dL_law_44 : decode cL_law 44 = .ok (.bipush 8, 2) := by decide +kernel
theorem dL_law_46 : decode cL_law 46 = .ok (.invokestatic 39, 3) := by decide +kernel
theorem dL_law_49 : decode cL_law 49 = .ok (.istore 6, 2) := by decide +kernel
theorem dL_law_51 : decode cL_law 51 = .ok (.aload_n 1, 1) := by decide +kernel
theorem dL_law_52 : decode cL_law 52 = .ok (.iload 5, 2) := by decide +kernel
theorem dL_law_54 : decode cL_law 54 = .ok (.invokestatic 68, 3) := by decide +kernel
theorem dL_law_57 : decode cL_law 57 = .ok (.astore 7, 2) := by decide +kernel
theorem dL_law_59 : decode cL_law 59 = .ok (.iconst 0, 1) := by decide +kernel
theorem dL_law_60 : decode cL_law 60 = .ok (.istore 8, 2) := by decide +kernel
theorem dL_law_62 : decode cL_law 62 = .ok (.iload 6, 2) := by decide +kernel
theorem dL_law_64 : decode cL_law 64 = .ok (.bipush 7, 2) := by decide +kernel
theorem dL_law_66 : decode cL_law 66 = .ok (.if_icmp .ne 52, 3) := by decide +kernel
theorem dL_law_69 : decode cL_law 69 = .ok (.sipush 400, 3) := by decide +kernel
theorem dL_law_72 : decode cL_law 72 = .ok (.iload 5, 2) := by decide +kernel
theorem dL_law_74 : decode cL_law 74 = .ok (.iconst 2, 1) := by decide +kernel
theorem dL_law_75 : decode cL_law 75 = .ok (.ishr, 1) := by decide +kernel
theorem dL_law_76 : decode cL_law 76 = .ok (.sipush 20000, 3) := by decide +kernel
theorem dL_law_79 : decode cL_law 79 = .ok (.invokestatic 39, 3) := by decide +kernel
theorem dL_law_82 : decode cL_law 82 = .ok (.iadd, 1) := by decide +kernel
theorem dL_law_83 : decode cL_law 83 = .ok (.istore 9, 2) := by decide +kernel
theorem dL_law_85 : decode cL_law 85 = .ok (.aload_n 1, 1) := by decide +kernel
theorem dL_law_86 : decode cL_law 86 = .ok (.bipush 45, 2) := by decide +kernel
theorem dL_law_88 : decode cL_law 88 = .ok (.iload 5, 2) := by decide +kernel
theorem dL_law_90 : decode cL_law 90 = .ok (.bipush 50, 2) := by decide +kernel
theorem dL_law_92 : decode cL_law 92 = .ok (.invokestatic 39, 3) := by decide +kernel
theorem dL_law_95 : decode cL_law 95 = .ok (.iadd, 1) := by decide +kernel
theorem dL_law_96 : decode cL_law 96 = .ok (.iload 9, 2) := by decide +kernel
theorem dL_law_98 : decode cL_law 98 = .ok (.invokestatic 72, 3) := by decide +kernel
theorem dL_law_101 : decode cL_law 101 = .ok (.istore 8, 2) := by decide +kernel
theorem dL_law_103 : decode cL_law 103 = .ok (.iload 8, 2) := by decide +kernel
theorem dL_law_105 : decode cL_law 105 = .ok (.ifCond .ne 8, 3) := by decide +kernel
theorem dL_law_108 : decode cL_law 108 = .ok (.iload 9, 2) := by decide +kernel
theorem dL_law_110 : decode cL_law 110 = .ok (.goto 4, 3) := by decide +kernel
theorem dL_law_113 : decode cL_law 113 = .ok (.iload_n 2, 1) := by decide +kernel
theorem dL_law_114 : decode cL_law 114 = .ok (.istore_n 2, 1) := by decide +kernel
theorem dL_law_115 : decode cL_law 115 = .ok (.goto 13, 3) := by decide +kernel
theorem dL_law_118 : decode cL_law 118 = .ok (.aload_n 1, 1) := by decide +kernel
theorem dL_law_119 : decode cL_law 119 = .ok (.iload 5, 2) := by decide +kernel
theorem dL_law_121 : decode cL_law 121 = .ok (.iload 6, 2) := by decide +kernel
theorem dL_law_123 : decode cL_law 123 = .ok (.invokestatic 76, 3) := by decide +kernel
theorem dL_law_126 : decode cL_law 126 = .ok (.istore 8, 2) := by decide +kernel
theorem dL_law_128 : decode cL_law 128 = .ok (.iload 8, 2) := by decide +kernel
theorem dL_law_130 : decode cL_law 130 = .ok (.iconst (-1), 1) := by decide +kernel
theorem dL_law_131 : decode cL_law 131 = .ok (.if_icmp .eq 33, 3) := by decide +kernel
theorem dL_law_134 : decode cL_law 134 = .ok (.iload 8, 2) := by decide +kernel
theorem dL_law_136 : decode cL_law 136 = .ok (.iconst (-1), 1) := by decide +kernel
theorem dL_law_137 : decode cL_law 137 = .ok (.if_icmp .ge 17, 3) := by decide +kernel
theorem dL_law_140 : decode cL_law 140 = .ok (.aload 7, 2) := by decide +kernel
theorem dL_law_142 : decode cL_law 142 = .ok (.aload_n 1, 1) := by decide +kernel
theorem dL_law_143 : decode cL_law 143 = .ok (.iload 5, 2) := by decide +kernel
theorem dL_law_145 : decode cL_law 145 = .ok (.invokestatic 68, 3) := by decide +kernel
theorem dL_law_148 : decode cL_law 148 = .ok (.invokestatic 79, 3) := by decide +kernel
theorem dL_law_151 : decode cL_law 151 = .ok (.ifCond .eq 13, 3) := by decide +kernel
theorem dL_law_154 : decode cL_law 154 = .ok (.aload_n 1, 1) := by decide +kernel
theorem dL_law_155 : decode cL_law 155 = .ok (.iload 5, 2) := by decide +kernel
theorem dL_law_157 : decode cL_law 157 = .ok (.iload_n 2, 1) := by decide +kernel
theorem dL_law_158 : decode cL_law 158 = .ok (.invokestatic 83, 3) := by decide +kernel
theorem dL_law_161 : decode cL_law 161 = .ok (.ifCond .ne 5, 3) := by decide +kernel
theorem dL_law_164 : decode cL_law 164 = .ok (.iconst 0, 1) := by decide +kernel
theorem dL_law_165 : decode cL_law 165 = .ok (.ireturn, 1) := by decide +kernel
theorem dL_law_166 : decode cL_law 166 = .ok (.iinc 3 1, 3) := by decide +kernel
theorem dL_law_169 : decode cL_law 169 = .ok (.goto (-155), 3) := by decide +kernel
theorem dL_law_172 : decode cL_law 172 = .ok (.aload_n 1, 1) := by decide +kernel
theorem dL_law_173 : decode cL_law 173 = .ok (.iconst 0, 1) := by decide +kernel
theorem dL_law_174 : decode cL_law 174 = .ok (.iconst 4, 1) := by decide +kernel
theorem dL_law_175 : decode cL_law 175 = .ok (.iconst 0, 1) := by decide +kernel
theorem dL_law_176 : decode cL_law 176 = .ok (.iconst 1, 1) := by decide +kernel
theorem dL_law_177 : decode cL_law 177 = .ok (.invokestatic 59, 3) := by decide +kernel
theorem dL_law_180 : decode cL_law 180 = .ok (.bipush (-2), 2) := by decide +kernel
theorem dL_law_182 : decode cL_law 182 = .ok (.if_icmp .ne 86, 3) := by decide +kernel
theorem dL_law_185 : decode cL_law 185 = .ok (.aload_n 1, 1) := by decide +kernel
theorem dL_law_186 : decode cL_law 186 = .ok (.iconst 0, 1) := by decide +kernel
theorem dL_law_187 : decode cL_law 187 = .ok (.iconst 0, 1) := by decide +kernel
theorem dL_law_188 : decode cL_law 188 = .ok (.iconst (-1), 1) := by decide +kernel
theorem dL_law_189 : decode cL_law 189 = .ok (.iconst 1, 1) := by decide +kernel
theorem dL_law_190 : decode cL_law 190 = .ok (.invokestatic 59, 3) := by decide +kernel
theorem dL_law_193 : decode cL_law 193 = .ok (.bipush (-2), 2) := by decide +kernel
theorem dL_law_195 : decode cL_law 195 = .ok (.if_icmp .ne 73, 3) := by decide +kernel
theorem dL_law_198 : decode cL_law 198 = .ok (.aload_n 1, 1) := by decide +kernel
theorem dL_law_199 : decode cL_law 199 = .ok (.iconst 1, 1) := by decide +kernel
theorem dL_law_200 : decode cL_law 200 = .ok (.iconst 0, 1) := by decide +kernel
theorem dL_law_201 : decode cL_law 201 = .ok (.iconst 5, 1) := by decide +kernel
theorem dL_law_202 : decode cL_law 202 = .ok (.iconst 0, 1) := by decide +kernel
theorem dL_law_203 : decode cL_law 203 = .ok (.invokestatic 59, 3) := by decide +kernel
theorem dL_law_206 : decode cL_law 206 = .ok (.bipush (-2), 2) := by decide +kernel
theorem dL_law_208 : decode cL_law 208 = .ok (.if_icmp .ne 60, 3) := by decide +kernel
theorem dL_law_211 : decode cL_law 211 = .ok (.aload_n 1, 1) := by decide +kernel
theorem dL_law_212 : decode cL_law 212 = .ok (.iconst 2, 1) := by decide +kernel
theorem dL_law_213 : decode cL_law 213 = .ok (.iconst 0, 1) := by decide +kernel
theorem dL_law_214 : decode cL_law 214 = .ok (.iconst (-1), 1) := by decide +kernel
theorem dL_law_215 : decode cL_law 215 = .ok (.iconst 0, 1) := by decide +kernel
theorem dL_law_216 : decode cL_law 216 = .ok (.invokestatic 59, 3) := by decide +kernel
theorem dL_law_219 : decode cL_law 219 = .ok (.bipush (-3), 2) := by decide +kernel
theorem dL_law_221 : decode cL_law 221 = .ok (.if_icmp .ne 47, 3) := by decide +kernel
theorem dL_law_224 : decode cL_law 224 = .ok (.aload_n 1, 1) := by decide +kernel
theorem dL_law_225 : decode cL_law 225 = .ok (.iconst 3, 1) := by decide +kernel
theorem dL_law_226 : decode cL_law 226 = .ok (.iconst 0, 1) := by decide +kernel
theorem dL_law_227 : decode cL_law 227 = .ok (.bipush 9, 2) := by decide +kernel
theorem dL_law_229 : decode cL_law 229 = .ok (.iconst 0, 1) := by decide +kernel
theorem dL_law_230 : decode cL_law 230 = .ok (.invokestatic 59, 3) := by decide +kernel
theorem dL_law_233 : decode cL_law 233 = .ok (.bipush (-2), 2) := by decide +kernel
theorem dL_law_235 : decode cL_law 235 = .ok (.if_icmp .ne 33, 3) := by decide +kernel
theorem dL_law_238 : decode cL_law 238 = .ok (.aload_n 1, 1) := by decide +kernel
theorem dL_law_239 : decode cL_law 239 = .ok (.bipush 91, 2) := by decide +kernel
theorem dL_law_241 : decode cL_law 241 = .ok (.bipush 100, 2) := by decide +kernel
theorem dL_law_243 : decode cL_law 243 = .ok (.invokestatic 72, 3) := by decide +kernel
theorem dL_law_246 : decode cL_law 246 = .ok (.bipush (-3), 2) := by decide +kernel
theorem dL_law_248 : decode cL_law 248 = .ok (.if_icmp .ne 20, 3) := by decide +kernel
theorem dL_law_251 : decode cL_law 251 = .ok (.aload_n 1, 1) := by decide +kernel
theorem dL_law_252 : decode cL_law 252 = .ok (.bipush 90, 2) := by decide +kernel
theorem dL_law_254 : decode cL_law 254 = .ok (.ldc 87, 2) := by decide +kernel
theorem dL_law_256 : decode cL_law 256 = .ok (.invokestatic 72, 3) := by decide +kernel
theorem dL_law_259 : decode cL_law 259 = .ok (.bipush (-3), 2) := by decide +kernel
theorem dL_law_261 : decode cL_law 261 = .ok (.if_icmp .ne 7, 3) := by decide +kernel
theorem dL_law_264 : decode cL_law 264 = .ok (.iconst 1, 1) := by decide +kernel
theorem dL_law_265 : decode cL_law 265 = .ok (.goto 4, 3) := by decide +kernel
theorem dL_law_268 : decode cL_law 268 = .ok (.iconst 0, 1) := by decide +kernel
theorem dL_law_269 : decode cL_law 269 = .ok (.ireturn, 1) := by decide +kernel
