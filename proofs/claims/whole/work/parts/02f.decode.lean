theorem dX5_ahead_5 : decode cX5_ahead 5 = .ok (.iload 4, 2) := by decide +kernel
theorem dX5_ahead_7 : decode cX5_ahead 7 = .ok (.iconst 5, 1) := by decide +kernel
theorem dX5_ahead_8 : decode cX5_ahead 8 = .ok (.if_icmp .ge 80, 3) := by decide +kernel
theorem dX5_ahead_11 : decode cX5_ahead 11 = .ok (.aload_n 0, 1) := by decide +kernel
theorem dX5_ahead_12 : decode cX5_ahead 12 = .ok (.getfield 27, 3) := by decide +kernel
theorem dX5_ahead_15 : decode cX5_ahead 15 = .ok (.bipush 9, 2) := by decide +kernel
theorem dX5_ahead_17 : decode cX5_ahead 17 = .ok (.iload_n 1, 1) := by decide +kernel
theorem dX5_ahead_18 : decode cX5_ahead 18 = .ok (.imul, 1) := by decide +kernel
theorem dX5_ahead_19 : decode cX5_ahead 19 = .ok (.iconst 4, 1) := by decide +kernel
theorem dX5_ahead_20 : decode cX5_ahead 20 = .ok (.iadd, 1) := by decide +kernel
theorem dX5_ahead_21 : decode cX5_ahead 21 = .ok (.iload 4, 2) := by decide +kernel
theorem dX5_ahead_23 : decode cX5_ahead 23 = .ok (.iadd, 1) := by decide +kernel
theorem dX5_ahead_24 : decode cX5_ahead 24 = .ok (.laload, 1) := by decide +kernel
theorem dX5_ahead_25 : decode cX5_ahead 25 = .ok (.lstore 5, 2) := by decide +kernel
theorem dX5_ahead_27 : decode cX5_ahead 27 = .ok (.aload_n 0, 1) := by decide +kernel
theorem dX5_ahead_28 : decode cX5_ahead 28 = .ok (.getfield 27, 3) := by decide +kernel
theorem dX5_ahead_31 : decode cX5_ahead 31 = .ok (.bipush 9, 2) := by decide +kernel
theorem dX5_ahead_33 : decode cX5_ahead 33 = .ok (.iload_n 1, 1) := by decide +kernel
theorem dX5_ahead_34 : decode cX5_ahead 34 = .ok (.imul, 1) := by decide +kernel
theorem dX5_ahead_35 : decode cX5_ahead 35 = .ok (.iconst 4, 1) := by decide +kernel
theorem dX5_ahead_36 : decode cX5_ahead 36 = .ok (.iadd, 1) := by decide +kernel
theorem dX5_ahead_37 : decode cX5_ahead 37 = .ok (.iload_n 2, 1) := by decide +kernel
theorem dX5_ahead_38 : decode cX5_ahead 38 = .ok (.iadd, 1) := by decide +kernel
theorem dX5_ahead_39 : decode cX5_ahead 39 = .ok (.laload, 1) := by decide +kernel
theorem dX5_ahead_40 : decode cX5_ahead 40 = .ok (.lstore 7, 2) := by decide +kernel
theorem dX5_ahead_42 : decode cX5_ahead 42 = .ok (.iload_n 3, 1) := by decide +kernel
theorem dX5_ahead_43 : decode cX5_ahead 43 = .ok (.aload_n 0, 1) := by decide +kernel
theorem dX5_ahead_44 : decode cX5_ahead 44 = .ok (.iload_n 1, 1) := by decide +kernel
theorem dX5_ahead_45 : decode cX5_ahead 45 = .ok (.iload 4, 2) := by decide +kernel
theorem dX5_ahead_47 : decode cX5_ahead 47 = .ok (.invokevirtual 113, 3) := by decide +kernel
theorem dX5_ahead_50 : decode cX5_ahead 50 = .ok (.ifCond .eq 29, 3) := by decide +kernel
theorem dX5_ahead_53 : decode cX5_ahead 53 = .ok (.lload 5, 2) := by decide +kernel
theorem dX5_ahead_55 : decode cX5_ahead 55 = .ok (.lload 7, 2) := by decide +kernel
theorem dX5_ahead_57 : decode cX5_ahead 57 = .ok (.lcmp, 1) := by decide +kernel
theorem dX5_ahead_58 : decode cX5_ahead 58 = .ok (.ifCond .gt 17, 3) := by decide +kernel
theorem dX5_ahead_61 : decode cX5_ahead 61 = .ok (.lload 5, 2) := by decide +kernel
theorem dX5_ahead_63 : decode cX5_ahead 63 = .ok (.lload 7, 2) := by decide +kernel
theorem dX5_ahead_65 : decode cX5_ahead 65 = .ok (.lcmp, 1) := by decide +kernel
theorem dX5_ahead_66 : decode cX5_ahead 66 = .ok (.ifCond .ne 13, 3) := by decide +kernel
theorem dX5_ahead_69 : decode cX5_ahead 69 = .ok (.iload 4, 2) := by decide +kernel
theorem dX5_ahead_71 : decode cX5_ahead 71 = .ok (.iload_n 2, 1) := by decide +kernel
theorem dX5_ahead_72 : decode cX5_ahead 72 = .ok (.if_icmp .ge 7, 3) := by decide +kernel
theorem dX5_ahead_75 : decode cX5_ahead 75 = .ok (.iconst 1, 1) := by decide +kernel
theorem dX5_ahead_76 : decode cX5_ahead 76 = .ok (.goto 4, 3) := by decide +kernel
theorem dX5_ahead_79 : decode cX5_ahead 79 = .ok (.iconst 0, 1) := by decide +kernel
theorem dX5_ahead_80 : decode cX5_ahead 80 = .ok (.iadd, 1) := by decide +kernel
theorem dX5_ahead_81 : decode cX5_ahead 81 = .ok (.istore_n 3, 1) := by decide +kernel
theorem dX5_ahead_82 : decode cX5_ahead 82 = .ok (.iinc 4 1, 3) := by decide +kernel
theorem dX5_ahead_85 : decode cX5_ahead 85 = .ok (.goto (-80), 3) := by decide +kernel
theorem dX5_ahead_88 : decode cX5_ahead 88 = .ok (.iload_n 3, 1) := by decide +kernel
theorem dX5_ahead_89 : decode cX5_ahead 89 = .ok (.ireturn, 1) := by decide +kernel
theorem dX5_listed_0 : decode cX5_listed 0 = .ok (.aload_n 0, 1) := by decide +kernel
theorem dX5_listed_1 : decode cX5_listed 1 = .ok (.aload_n 0, 1) := by decide +kernel
theorem dX5_listed_2 : decode cX5_listed 2 = .ok (.iload_n 1, 1) := by decide +kernel
theorem dX5_listed_3 : decode cX5_listed 3 = .ok (.iconst 0, 1) := by decide +kernel
theorem dX5_listed_4 : decode cX5_listed 4 = .ok (.iconst 3, 1) := by decide +kernel
theorem dX5_listed_5 : decode cX5_listed 5 = .ok (.invokevirtual 94, 3) := by decide +kernel
theorem dX5_listed_8 : decode cX5_listed 8 = .ok (.ifCond .eq 11, 3) := by decide +kernel
theorem dX5_listed_11 : decode cX5_listed 11 = .ok (.iload_n 2, 1) := by decide +kernel
theorem dX5_listed_12 : decode cX5_listed 12 = .ok (.ifCond .lt 7, 3) := by decide +kernel
theorem dX5_listed_15 : decode cX5_listed 15 = .ok (.iconst 0, 1) := by decide +kernel
theorem dX5_listed_16 : decode cX5_listed 16 = .ok (.goto 4, 3) := by decide +kernel
theorem dX5_listed_19 : decode cX5_listed 19 = .ok (.iconst 1, 1) := by decide +kernel
theorem dX5_listed_20 : decode cX5_listed 20 = .ok (.invokevirtual 102, 3) := by decide +kernel
theorem dX5_listed_23 : decode cX5_listed 23 = .ok (.ifCond .eq 5, 3) := by decide +kernel
theorem dX5_listed_26 : decode cX5_listed 26 = .ok (.iconst (-1), 1) := by decide +kernel
theorem dX5_listed_27 : decode cX5_listed 27 = .ok (.ireturn, 1) := by decide +kernel
theorem dX5_listed_28 : decode cX5_listed 28 = .ok (.iconst 0, 1) := by decide +kernel
theorem dX5_listed_29 : decode cX5_listed 29 = .ok (.istore_n 3, 1) := by decide +kernel
theorem dX5_listed_30 : decode cX5_listed 30 = .ok (.iload_n 3, 1) := by decide +kernel
theorem dX5_listed_31 : decode cX5_listed 31 = .ok (.iconst 5, 1) := by decide +kernel
theorem dX5_listed_32 : decode cX5_listed 32 = .ok (.if_icmp .ge 30, 3) := by decide +kernel
theorem dX5_listed_35 : decode cX5_listed 35 = .ok (.aload_n 0, 1) := by decide +kernel
theorem dX5_listed_36 : decode cX5_listed 36 = .ok (.iload_n 1, 1) := by decide +kernel
theorem dX5_listed_37 : decode cX5_listed 37 = .ok (.iload_n 3, 1) := by decide +kernel
theorem dX5_listed_38 : decode cX5_listed 38 = .ok (.invokevirtual 113, 3) := by decide +kernel
theorem dX5_listed_41 : decode cX5_listed 41 = .ok (.ifCond .eq 15, 3) := by decide +kernel
theorem dX5_listed_44 : decode cX5_listed 44 = .ok (.aload_n 0, 1) := by decide +kernel
theorem dX5_listed_45 : decode cX5_listed 45 = .ok (.iload_n 1, 1) := by decide +kernel
theorem dX5_listed_46 : decode cX5_listed 46 = .ok (.iload_n 3, 1) := by decide +kernel
theorem dX5_listed_47 : decode cX5_listed 47 = .ok (.invokevirtual 116, 3) := by decide +kernel
theorem dX5_listed_50 : decode cX5_listed 50 = .ok (.iload_n 2, 1) := by decide +kernel
theorem dX5_listed_51 : decode cX5_listed 51 = .ok (.if_icmp .ne 5, 3) := by decide +kernel
theorem dX5_listed_54 : decode cX5_listed 54 = .ok (.iload_n 3, 1) := by decide +kernel
theorem dX5_listed_55 : decode cX5_listed 55 = .ok (.ireturn, 1) := by decide +kernel
theorem dX5_listed_56 : decode cX5_listed 56 = .ok (.iinc 3 1, 3) := by decide +kernel
theorem dX5_listed_59 : decode cX5_listed 59 = .ok (.goto (-29), 3) := by decide +kernel
theorem dX5_listed_62 : decode cX5_listed 62 = .ok (.iconst (-1), 1) := by decide +kernel
theorem dX5_listed_63 : decode cX5_listed 63 = .ok (.ireturn, 1) := by decide +kernel
theorem dX5_ways_0 : decode cX5_ways 0 = .ok (.iconst 0, 1) := by decide +kernel
theorem dX5_ways_1 : decode cX5_ways 1 = .ok (.istore_n 3, 1) := by decide +kernel
theorem dX5_ways_2 : decode cX5_ways 2 = .ok (.iconst 0, 1) := by decide +kernel
theorem dX5_ways_3 : decode cX5_ways 3 = .ok (.istore 4, 2) := by decide +kernel
theorem dX5_ways_5 : decode cX5_ways 5 = .ok (.iload 4, 2) := by decide +kernel
theorem dX5_ways_7 : decode cX5_ways 7 = .ok (.iconst 5, 1) := by decide +kernel
theorem dX5_ways_8 : decode cX5_ways 8 = .ok (.if_icmp .ge 181, 3) := by decide +kernel
theorem dX5_ways_11 : decode cX5_ways 11 = .ok (.iconst 0, 1) := by decide +kernel
theorem dX5_ways_12 : decode cX5_ways 12 = .ok (.istore 5, 2) := by decide +kernel
theorem dX5_ways_14 : decode cX5_ways 14 = .ok (.iload 5, 2) := by decide +kernel
theorem dX5_ways_16 : decode cX5_ways 16 = .ok (.iconst 4, 1) := by decide +kernel
theorem dX5_ways_17 : decode cX5_ways 17 = .ok (.if_icmp .ge 166, 3) := by decide +kernel
theorem dX5_ways_20 : decode cX5_ways 20 = .ok (.iload 4, 2) := by decide +kernel
theorem dX5_ways_22 : decode cX5_ways 22 = .ok (.iload_n 2, 1) := by decide +kernel
theorem dX5_ways_23 : decode cX5_ways 23 = .ok (.if_icmp .eq 50, 3) := by decide +kernel
theorem dX5_ways_26 : decode cX5_ways 26 = .ok (.iload 5, 2) := by decide +kernel
theorem dX5_ways_28 : decode cX5_ways 28 = .ok (.iload_n 1, 1) := by decide +kernel
theorem dX5_ways_29 : decode cX5_ways 29 = .ok (.if_icmp .eq 44, 3) := by decide +kernel
theorem dX5_ways_32 : decode cX5_ways 32 = .ok (.aload_n 0, 1) := by decide +kernel
theorem dX5_ways_33 : decode cX5_ways 33 = .ok (.iload_n 1, 1) := by decide +kernel
theorem dX5_ways_34 : decode cX5_ways 34 = .ok (.iconst 4, 1) := by decide +kernel
theorem dX5_ways_35 : decode cX5_ways 35 = .ok (.iload 4, 2) := by decide +kernel
theorem dX5_ways_37 : decode cX5_ways 37 = .ok (.iadd, 1) := by decide +kernel
theorem dX5_ways_38 : decode cX5_ways 38 = .ok (.invokevirtual 58, 3) := by decide +kernel
theorem dX5_ways_41 : decode cX5_ways 41 = .ok (.ifCond .le 32, 3) := by decide +kernel
theorem dX5_ways_44 : decode cX5_ways 44 = .ok (.aload_n 0, 1) := by decide +kernel
theorem dX5_ways_45 : decode cX5_ways 45 = .ok (.iload 5, 2) := by decide +kernel
theorem dX5_ways_47 : decode cX5_ways 47 = .ok (.iconst 4, 1) := by decide +kernel
theorem dX5_ways_48 : decode cX5_ways 48 = .ok (.iload 4, 2) := by decide +kernel
theorem dX5_ways_50 : decode cX5_ways 50 = .ok (.iadd, 1) := by decide +kernel
theorem dX5_ways_51 : decode cX5_ways 51 = .ok (.invokevirtual 58, 3) := by decide +kernel
theorem dX5_ways_54 : decode cX5_ways 54 = .ok (.ifCond .le 19, 3) := by decide +kernel
theorem dX5_ways_57 : decode cX5_ways 57 = .ok (.aload_n 0, 1) := by decide +kernel
theorem dX5_ways_58 : decode cX5_ways 58 = .ok (.iload 5, 2) := by decide +kernel
theorem dX5_ways_60 : decode cX5_ways 60 = .ok (.iconst 4, 1) := by decide +kernel
theorem dX5_ways_61 : decode cX5_ways 61 = .ok (.iload_n 2, 1) := by decide +kernel
theorem dX5_ways_62 : decode cX5_ways 62 = .ok (.iadd, 1) := by decide +kernel
theorem dX5_ways_63 : decode cX5_ways 63 = .ok (.invokevirtual 58, 3) := by decide +kernel
theorem dX5_ways_66 : decode cX5_ways 66 = .ok (.ifCond .le 7, 3) := by decide +kernel
theorem dX5_ways_69 : decode cX5_ways 69 = .ok (.iconst 1, 1) := by decide +kernel
theorem dX5_ways_70 : decode cX5_ways 70 = .ok (.goto 4, 3) := by decide +kernel
theorem dX5_ways_73 : decode cX5_ways 73 = .ok (.iconst 0, 1) := by decide +kernel
theorem dX5_ways_74 : decode cX5_ways 74 = .ok (.istore 6, 2) := by decide +kernel
theorem dX5_ways_76 : decode cX5_ways 76 = .ok (.iload 6, 2) := by decide +kernel
theorem dX5_ways_78 : decode cX5_ways 78 = .ok (.ifCond .eq 99, 3) := by decide +kernel
theorem dX5_ways_81 : decode cX5_ways 81 = .ok (.ldc2_w 89, 3) := by decide +kernel
theorem dX5_ways_84 : decode cX5_ways 84 = .ok (.aload_n 0, 1) := by decide +kernel
theorem dX5_ways_85 : decode cX5_ways 85 = .ok (.iload_n 1, 1) := by decide +kernel
theorem dX5_ways_86 : decode cX5_ways 86 = .ok (.iconst 4, 1) := by decide +kernel
theorem dX5_ways_87 : decode cX5_ways 87 = .ok (.iload 4, 2) := by decide +kernel
theorem dX5_ways_89 : decode cX5_ways 89 = .ok (.iadd, 1) := by decide +kernel
theorem dX5_ways_90 : decode cX5_ways 90 = .ok (.invokevirtual 58, 3) := by decide +kernel
theorem dX5_ways_93 : decode cX5_ways 93 = .ok (.i2l, 1) := by decide +kernel
theorem dX5_ways_94 : decode cX5_ways 94 = .ok (.lmul, 1) := by decide +kernel
theorem dX5_ways_95 : decode cX5_ways 95 = .ok (.aload_n 0, 1) := by decide +kernel
theorem dX5_ways_96 : decode cX5_ways 96 = .ok (.iload_n 1, 1) := by decide +kernel
theorem dX5_ways_97 : decode cX5_ways 97 = .ok (.invokevirtual 62, 3) := by decide +kernel
theorem dX5_ways_100 : decode cX5_ways 100 = .ok (.i2l, 1) := by decide +kernel
theorem dX5_ways_101 : decode cX5_ways 101 = .ok (.ldiv, 1) := by decide +kernel
theorem dX5_ways_102 : decode cX5_ways 102 = .ok (.lstore 7, 2) := by decide +kernel
theorem dX5_ways_104 : decode cX5_ways 104 = .ok (.lload 7, 2) := by decide +kernel
theorem dX5_ways_106 : decode cX5_ways 106 = .ok (.aload_n 0, 1) := by decide +kernel
theorem dX5_ways_107 : decode cX5_ways 107 = .ok (.iload 5, 2) := by decide +kernel
theorem dX5_ways_109 : decode cX5_ways 109 = .ok (.iconst 4, 1) := by decide +kernel
theorem dX5_ways_110 : decode cX5_ways 110 = .ok (.iload 4, 2) := by decide +kernel
theorem dX5_ways_112 : decode cX5_ways 112 = .ok (.iadd, 1) := by decide +kernel
theorem dX5_ways_113 : decode cX5_ways 113 = .ok (.invokevirtual 58, 3) := by decide +kernel
theorem dX5_ways_116 : decode cX5_ways 116 = .ok (.i2l, 1) := by decide +kernel
theorem dX5_ways_117 : decode cX5_ways 117 = .ok (.lmul, 1) := by decide +kernel
theorem dX5_ways_118 : decode cX5_ways 118 = .ok (.aload_n 0, 1) := by decide +kernel
theorem dX5_ways_119 : decode cX5_ways 119 = .ok (.iconst 4, 1) := by decide +kernel
theorem dX5_ways_120 : decode cX5_ways 120 = .ok (.iload 4, 2) := by decide +kernel
theorem dX5_ways_122 : decode cX5_ways 122 = .ok (.iadd, 1) := by decide +kernel
theorem dX5_ways_123 : decode cX5_ways 123 = .ok (.invokevirtual 62, 3) := by decide +kernel
theorem dX5_ways_126 : decode cX5_ways 126 = .ok (.i2l, 1) := by decide +kernel
theorem dX5_ways_127 : decode cX5_ways 127 = .ok (.ldiv, 1) := by decide +kernel
theorem dX5_ways_128 : decode cX5_ways 128 = .ok (.lstore 7, 2) := by decide +kernel
theorem dX5_ways_130 : decode cX5_ways 130 = .ok (.aload_n 0, 1) := by decide +kernel
theorem dX5_ways_131 : decode cX5_ways 131 = .ok (.getfield 43, 3) := by decide +kernel
theorem dX5_ways_134 : decode cX5_ways 134 = .ok (.iload_n 3, 1) := by decide +kernel
theorem dX5_ways_135 : decode cX5_ways 135 = .ok (.lload 7, 2) := by decide +kernel
theorem dX5_ways_137 : decode cX5_ways 137 = .ok (.aload_n 0, 1) := by decide +kernel
theorem dX5_ways_138 : decode cX5_ways 138 = .ok (.iload 5, 2) := by decide +kernel
theorem dX5_ways_140 : decode cX5_ways 140 = .ok (.iconst 4, 1) := by decide +kernel
theorem dX5_ways_141 : decode cX5_ways 141 = .ok (.iload_n 2, 1) := by decide +kernel
theorem dX5_ways_142 : decode cX5_ways 142 = .ok (.iadd, 1) := by decide +kernel
theorem dX5_ways_143 : decode cX5_ways 143 = .ok (.invokevirtual 58, 3) := by decide +kernel
theorem dX5_ways_146 : decode cX5_ways 146 = .ok (.i2l, 1) := by decide +kernel
theorem dX5_ways_147 : decode cX5_ways 147 = .ok (.lmul, 1) := by decide +kernel
theorem dX5_ways_148 : decode cX5_ways 148 = .ok (.aload_n 0, 1) := by decide +kernel
theorem dX5_ways_149 : decode cX5_ways 149 = .ok (.iload 5, 2) := by decide +kernel
theorem dX5_ways_151 : decode cX5_ways 151 = .ok (.invokevirtual 62, 3) := by decide +kernel
theorem dX5_ways_154 : decode cX5_ways 154 = .ok (.i2l, 1) := by decide +kernel
theorem dX5_ways_155 : decode cX5_ways 155 = .ok (.ldiv, 1) := by decide +kernel
theorem dX5_ways_156 : decode cX5_ways 156 = .ok (.l2i, 1) := by decide +kernel
theorem dX5_ways_157 : decode cX5_ways 157 = .ok (.iastore, 1) := by decide +kernel
theorem dX5_ways_158 : decode cX5_ways 158 = .ok (.aload_n 0, 1) := by decide +kernel
theorem dX5_ways_159 : decode cX5_ways 159 = .ok (.getfield 46, 3) := by decide +kernel
theorem dX5_ways_162 : decode cX5_ways 162 = .ok (.iload_n 3, 1) := by decide +kernel
theorem dX5_ways_163 : decode cX5_ways 163 = .ok (.iload 4, 2) := by decide +kernel
theorem dX5_ways_165 : decode cX5_ways 165 = .ok (.iastore, 1) := by decide +kernel
theorem dX5_ways_166 : decode cX5_ways 166 = .ok (.aload_n 0, 1) := by decide +kernel
theorem dX5_ways_167 : decode cX5_ways 167 = .ok (.getfield 49, 3) := by decide +kernel
theorem dX5_ways_170 : decode cX5_ways 170 = .ok (.iload_n 3, 1) := by decide +kernel
theorem dX5_ways_171 : decode cX5_ways 171 = .ok (.iload 5, 2) := by decide +kernel
theorem dX5_ways_173 : decode cX5_ways 173 = .ok (.iastore, 1) := by decide +kernel
theorem dX5_ways_174 : decode cX5_ways 174 = .ok (.iinc 3 1, 3) := by decide +kernel
theorem dX5_ways_177 : decode cX5_ways 177 = .ok (.iinc 5 1, 3) := by decide +kernel
theorem dX5_ways_180 : decode cX5_ways 180 = .ok (.goto (-166), 3) := by decide +kernel
theorem dX5_ways_183 : decode cX5_ways 183 = .ok (.iinc 4 1, 3) := by decide +kernel
theorem dX5_ways_186 : decode cX5_ways 186 = .ok (.goto (-181), 3) := by decide +kernel
theorem dX5_ways_189 : decode cX5_ways 189 = .ok (.iload_n 3, 1) := by decide +kernel
theorem dX5_ways_190 : decode cX5_ways 190 = .ok (.ireturn, 1) := by decide +kernel
theorem dX5_way_0 : decode cX5_way 0 = .ok (.aload_n 0, 1) := by decide +kernel
theorem dX5_way_1 : decode cX5_way 1 = .ok (.aload_n 0, 1) := by decide +kernel
theorem dX5_way_2 : decode cX5_way 2 = .ok (.iload_n 1, 1) := by decide +kernel
theorem dX5_way_3 : decode cX5_way 3 = .ok (.iload_n 2, 1) := by decide +kernel
theorem dX5_way_4 : decode cX5_way 4 = .ok (.invokevirtual 98, 3) := by decide +kernel
theorem dX5_way_7 : decode cX5_way 7 = .ok (.ifCond .eq 7, 3) := by decide +kernel
theorem dX5_way_10 : decode cX5_way 10 = .ok (.iload_n 3, 1) := by decide +kernel
theorem dX5_way_11 : decode cX5_way 11 = .ok (.ifCond .ge 7, 3) := by decide +kernel
theorem dX5_way_14 : decode cX5_way 14 = .ok (.iconst 1, 1) := by decide +kernel
theorem dX5_way_15 : decode cX5_way 15 = .ok (.goto 19, 3) := by decide +kernel
theorem dX5_way_18 : decode cX5_way 18 = .ok (.aload_n 0, 1) := by decide +kernel
theorem dX5_way_19 : decode cX5_way 19 = .ok (.iload 4, 2) := by decide +kernel
theorem dX5_way_21 : decode cX5_way 21 = .ok (.iconst 0, 1) := by decide +kernel
theorem dX5_way_22 : decode cX5_way 22 = .ok (.iconst 2, 1) := by decide +kernel
theorem dX5_way_23 : decode cX5_way 23 = .ok (.invokevirtual 94, 3) := by decide +kernel
theorem dX5_way_26 : decode cX5_way 26 = .ok (.ifCond .eq 7, 3) := by decide +kernel
theorem dX5_way_29 : decode cX5_way 29 = .ok (.iconst 0, 1) := by decide +kernel
theorem dX5_way_30 : decode cX5_way 30 = .ok (.goto 4, 3) := by decide +kernel
theorem dX5_way_33 : decode cX5_way 33 = .ok (.iconst 2, 1) := by decide +kernel
theorem dX5_way_34 : decode cX5_way 34 = .ok (.invokevirtual 102, 3) := by decide +kernel
theorem dX5_way_37 : decode cX5_way 37 = .ok (.ifCond .eq 5, 3) := by decide +kernel
theorem dX5_way_40 : decode cX5_way 40 = .ok (.iconst (-1), 1) := by decide +kernel
theorem dX5_way_41 : decode cX5_way 41 = .ok (.ireturn, 1) := by decide +kernel
theorem dX5_way_42 : decode cX5_way 42 = .ok (.aload_n 0, 1) := by decide +kernel
theorem dX5_way_43 : decode cX5_way 43 = .ok (.iload_n 1, 1) := by decide +kernel
theorem dX5_way_44 : decode cX5_way 44 = .ok (.iload_n 2, 1) := by decide +kernel
theorem dX5_way_45 : decode cX5_way 45 = .ok (.invokevirtual 119, 3) := by decide +kernel
theorem dX5_way_48 : decode cX5_way 48 = .ok (.istore 5, 2) := by decide +kernel
theorem dX5_way_50 : decode cX5_way 50 = .ok (.iconst 0, 1) := by decide +kernel
theorem dX5_way_51 : decode cX5_way 51 = .ok (.istore 6, 2) := by decide +kernel
theorem dX5_way_53 : decode cX5_way 53 = .ok (.iload 6, 2) := by decide +kernel
theorem dX5_way_55 : decode cX5_way 55 = .ok (.iload 5, 2) := by decide +kernel
theorem dX5_way_57 : decode cX5_way 57 = .ok (.if_icmp .ge 124, 3) := by decide +kernel
theorem dX5_way_60 : decode cX5_way 60 = .ok (.iconst 0, 1) := by decide +kernel
theorem dX5_way_61 : decode cX5_way 61 = .ok (.istore 7, 2) := by decide +kernel
theorem dX5_way_63 : decode cX5_way 63 = .ok (.iconst 0, 1) := by decide +kernel
theorem dX5_way_64 : decode cX5_way 64 = .ok (.istore 8, 2) := by decide +kernel
theorem dX5_way_66 : decode cX5_way 66 = .ok (.iload 8, 2) := by decide +kernel
theorem dX5_way_68 : decode cX5_way 68 = .ok (.iload 5, 2) := by decide +kernel
theorem dX5_way_70 : decode cX5_way 70 = .ok (.if_icmp .ge 60, 3) := by decide +kernel
theorem dX5_way_73 : decode cX5_way 73 = .ok (.iload 7, 2) := by decide +kernel
theorem dX5_way_75 : decode cX5_way 75 = .ok (.aload_n 0, 1) := by decide +kernel
theorem dX5_way_76 : decode cX5_way 76 = .ok (.getfield 43, 3) := by decide +kernel
theorem dX5_way_79 : decode cX5_way 79 = .ok (.iload 8, 2) := by decide +kernel
theorem dX5_way_81 : decode cX5_way 81 = .ok (.iaload, 1) := by decide +kernel
theorem dX5_way_82 : decode cX5_way 82 = .ok (.aload_n 0, 1) := by decide +kernel
theorem dX5_way_83 : decode cX5_way 83 = .ok (.getfield 43, 3) := by decide +kernel
theorem dX5_way_86 : decode cX5_way 86 = .ok (.iload 6, 2) := by decide +kernel
theorem dX5_way_88 : decode cX5_way 88 = .ok (.iaload, 1) := by decide +kernel
theorem dX5_way_89 : decode cX5_way 89 = .ok (.if_icmp .gt 27, 3) := by decide +kernel
theorem dX5_way_92 : decode cX5_way 92 = .ok (.aload_n 0, 1) := by decide +kernel
theorem dX5_way_93 : decode cX5_way 93 = .ok (.getfield 43, 3) := by decide +kernel
theorem dX5_way_96 : decode cX5_way 96 = .ok (.iload 8, 2) := by decide +kernel
theorem dX5_way_98 : decode cX5_way 98 = .ok (.iaload, 1) := by decide +kernel
theorem dX5_way_99 : decode cX5_way 99 = .ok (.aload_n 0, 1) := by decide +kernel
theorem dX5_way_100 : decode cX5_way 100 = .ok (.getfield 43, 3) := by decide +kernel
theorem dX5_way_103 : decode cX5_way 103 = .ok (.iload 6, 2) := by decide +kernel
theorem dX5_way_105 : decode cX5_way 105 = .ok (.iaload, 1) := by decide +kernel
theorem dX5_way_106 : decode cX5_way 106 = .ok (.if_icmp .ne 14, 3) := by decide +kernel
theorem dX5_way_109 : decode cX5_way 109 = .ok (.iload 8, 2) := by decide +kernel
theorem dX5_way_111 : decode cX5_way 111 = .ok (.iload 6, 2) := by decide +kernel
theorem dX5_way_113 : decode cX5_way 113 = .ok (.if_icmp .ge 7, 3) := by decide +kernel
theorem dX5_way_116 : decode cX5_way 116 = .ok (.iconst 1, 1) := by decide +kernel
theorem dX5_way_117 : decode cX5_way 117 = .ok (.goto 4, 3) := by decide +kernel
theorem dX5_way_120 : decode cX5_way 120 = .ok (.iconst 0, 1) := by decide +kernel
theorem dX5_way_121 : decode cX5_way 121 = .ok (.iadd, 1) := by decide +kernel
theorem dX5_way_122 : decode cX5_way 122 = .ok (.istore 7, 2) := by decide +kernel
theorem dX5_way_124 : decode cX5_way 124 = .ok (.iinc 8 1, 3) := by decide +kernel
theorem dX5_way_127 : decode cX5_way 127 = .ok (.goto (-61), 3) := by decide +kernel
theorem dX5_way_130 : decode cX5_way 130 = .ok (.iload 7, 2) := by decide +kernel
theorem dX5_way_132 : decode cX5_way 132 = .ok (.iload_n 3, 1) := by decide +kernel
theorem dX5_way_133 : decode cX5_way 133 = .ok (.if_icmp .ne 42, 3) := by decide +kernel
theorem dX5_way_136 : decode cX5_way 136 = .ok (.iload 4, 2) := by decide +kernel
theorem dX5_way_138 : decode cX5_way 138 = .ok (.ifCond .ne 13, 3) := by decide +kernel
theorem dX5_way_141 : decode cX5_way 141 = .ok (.aload_n 0, 1) := by decide +kernel
theorem dX5_way_142 : decode cX5_way 142 = .ok (.getfield 46, 3) := by decide +kernel
theorem dX5_way_145 : decode cX5_way 145 = .ok (.iload 6, 2) := by decide +kernel
theorem dX5_way_147 : decode cX5_way 147 = .ok (.iaload, 1) := by decide +kernel
theorem dX5_way_148 : decode cX5_way 148 = .ok (.goto 26, 3) := by decide +kernel
theorem dX5_way_151 : decode cX5_way 151 = .ok (.iload 4, 2) := by decide +kernel
theorem dX5_way_153 : decode cX5_way 153 = .ok (.iconst 1, 1) := by decide +kernel
theorem dX5_way_154 : decode cX5_way 154 = .ok (.if_icmp .ne 13, 3) := by decide +kernel
theorem dX5_way_157 : decode cX5_way 157 = .ok (.aload_n 0, 1) := by decide +kernel
theorem dX5_way_158 : decode cX5_way 158 = .ok (.getfield 49, 3) := by decide +kernel
theorem dX5_way_161 : decode cX5_way 161 = .ok (.iload 6, 2) := by decide +kernel
theorem dX5_way_163 : decode cX5_way 163 = .ok (.iaload, 1) := by decide +kernel
theorem dX5_way_164 : decode cX5_way 164 = .ok (.goto 10, 3) := by decide +kernel
theorem dX5_way_167 : decode cX5_way 167 = .ok (.aload_n 0, 1) := by decide +kernel
theorem dX5_way_168 : decode cX5_way 168 = .ok (.getfield 43, 3) := by decide +kernel
theorem dX5_way_171 : decode cX5_way 171 = .ok (.iload 6, 2) := by decide +kernel
theorem dX5_way_173 : decode cX5_way 173 = .ok (.iaload, 1) := by decide +kernel
theorem dX5_way_174 : decode cX5_way 174 = .ok (.ireturn, 1) := by decide +kernel
theorem dX5_way_175 : decode cX5_way 175 = .ok (.iinc 6 1, 3) := by decide +kernel
theorem dX5_way_178 : decode cX5_way 178 = .ok (.goto (-125), 3) := by decide +kernel
theorem dX5_way_181 : decode cX5_way 181 = .ok (.iconst (-1), 1) := by decide +kernel
theorem dX5_way_182 : decode cX5_way 182 = .ok (.ireturn, 1) := by decide +kernel
theorem dX5_share_0 : decode cX5_share 0 = .ok (.aload_n 0, 1) := by decide +kernel
theorem dX5_share_1 : decode cX5_share 1 = .ok (.aload_n 0, 1) := by decide +kernel
theorem dX5_share_2 : decode cX5_share 2 = .ok (.iload_n 1, 1) := by decide +kernel
theorem dX5_share_3 : decode cX5_share 3 = .ok (.iload_n 2, 1) := by decide +kernel
theorem dX5_share_4 : decode cX5_share 4 = .ok (.invokevirtual 110, 3) := by decide +kernel
theorem dX5_share_7 : decode cX5_share 7 = .ok (.ifCond .eq 7, 3) := by decide +kernel
theorem dX5_share_10 : decode cX5_share 10 = .ok (.iconst 0, 1) := by decide +kernel
theorem dX5_share_11 : decode cX5_share 11 = .ok (.goto 4, 3) := by decide +kernel
theorem dX5_share_14 : decode cX5_share 14 = .ok (.iconst 1, 1) := by decide +kernel
theorem dX5_share_15 : decode cX5_share 15 = .ok (.invokevirtual 102, 3) := by decide +kernel
theorem dX5_share_18 : decode cX5_share 18 = .ok (.ifCond .eq 7, 3) := by decide +kernel
theorem dX5_share_21 : decode cX5_share 21 = .ok (.ldc2_w 122, 3) := by decide +kernel
theorem dX5_share_24 : decode cX5_share 24 = .ok (.dreturn, 1) := by decide +kernel
theorem dX5_share_25 : decode cX5_share 25 = .ok (.aload_n 0, 1) := by decide +kernel
theorem dX5_share_26 : decode cX5_share 26 = .ok (.getfield 16, 3) := by decide +kernel
theorem dX5_share_29 : decode cX5_share 29 = .ok (.i2d, 1) := by decide +kernel
theorem dX5_share_30 : decode cX5_share 30 = .ok (.ldc2_w 124, 3) := by decide +kernel
theorem dX5_share_33 : decode cX5_share 33 = .ok (.ddiv, 1) := by decide +kernel
theorem dX5_share_34 : decode cX5_share 34 = .ok (.dstore_n 3, 1) := by decide +kernel
theorem dX5_share_35 : decode cX5_share 35 = .ok (.iconst 0, 1) := by decide +kernel
theorem dX5_share_36 : decode cX5_share 36 = .ok (.istore 5, 2) := by decide +kernel
theorem dX5_share_38 : decode cX5_share 38 = .ok (.iload 5, 2) := by decide +kernel
theorem dX5_share_40 : decode cX5_share 40 = .ok (.bipush 9, 2) := by decide +kernel
theorem dX5_share_42 : decode cX5_share 42 = .ok (.if_icmp .ge 108, 3) := by decide +kernel
theorem dX5_share_45 : decode cX5_share 45 = .ok (.iconst 0, 1) := by decide +kernel
theorem dX5_share_46 : decode cX5_share 46 = .ok (.istore 6, 2) := by decide +kernel
theorem dX5_share_48 : decode cX5_share 48 = .ok (.iload 6, 2) := by decide +kernel
theorem dX5_share_50 : decode cX5_share 50 = .ok (.bipush 9, 2) := by decide +kernel
theorem dX5_share_52 : decode cX5_share 52 = .ok (.if_icmp .ge 72, 3) := by decide +kernel
theorem dX5_share_55 : decode cX5_share 55 = .ok (.aload_n 0, 1) := by decide +kernel
theorem dX5_share_56 : decode cX5_share 56 = .ok (.iload_n 1, 1) := by decide +kernel
theorem dX5_share_57 : decode cX5_share 57 = .ok (.iload 6, 2) := by decide +kernel
theorem dX5_share_59 : decode cX5_share 59 = .ok (.iload 5, 2) := by decide +kernel
theorem dX5_share_61 : decode cX5_share 61 = .ok (.invokevirtual 69, 3) := by decide +kernel
theorem dX5_share_64 : decode cX5_share 64 = .ok (.istore 7, 2) := by decide +kernel
theorem dX5_share_66 : decode cX5_share 66 = .ok (.iload 7, 2) := by decide +kernel
theorem dX5_share_68 : decode cX5_share 68 = .ok (.ifCond .ne 7, 3) := by decide +kernel
theorem dX5_share_71 : decode cX5_share 71 = .ok (.dconst 0, 1) := by decide +kernel
theorem dX5_share_72 : decode cX5_share 72 = .ok (.goto 16, 3) := by decide +kernel
theorem dX5_share_75 : decode cX5_share 75 = .ok (.dload_n 3, 1) := by decide +kernel
theorem dX5_share_76 : decode cX5_share 76 = .ok (.iload 7, 2) := by decide +kernel
theorem dX5_share_78 : decode cX5_share 78 = .ok (.i2d, 1) := by decide +kernel
theorem dX5_share_79 : decode cX5_share 79 = .ok (.aload_n 0, 1) := by decide +kernel
theorem dX5_share_80 : decode cX5_share 80 = .ok (.iload 6, 2) := by decide +kernel
theorem dX5_share_82 : decode cX5_share 82 = .ok (.invokevirtual 66, 3) := by decide +kernel
theorem dX5_share_85 : decode cX5_share 85 = .ok (.i2d, 1) := by decide +kernel
theorem dX5_share_86 : decode cX5_share 86 = .ok (.ddiv, 1) := by decide +kernel
theorem dX5_share_87 : decode cX5_share 87 = .ok (.dmul, 1) := by decide +kernel
theorem dX5_share_88 : decode cX5_share 88 = .ok (.dstore 8, 2) := by decide +kernel
theorem dX5_share_90 : decode cX5_share 90 = .ok (.aload_n 0, 1) := by decide +kernel
theorem dX5_share_91 : decode cX5_share 91 = .ok (.getfield 33, 3) := by decide +kernel
theorem dX5_share_94 : decode cX5_share 94 = .ok (.bipush 9, 2) := by decide +kernel
theorem dX5_share_96 : decode cX5_share 96 = .ok (.iload 5, 2) := by decide +kernel
theorem dX5_share_98 : decode cX5_share 98 = .ok (.imul, 1) := by decide +kernel
theorem dX5_share_99 : decode cX5_share 99 = .ok (.iload 6, 2) := by decide +kernel
theorem dX5_share_101 : decode cX5_share 101 = .ok (.iadd, 1) := by decide +kernel
theorem dX5_share_102 : decode cX5_share 102 = .ok (.iload 5, 2) := by decide +kernel
theorem dX5_share_104 : decode cX5_share 104 = .ok (.iload 6, 2) := by decide +kernel
theorem dX5_share_106 : decode cX5_share 106 = .ok (.if_icmp .ne 7, 3) := by decide +kernel
theorem dX5_share_109 : decode cX5_share 109 = .ok (.dconst 1, 1) := by decide +kernel
theorem dX5_share_110 : decode cX5_share 110 = .ok (.goto 4, 3) := by decide +kernel
theorem dX5_share_113 : decode cX5_share 113 = .ok (.dconst 0, 1) := by decide +kernel
theorem dX5_share_114 : decode cX5_share 114 = .ok (.dload 8, 2) := by decide +kernel
theorem dX5_share_116 : decode cX5_share 116 = .ok (.dsub, 1) := by decide +kernel
theorem dX5_share_117 : decode cX5_share 117 = .ok (.dastore, 1) := by decide +kernel
theorem dX5_share_118 : decode cX5_share 118 = .ok (.iinc 6 1, 3) := by decide +kernel
theorem dX5_share_121 : decode cX5_share 121 = .ok (.goto (-73), 3) := by decide +kernel
theorem dX5_share_124 : decode cX5_share 124 = .ok (.aload_n 0, 1) := by decide +kernel
theorem dX5_share_125 : decode cX5_share 125 = .ok (.getfield 37, 3) := by decide +kernel
theorem dX5_share_128 : decode cX5_share 128 = .ok (.iload 5, 2) := by decide +kernel
theorem dX5_share_130 : decode cX5_share 130 = .ok (.iload 5, 2) := by decide +kernel
theorem dX5_share_132 : decode cX5_share 132 = .ok (.iload_n 1, 1) := by decide +kernel
theorem dX5_share_133 : decode cX5_share 133 = .ok (.if_icmp .ne 9, 3) := by decide +kernel
theorem dX5_share_136 : decode cX5_share 136 = .ok (.dconst 1, 1) := by decide +kernel
theorem dX5_share_137 : decode cX5_share 137 = .ok (.dload_n 3, 1) := by decide +kernel
theorem dX5_share_138 : decode cX5_share 138 = .ok (.dsub, 1) := by decide +kernel
theorem dX5_share_139 : decode cX5_share 139 = .ok (.goto 4, 3) := by decide +kernel
theorem dX5_share_142 : decode cX5_share 142 = .ok (.dconst 0, 1) := by decide +kernel
theorem dX5_share_143 : decode cX5_share 143 = .ok (.dastore, 1) := by decide +kernel
theorem dX5_share_144 : decode cX5_share 144 = .ok (.iinc 5 1, 3) := by decide +kernel
theorem dX5_share_147 : decode cX5_share 147 = .ok (.goto (-109), 3) := by decide +kernel
theorem dX5_share_150 : decode cX5_share 150 = .ok (.iconst 0, 1) := by decide +kernel
theorem dX5_share_151 : decode cX5_share 151 = .ok (.istore 5, 2) := by decide +kernel
theorem dX5_share_153 : decode cX5_share 153 = .ok (.iload 5, 2) := by decide +kernel
theorem dX5_share_155 : decode cX5_share 155 = .ok (.bipush 9, 2) := by decide +kernel
theorem dX5_share_157 : decode cX5_share 157 = .ok (.if_icmp .ge 123, 3) := by decide +kernel
theorem dX5_share_160 : decode cX5_share 160 = .ok (.iload 5, 2) := by decide +kernel
theorem dX5_share_162 : decode cX5_share 162 = .ok (.iconst 1, 1) := by decide +kernel
theorem dX5_share_163 : decode cX5_share 163 = .ok (.iadd, 1) := by decide +kernel
theorem dX5_share_164 : decode cX5_share 164 = .ok (.istore 6, 2) := by decide +kernel
theorem dX5_share_166 : decode cX5_share 166 = .ok (.iload 6, 2) := by decide +kernel
theorem dX5_share_168 : decode cX5_share 168 = .ok (.bipush 9, 2) := by decide +kernel
theorem dX5_share_170 : decode cX5_share 170 = .ok (.if_icmp .ge 104, 3) := by decide +kernel
theorem dX5_share_173 : decode cX5_share 173 = .ok (.aload_n 0, 1) := by decide +kernel
theorem dX5_share_174 : decode cX5_share 174 = .ok (.getfield 33, 3) := by decide +kernel
theorem dX5_share_177 : decode cX5_share 177 = .ok (.bipush 9, 2) := by decide +kernel
theorem dX5_share_179 : decode cX5_share 179 = .ok (.iload 6, 2) := by decide +kernel
theorem dX5_share_181 : decode cX5_share 181 = .ok (.imul, 1) := by decide +kernel
theorem dX5_share_182 : decode cX5_share 182 = .ok (.iload 5, 2) := by decide +kernel
theorem dX5_share_184 : decode cX5_share 184 = .ok (.iadd, 1) := by decide +kernel
theorem dX5_share_185 : decode cX5_share 185 = .ok (.daload, 1) := by decide +kernel
theorem dX5_share_186 : decode cX5_share 186 = .ok (.aload_n 0, 1) := by decide +kernel
theorem dX5_share_187 : decode cX5_share 187 = .ok (.getfield 33, 3) := by decide +kernel
theorem dX5_share_190 : decode cX5_share 190 = .ok (.bipush 10, 2) := by decide +kernel
theorem dX5_share_192 : decode cX5_share 192 = .ok (.iload 5, 2) := by decide +kernel
theorem dX5_share_194 : decode cX5_share 194 = .ok (.imul, 1) := by decide +kernel
theorem dX5_share_195 : decode cX5_share 195 = .ok (.daload, 1) := by decide +kernel
theorem dX5_share_196 : decode cX5_share 196 = .ok (.ddiv, 1) := by decide +kernel
theorem dX5_share_197 : decode cX5_share 197 = .ok (.dstore 7, 2) := by decide +kernel
theorem dX5_share_199 : decode cX5_share 199 = .ok (.iload 5, 2) := by decide +kernel
theorem dX5_share_201 : decode cX5_share 201 = .ok (.istore 9, 2) := by decide +kernel
theorem dX5_share_203 : decode cX5_share 203 = .ok (.iload 9, 2) := by decide +kernel
theorem dX5_share_205 : decode cX5_share 205 = .ok (.bipush 9, 2) := by decide +kernel
theorem dX5_share_207 : decode cX5_share 207 = .ok (.if_icmp .ge 41, 3) := by decide +kernel
theorem dX5_share_210 : decode cX5_share 210 = .ok (.aload_n 0, 1) := by decide +kernel
theorem dX5_share_211 : decode cX5_share 211 = .ok (.getfield 33, 3) := by decide +kernel
theorem dX5_share_214 : decode cX5_share 214 = .ok (.bipush 9, 2) := by decide +kernel
theorem dX5_share_216 : decode cX5_share 216 = .ok (.iload 6, 2) := by decide +kernel
theorem dX5_share_218 : decode cX5_share 218 = .ok (.imul, 1) := by decide +kernel
theorem dX5_share_219 : decode cX5_share 219 = .ok (.iload 9, 2) := by decide +kernel
theorem dX5_share_221 : decode cX5_share 221 = .ok (.iadd, 1) := by decide +kernel
theorem dX5_share_222 : decode cX5_share 222 = .ok (.dup2, 1) := by decide +kernel
theorem dX5_share_223 : decode cX5_share 223 = .ok (.daload, 1) := by decide +kernel
theorem dX5_share_224 : decode cX5_share 224 = .ok (.dload 7, 2) := by decide +kernel
theorem dX5_share_226 : decode cX5_share 226 = .ok (.aload_n 0, 1) := by decide +kernel
theorem dX5_share_227 : decode cX5_share 227 = .ok (.getfield 33, 3) := by decide +kernel
theorem dX5_share_230 : decode cX5_share 230 = .ok (.bipush 9, 2) := by decide +kernel
theorem dX5_share_232 : decode cX5_share 232 = .ok (.iload 5, 2) := by decide +kernel
theorem dX5_share_234 : decode cX5_share 234 = .ok (.imul, 1) := by decide +kernel
theorem dX5_share_235 : decode cX5_share 235 = .ok (.iload 9, 2) := by decide +kernel
theorem dX5_share_237 : decode cX5_share 237 = .ok (.iadd, 1) := by decide +kernel
theorem dX5_share_238 : decode cX5_share 238 = .ok (.daload, 1) := by decide +kernel
theorem dX5_share_239 : decode cX5_share 239 = .ok (.dmul, 1) := by decide +kernel
theorem dX5_share_240 : decode cX5_share 240 = .ok (.dsub, 1) := by decide +kernel
theorem dX5_share_241 : decode cX5_share 241 = .ok (.dastore, 1) := by decide +kernel
theorem dX5_share_242 : decode cX5_share 242 = .ok (.iinc 9 1, 3) := by decide +kernel
theorem dX5_share_245 : decode cX5_share 245 = .ok (.goto (-42), 3) := by decide +kernel
theorem dX5_share_248 : decode cX5_share 248 = .ok (.aload_n 0, 1) := by decide +kernel
theorem dX5_share_249 : decode cX5_share 249 = .ok (.getfield 37, 3) := by decide +kernel
theorem dX5_share_252 : decode cX5_share 252 = .ok (.iload 6, 2) := by decide +kernel
theorem dX5_share_254 : decode cX5_share 254 = .ok (.dup2, 1) := by decide +kernel
theorem dX5_share_255 : decode cX5_share 255 = .ok (.daload, 1) := by decide +kernel
theorem dX5_share_256 : decode cX5_share 256 = .ok (.dload 7, 2) := by decide +kernel
theorem dX5_share_258 : decode cX5_share 258 = .ok (.aload_n 0, 1) := by decide +kernel
theorem dX5_share_259 : decode cX5_share 259 = .ok (.getfield 37, 3) := by decide +kernel
theorem dX5_share_262 : decode cX5_share 262 = .ok (.iload 5, 2) := by decide +kernel
theorem dX5_share_264 : decode cX5_share 264 = .ok (.daload, 1) := by decide +kernel
theorem dX5_share_265 : decode cX5_share 265 = .ok (.dmul, 1) := by decide +kernel
theorem dX5_share_266 : decode cX5_share 266 = .ok (.dsub, 1) := by decide +kernel
theorem dX5_share_267 : decode cX5_share 267 = .ok (.dastore, 1) := by decide +kernel
theorem dX5_share_268 : decode cX5_share 268 = .ok (.iinc 6 1, 3) := by decide +kernel
theorem dX5_share_271 : decode cX5_share 271 = .ok (.goto (-105), 3) := by decide +kernel
theorem dX5_share_274 : decode cX5_share 274 = .ok (.iinc 5 1, 3) := by decide +kernel
theorem dX5_share_277 : decode cX5_share 277 = .ok (.goto (-124), 3) := by decide +kernel
theorem dX5_share_280 : decode cX5_share 280 = .ok (.bipush 8, 2) := by decide +kernel
theorem dX5_share_282 : decode cX5_share 282 = .ok (.istore 5, 2) := by decide +kernel
theorem dX5_share_284 : decode cX5_share 284 = .ok (.iload 5, 2) := by decide +kernel
theorem dX5_share_286 : decode cX5_share 286 = .ok (.ifCond .lt 83, 3) := by decide +kernel
theorem dX5_share_289 : decode cX5_share 289 = .ok (.aload_n 0, 1) := by decide +kernel
theorem dX5_share_290 : decode cX5_share 290 = .ok (.getfield 37, 3) := by decide +kernel
theorem dX5_share_293 : decode cX5_share 293 = .ok (.iload 5, 2) := by decide +kernel
theorem dX5_share_295 : decode cX5_share 295 = .ok (.daload, 1) := by decide +kernel
theorem dX5_share_296 : decode cX5_share 296 = .ok (.dstore 6, 2) := by decide +kernel
theorem dX5_share_298 : decode cX5_share 298 = .ok (.iload 5, 2) := by decide +kernel
theorem dX5_share_300 : decode cX5_share 300 = .ok (.iconst 1, 1) := by decide +kernel
theorem dX5_share_301 : decode cX5_share 301 = .ok (.iadd, 1) := by decide +kernel
theorem dX5_share_302 : decode cX5_share 302 = .ok (.istore 8, 2) := by decide +kernel
theorem dX5_share_304 : decode cX5_share 304 = .ok (.iload 8, 2) := by decide +kernel
theorem dX5_share_306 : decode cX5_share 306 = .ok (.bipush 9, 2) := by decide +kernel
theorem dX5_share_308 : decode cX5_share 308 = .ok (.if_icmp .ge 35, 3) := by decide +kernel
theorem dX5_share_311 : decode cX5_share 311 = .ok (.dload 6, 2) := by decide +kernel
theorem dX5_share_313 : decode cX5_share 313 = .ok (.aload_n 0, 1) := by decide +kernel
theorem dX5_share_314 : decode cX5_share 314 = .ok (.getfield 33, 3) := by decide +kernel
theorem dX5_share_317 : decode cX5_share 317 = .ok (.bipush 9, 2) := by decide +kernel
theorem dX5_share_319 : decode cX5_share 319 = .ok (.iload 5, 2) := by decide +kernel
theorem dX5_share_321 : decode cX5_share 321 = .ok (.imul, 1) := by decide +kernel
theorem dX5_share_322 : decode cX5_share 322 = .ok (.iload 8, 2) := by decide +kernel
theorem dX5_share_324 : decode cX5_share 324 = .ok (.iadd, 1) := by decide +kernel
theorem dX5_share_325 : decode cX5_share 325 = .ok (.daload, 1) := by decide +kernel
theorem dX5_share_326 : decode cX5_share 326 = .ok (.aload_n 0, 1) := by decide +kernel
theorem dX5_share_327 : decode cX5_share 327 = .ok (.getfield 40, 3) := by decide +kernel
theorem dX5_share_330 : decode cX5_share 330 = .ok (.iload 8, 2) := by decide +kernel
theorem dX5_share_332 : decode cX5_share 332 = .ok (.daload, 1) := by decide +kernel
theorem dX5_share_333 : decode cX5_share 333 = .ok (.dmul, 1) := by decide +kernel
theorem dX5_share_334 : decode cX5_share 334 = .ok (.dsub, 1) := by decide +kernel
theorem dX5_share_335 : decode cX5_share 335 = .ok (.dstore 6, 2) := by decide +kernel
theorem dX5_share_337 : decode cX5_share 337 = .ok (.iinc 8 1, 3) := by decide +kernel
theorem dX5_share_340 : decode cX5_share 340 = .ok (.goto (-36), 3) := by decide +kernel
theorem dX5_share_343 : decode cX5_share 343 = .ok (.aload_n 0, 1) := by decide +kernel
theorem dX5_share_344 : decode cX5_share 344 = .ok (.getfield 40, 3) := by decide +kernel
theorem dX5_share_347 : decode cX5_share 347 = .ok (.iload 5, 2) := by decide +kernel
theorem dX5_share_349 : decode cX5_share 349 = .ok (.dload 6, 2) := by decide +kernel
theorem dX5_share_351 : decode cX5_share 351 = .ok (.aload_n 0, 1) := by decide +kernel
theorem dX5_share_352 : decode cX5_share 352 = .ok (.getfield 33, 3) := by decide +kernel
theorem dX5_share_355 : decode cX5_share 355 = .ok (.bipush 10, 2) := by decide +kernel
theorem dX5_share_357 : decode cX5_share 357 = .ok (.iload 5, 2) := by decide +kernel
theorem dX5_share_359 : decode cX5_share 359 = .ok (.imul, 1) := by decide +kernel
theorem dX5_share_360 : decode cX5_share 360 = .ok (.daload, 1) := by decide +kernel
theorem dX5_share_361 : decode cX5_share 361 = .ok (.ddiv, 1) := by decide +kernel
theorem dX5_share_362 : decode cX5_share 362 = .ok (.dastore, 1) := by decide +kernel
theorem dX5_share_363 : decode cX5_share 363 = .ok (.iinc 5 (-1), 3) := by decide +kernel
theorem dX5_share_366 : decode cX5_share 366 = .ok (.goto (-82), 3) := by decide +kernel
theorem dX5_share_369 : decode cX5_share 369 = .ok (.aload_n 0, 1) := by decide +kernel
theorem dX5_share_370 : decode cX5_share 370 = .ok (.getfield 40, 3) := by decide +kernel
theorem dX5_share_373 : decode cX5_share 373 = .ok (.iload_n 2, 1) := by decide +kernel
theorem dX5_share_374 : decode cX5_share 374 = .ok (.daload, 1) := by decide +kernel
theorem dX5_share_375 : decode cX5_share 375 = .ok (.dreturn, 1) := by decide +kernel
theorem dX5_word_0 : decode cX5_word 0 = .ok (.iload_n 1, 1) := by decide +kernel
theorem dX5_word_1 : decode cX5_word 1 = .ok (.lookupswitch 60 #[(0, 27), (1, 43)], 27) := by decide +kernel
theorem dX5_word_28 : decode cX5_word 28 = .ok (.iload_n 2, 1) := by decide +kernel
theorem dX5_word_29 : decode cX5_word 29 = .ok (.iconst 5, 1) := by decide +kernel
theorem dX5_word_30 : decode cX5_word 30 = .ok (.if_icmp .ge 12, 3) := by decide +kernel
theorem dX5_word_33 : decode cX5_word 33 = .ok (.ldc 126, 2) := by decide +kernel
theorem dX5_word_35 : decode cX5_word 35 = .ok (.iload_n 2, 1) := by decide +kernel
theorem dX5_word_36 : decode cX5_word 36 = .ok (.invokevirtual 128, 3) := by decide +kernel
theorem dX5_word_39 : decode cX5_word 39 = .ok (.goto 4, 3) := by decide +kernel
theorem dX5_word_42 : decode cX5_word 42 = .ok (.iconst 0, 1) := by decide +kernel
theorem dX5_word_43 : decode cX5_word 43 = .ok (.ireturn, 1) := by decide +kernel
theorem dX5_word_44 : decode cX5_word 44 = .ok (.iload_n 2, 1) := by decide +kernel
theorem dX5_word_45 : decode cX5_word 45 = .ok (.bipush 7, 2) := by decide +kernel
theorem dX5_word_47 : decode cX5_word 47 = .ok (.if_icmp .ge 12, 3) := by decide +kernel
theorem dX5_word_50 : decode cX5_word 50 = .ok (.ldc 134, 2) := by decide +kernel
theorem dX5_word_52 : decode cX5_word 52 = .ok (.iload_n 2, 1) := by decide +kernel
theorem dX5_word_53 : decode cX5_word 53 = .ok (.invokevirtual 128, 3) := by decide +kernel
theorem dX5_word_56 : decode cX5_word 56 = .ok (.goto 4, 3) := by decide +kernel
theorem dX5_word_59 : decode cX5_word 59 = .ok (.iconst 0, 1) := by decide +kernel
theorem dX5_word_60 : decode cX5_word 60 = .ok (.ireturn, 1) := by decide +kernel
theorem dX5_word_61 : decode cX5_word 61 = .ok (.iload_n 2, 1) := by decide +kernel
theorem dX5_word_62 : decode cX5_word 62 = .ok (.bipush 7, 2) := by decide +kernel
theorem dX5_word_64 : decode cX5_word 64 = .ok (.if_icmp .ge 12, 3) := by decide +kernel
theorem dX5_word_67 : decode cX5_word 67 = .ok (.ldc 136, 2) := by decide +kernel
theorem dX5_word_69 : decode cX5_word 69 = .ok (.iload_n 2, 1) := by decide +kernel
theorem dX5_word_70 : decode cX5_word 70 = .ok (.invokevirtual 128, 3) := by decide +kernel
theorem dX5_word_73 : decode cX5_word 73 = .ok (.goto 4, 3) := by decide +kernel
theorem dX5_word_76 : decode cX5_word 76 = .ok (.iconst 0, 1) := by decide +kernel
theorem dX5_word_77 : decode cX5_word 77 = .ok (.ireturn, 1) := by decide +kernel
theorem dX5_text_0 : decode cX5_text 0 = .ok (.aload_n 0, 1) := by decide +kernel
theorem dX5_text_1 : decode cX5_text 1 = .ok (.aload_n 0, 1) := by decide +kernel
theorem dX5_text_2 : decode cX5_text 2 = .ok (.iload_n 1, 1) := by decide +kernel
theorem dX5_text_3 : decode cX5_text 3 = .ok (.iload_n 2, 1) := by decide +kernel
theorem dX5_text_4 : decode cX5_text 4 = .ok (.invokevirtual 98, 3) := by decide +kernel
theorem dX5_text_7 : decode cX5_text 7 = .ok (.ifCond .eq 11, 3) := by decide +kernel
theorem dX5_text_10 : decode cX5_text 10 = .ok (.iload_n 3, 1) := by decide +kernel
theorem dX5_text_11 : decode cX5_text 11 = .ok (.ifCond .lt 7, 3) := by decide +kernel
theorem dX5_text_14 : decode cX5_text 14 = .ok (.iconst 0, 1) := by decide +kernel
theorem dX5_text_15 : decode cX5_text 15 = .ok (.goto 4, 3) := by decide +kernel
theorem dX5_text_18 : decode cX5_text 18 = .ok (.iconst 1, 1) := by decide +kernel
theorem dX5_text_19 : decode cX5_text 19 = .ok (.invokevirtual 102, 3) := by decide +kernel
theorem dX5_text_22 : decode cX5_text 22 = .ok (.ifCond .eq 5, 3) := by decide +kernel
theorem dX5_text_25 : decode cX5_text 25 = .ok (.iconst 0, 1) := by decide +kernel
theorem dX5_text_26 : decode cX5_text 26 = .ok (.ireturn, 1) := by decide +kernel
theorem dX5_text_27 : decode cX5_text 27 = .ok (.aload_n 0, 1) := by decide +kernel
theorem dX5_text_28 : decode cX5_text 28 = .ok (.getfield 7, 3) := by decide +kernel
theorem dX5_text_31 : decode cX5_text 31 = .ok (.iconst 5, 1) := by decide +kernel
theorem dX5_text_32 : decode cX5_text 32 = .ok (.iload_n 1, 1) := by decide +kernel
theorem dX5_text_33 : decode cX5_text 33 = .ok (.imul, 1) := by decide +kernel
theorem dX5_text_34 : decode cX5_text 34 = .ok (.iload_n 2, 1) := by decide +kernel
theorem dX5_text_35 : decode cX5_text 35 = .ok (.iadd, 1) := by decide +kernel
theorem dX5_text_36 : decode cX5_text 36 = .ok (.iaload, 1) := by decide +kernel
theorem dX5_text_37 : decode cX5_text 37 = .ok (.istore 4, 2) := by decide +kernel
theorem dX5_text_39 : decode cX5_text 39 = .ok (.iload 4, 2) := by decide +kernel
theorem dX5_text_41 : decode cX5_text 41 = .ok (.ifCond .ne 19, 3) := by decide +kernel
theorem dX5_text_44 : decode cX5_text 44 = .ok (.iload_n 3, 1) := by decide +kernel
theorem dX5_text_45 : decode cX5_text 45 = .ok (.iconst 4, 1) := by decide +kernel
theorem dX5_text_46 : decode cX5_text 46 = .ok (.if_icmp .ge 12, 3) := by decide +kernel
theorem dX5_text_49 : decode cX5_text 49 = .ok (.ldc 138, 2) := by decide +kernel
theorem dX5_text_51 : decode cX5_text 51 = .ok (.iload_n 3, 1) := by decide +kernel
theorem dX5_text_52 : decode cX5_text 52 = .ok (.invokevirtual 128, 3) := by decide +kernel
theorem dX5_text_55 : decode cX5_text 55 = .ok (.goto 4, 3) := by decide +kernel
theorem dX5_text_58 : decode cX5_text 58 = .ok (.iconst 0, 1) := by decide +kernel
theorem dX5_text_59 : decode cX5_text 59 = .ok (.ireturn, 1) := by decide +kernel
theorem dX5_text_60 : decode cX5_text 60 = .ok (.iload 4, 2) := by decide +kernel
theorem dX5_text_62 : decode cX5_text 62 = .ok (.bipush 9, 2) := by decide +kernel
theorem dX5_text_64 : decode cX5_text 64 = .ok (.if_icmp .le 7, 3) := by decide +kernel
theorem dX5_text_67 : decode cX5_text 67 = .ok (.iconst 2, 1) := by decide +kernel
theorem dX5_text_68 : decode cX5_text 68 = .ok (.goto 4, 3) := by decide +kernel
theorem dX5_text_71 : decode cX5_text 71 = .ok (.iconst 1, 1) := by decide +kernel
theorem dX5_text_72 : decode cX5_text 72 = .ok (.istore 5, 2) := by decide +kernel
theorem dX5_text_74 : decode cX5_text 74 = .ok (.iload_n 3, 1) := by decide +kernel
theorem dX5_text_75 : decode cX5_text 75 = .ok (.tableswitch 86 0 6 #[41, 44, 50, 53, 56, 62, 65], 41) := by decide +kernel
theorem dX5_text_116 : decode cX5_text 116 = .ok (.bipush 114, 2) := by decide +kernel
theorem dX5_text_118 : decode cX5_text 118 = .ok (.ireturn, 1) := by decide +kernel
theorem dX5_text_119 : decode cX5_text 119 = .ok (.bipush 48, 2) := by decide +kernel
theorem dX5_text_121 : decode cX5_text 121 = .ok (.iload_n 1, 1) := by decide +kernel
theorem dX5_text_122 : decode cX5_text 122 = .ok (.iadd, 1) := by decide +kernel
theorem dX5_text_123 : decode cX5_text 123 = .ok (.i2c, 1) := by decide +kernel
theorem dX5_text_124 : decode cX5_text 124 = .ok (.ireturn, 1) := by decide +kernel
theorem dX5_text_125 : decode cX5_text 125 = .ok (.bipush 45, 2) := by decide +kernel
theorem dX5_text_127 : decode cX5_text 127 = .ok (.ireturn, 1) := by decide +kernel
theorem dX5_text_128 : decode cX5_text 128 = .ok (.bipush 98, 2) := by decide +kernel
theorem dX5_text_130 : decode cX5_text 130 = .ok (.ireturn, 1) := by decide +kernel
theorem dX5_text_131 : decode cX5_text 131 = .ok (.bipush 48, 2) := by decide +kernel
theorem dX5_text_133 : decode cX5_text 133 = .ok (.iload_n 2, 1) := by decide +kernel
theorem dX5_text_134 : decode cX5_text 134 = .ok (.iadd, 1) := by decide +kernel
theorem dX5_text_135 : decode cX5_text 135 = .ok (.i2c, 1) := by decide +kernel
theorem dX5_text_136 : decode cX5_text 136 = .ok (.ireturn, 1) := by decide +kernel
theorem dX5_text_137 : decode cX5_text 137 = .ok (.bipush 58, 2) := by decide +kernel
theorem dX5_text_139 : decode cX5_text 139 = .ok (.ireturn, 1) := by decide +kernel
theorem dX5_text_140 : decode cX5_text 140 = .ok (.bipush 48, 2) := by decide +kernel
theorem dX5_text_142 : decode cX5_text 142 = .ok (.iload 5, 2) := by decide +kernel
theorem dX5_text_144 : decode cX5_text 144 = .ok (.iconst 2, 1) := by decide +kernel
theorem dX5_text_145 : decode cX5_text 145 = .ok (.if_icmp .ne 11, 3) := by decide +kernel
theorem dX5_text_148 : decode cX5_text 148 = .ok (.iload 4, 2) := by decide +kernel
theorem dX5_text_150 : decode cX5_text 150 = .ok (.bipush 10, 2) := by decide +kernel
theorem dX5_text_152 : decode cX5_text 152 = .ok (.idiv, 1) := by decide +kernel
theorem dX5_text_153 : decode cX5_text 153 = .ok (.goto 5, 3) := by decide +kernel
theorem dX5_text_156 : decode cX5_text 156 = .ok (.iload 4, 2) := by decide +kernel
theorem dX5_text_158 : decode cX5_text 158 = .ok (.iadd, 1) := by decide +kernel
theorem dX5_text_159 : decode cX5_text 159 = .ok (.i2c, 1) := by decide +kernel
theorem dX5_text_160 : decode cX5_text 160 = .ok (.ireturn, 1) := by decide +kernel
theorem dX5_text_161 : decode cX5_text 161 = .ok (.iload 5, 2) := by decide +kernel
theorem dX5_text_163 : decode cX5_text 163 = .ok (.iconst 2, 1) := by decide +kernel
theorem dX5_text_164 : decode cX5_text 164 = .ok (.if_icmp .ne 21, 3) := by decide +kernel
theorem dX5_text_167 : decode cX5_text 167 = .ok (.iload_n 3, 1) := by decide +kernel
theorem dX5_text_168 : decode cX5_text 168 = .ok (.bipush 7, 2) := by decide +kernel
theorem dX5_text_170 : decode cX5_text 170 = .ok (.if_icmp .ne 15, 3) := by decide +kernel
theorem dX5_text_173 : decode cX5_text 173 = .ok (.bipush 48, 2) := by decide +kernel
theorem dX5_text_175 : decode cX5_text 175 = .ok (.iload 4, 2) := by decide +kernel
theorem dX5_text_177 : decode cX5_text 177 = .ok (.bipush 10, 2) := by decide +kernel
theorem dX5_text_179 : decode cX5_text 179 = .ok (.irem, 1) := by decide +kernel
theorem dX5_text_180 : decode cX5_text 180 = .ok (.iadd, 1) := by decide +kernel
theorem dX5_text_181 : decode cX5_text 181 = .ok (.i2c, 1) := by decide +kernel
theorem dX5_text_182 : decode cX5_text 182 = .ok (.goto 20, 3) := by decide +kernel
theorem dX5_text_185 : decode cX5_text 185 = .ok (.aload_n 0, 1) := by decide +kernel
theorem dX5_text_186 : decode cX5_text 186 = .ok (.aload_n 0, 1) := by decide +kernel
theorem dX5_text_187 : decode cX5_text 187 = .ok (.getfield 13, 3) := by decide +kernel
theorem dX5_text_190 : decode cX5_text 190 = .ok (.iload_n 2, 1) := by decide +kernel
theorem dX5_text_191 : decode cX5_text 191 = .ok (.iaload, 1) := by decide +kernel
theorem dX5_text_192 : decode cX5_text 192 = .ok (.iload_n 3, 1) := by decide +kernel
theorem dX5_text_193 : decode cX5_text 193 = .ok (.bipush 6, 2) := by decide +kernel
theorem dX5_text_195 : decode cX5_text 195 = .ok (.isub, 1) := by decide +kernel
theorem dX5_text_196 : decode cX5_text 196 = .ok (.iload 5, 2) := by decide +kernel
theorem dX5_text_198 : decode cX5_text 198 = .ok (.isub, 1) := by decide +kernel
theorem dX5_text_199 : decode cX5_text 199 = .ok (.invokevirtual 140, 3) := by decide +kernel
theorem dX5_text_202 : decode cX5_text 202 = .ok (.ireturn, 1) := by decide +kernel
theorem dJ5_init_d00df_0 : decode cJ5_init_d00df 0 = .ok (.aload_n 0, 1) := by decide +kernel
theorem dJ5_init_d00df_1 : decode cJ5_init_d00df 1 = .ok (.invokespecial 3, 3) := by decide +kernel
theorem dJ5_init_d00df_4 : decode cJ5_init_d00df 4 = .ok (.getstatic 18, 3) := by decide +kernel
theorem dJ5_init_d00df_7 : decode cJ5_init_d00df 7 = .ok (.ifCond .eq 18, 3) := by decide +kernel
theorem dJ5_init_d00df_10 : decode cJ5_init_d00df 10 = .ok (.aload_n 0, 1) := by decide +kernel
theorem dJ5_init_d00df_11 : decode cJ5_init_d00df 11 = .ok (.iload_n 1, 1) := by decide +kernel
theorem dJ5_init_d00df_12 : decode cJ5_init_d00df 12 = .ok (.newarray .byte, 2) := by decide +kernel
theorem dJ5_init_d00df_14 : decode cJ5_init_d00df 14 = .ok (.putfield 15, 3) := by decide +kernel
theorem dJ5_init_d00df_17 : decode cJ5_init_d00df 17 = .ok (.aload_n 0, 1) := by decide +kernel
theorem dJ5_init_d00df_18 : decode cJ5_init_d00df 18 = .ok (.iconst 0, 1) := by decide +kernel
theorem dJ5_init_d00df_19 : decode cJ5_init_d00df 19 = .ok (.putfield 22, 3) := by decide +kernel
theorem dJ5_init_d00df_22 : decode cJ5_init_d00df 22 = .ok (.goto 16, 3) := by decide +kernel
theorem dJ5_init_d00df_25 : decode cJ5_init_d00df 25 = .ok (.aload_n 0, 1) := by decide +kernel
theorem dJ5_init_d00df_26 : decode cJ5_init_d00df 26 = .ok (.iload_n 1, 1) := by decide +kernel
theorem dJ5_init_d00df_27 : decode cJ5_init_d00df 27 = .ok (.invokestatic 26, 3) := by decide +kernel
theorem dJ5_init_d00df_30 : decode cJ5_init_d00df 30 = .ok (.putfield 15, 3) := by decide +kernel
theorem dJ5_init_d00df_33 : decode cJ5_init_d00df 33 = .ok (.aload_n 0, 1) := by decide +kernel
theorem dJ5_init_d00df_34 : decode cJ5_init_d00df 34 = .ok (.iconst 1, 1) := by decide +kernel
theorem dJ5_init_d00df_35 : decode cJ5_init_d00df 35 = .ok (.putfield 22, 3) := by decide +kernel
theorem dJ5_init_d00df_38 : decode cJ5_init_d00df 38 = .ok (.return_, 1) := by decide +kernel
theorem dJ5_length_8abf5_0 : decode cJ5_length_8abf5 0 = .ok (.aload_n 0, 1) := by decide +kernel
theorem dJ5_length_8abf5_1 : decode cJ5_length_8abf5 1 = .ok (.getfield 79, 3) := by decide +kernel
theorem dJ5_length_8abf5_4 : decode cJ5_length_8abf5 4 = .ok (.ireturn, 1) := by decide +kernel
theorem dJ5_ensureCapacityInternal_d00df_0 : decode cJ5_ensureCapacityInternal_d00df 0 = .ok (.aload_n 0, 1) := by decide +kernel
theorem dJ5_ensureCapacityInternal_d00df_1 : decode cJ5_ensureCapacityInternal_d00df 1 = .ok (.getfield 15, 3) := by decide +kernel
theorem dJ5_ensureCapacityInternal_d00df_4 : decode cJ5_ensureCapacityInternal_d00df 4 = .ok (.arraylength, 1) := by decide +kernel
theorem dJ5_ensureCapacityInternal_d00df_5 : decode cJ5_ensureCapacityInternal_d00df 5 = .ok (.aload_n 0, 1) := by decide +kernel
theorem dJ5_ensureCapacityInternal_d00df_6 : decode cJ5_ensureCapacityInternal_d00df 6 = .ok (.getfield 22, 3) := by decide +kernel
theorem dJ5_ensureCapacityInternal_d00df_9 : decode cJ5_ensureCapacityInternal_d00df 9 = .ok (.ishr, 1) := by decide +kernel
theorem dJ5_ensureCapacityInternal_d00df_10 : decode cJ5_ensureCapacityInternal_d00df 10 = .ok (.istore_n 2, 1) := by decide +kernel
theorem dJ5_ensureCapacityInternal_d00df_11 : decode cJ5_ensureCapacityInternal_d00df 11 = .ok (.iload_n 1, 1) := by decide +kernel
theorem dJ5_ensureCapacityInternal_d00df_12 : decode cJ5_ensureCapacityInternal_d00df 12 = .ok (.iload_n 2, 1) := by decide +kernel
theorem dJ5_ensureCapacityInternal_d00df_13 : decode cJ5_ensureCapacityInternal_d00df 13 = .ok (.isub, 1) := by decide +kernel
theorem dJ5_ensureCapacityInternal_d00df_14 : decode cJ5_ensureCapacityInternal_d00df 14 = .ok (.ifCond .le 24, 3) := by decide +kernel
theorem dJ5_ensureCapacityInternal_d00df_17 : decode cJ5_ensureCapacityInternal_d00df 17 = .ok (.aload_n 0, 1) := by decide +kernel
theorem dJ5_ensureCapacityInternal_d00df_18 : decode cJ5_ensureCapacityInternal_d00df 18 = .ok (.aload_n 0, 1) := by decide +kernel
theorem dJ5_ensureCapacityInternal_d00df_19 : decode cJ5_ensureCapacityInternal_d00df 19 = .ok (.getfield 15, 3) := by decide +kernel
theorem dJ5_ensureCapacityInternal_d00df_22 : decode cJ5_ensureCapacityInternal_d00df 22 = .ok (.aload_n 0, 1) := by decide +kernel
theorem dJ5_ensureCapacityInternal_d00df_23 : decode cJ5_ensureCapacityInternal_d00df 23 = .ok (.iload_n 1, 1) := by decide +kernel
theorem dJ5_ensureCapacityInternal_d00df_24 : decode cJ5_ensureCapacityInternal_d00df 24 = .ok (.invokevirtual 104, 3) := by decide +kernel
theorem dJ5_ensureCapacityInternal_d00df_27 : decode cJ5_ensureCapacityInternal_d00df 27 = .ok (.aload_n 0, 1) := by decide +kernel
theorem dJ5_ensureCapacityInternal_d00df_28 : decode cJ5_ensureCapacityInternal_d00df 28 = .ok (.getfield 22, 3) := by decide +kernel
theorem dJ5_ensureCapacityInternal_d00df_31 : decode cJ5_ensureCapacityInternal_d00df 31 = .ok (.ishl, 1) := by decide +kernel
theorem dJ5_ensureCapacityInternal_d00df_32 : decode cJ5_ensureCapacityInternal_d00df 32 = .ok (.invokestatic 108, 3) := by decide +kernel
theorem dJ5_ensureCapacityInternal_d00df_35 : decode cJ5_ensureCapacityInternal_d00df 35 = .ok (.putfield 15, 3) := by decide +kernel
theorem dJ5_ensureCapacityInternal_d00df_38 : decode cJ5_ensureCapacityInternal_d00df 38 = .ok (.return_, 1) := by decide +kernel
theorem dJ5_newCapacity_0f7a4_0 : decode cJ5_newCapacity_0f7a4 0 = .ok (.aload_n 0, 1) := by decide +kernel
theorem dJ5_newCapacity_0f7a4_1 : decode cJ5_newCapacity_0f7a4 1 = .ok (.getfield 15, 3) := by decide +kernel
theorem dJ5_newCapacity_0f7a4_4 : decode cJ5_newCapacity_0f7a4 4 = .ok (.arraylength, 1) := by decide +kernel
theorem dJ5_newCapacity_0f7a4_5 : decode cJ5_newCapacity_0f7a4 5 = .ok (.istore_n 2, 1) := by decide +kernel
theorem dJ5_newCapacity_0f7a4_6 : decode cJ5_newCapacity_0f7a4 6 = .ok (.iload_n 1, 1) := by decide +kernel
theorem dJ5_newCapacity_0f7a4_7 : decode cJ5_newCapacity_0f7a4 7 = .ok (.aload_n 0, 1) := by decide +kernel
theorem dJ5_newCapacity_0f7a4_8 : decode cJ5_newCapacity_0f7a4 8 = .ok (.getfield 22, 3) := by decide +kernel
theorem dJ5_newCapacity_0f7a4_11 : decode cJ5_newCapacity_0f7a4 11 = .ok (.ishl, 1) := by decide +kernel
theorem dJ5_newCapacity_0f7a4_12 : decode cJ5_newCapacity_0f7a4 12 = .ok (.istore_n 3, 1) := by decide +kernel
theorem dJ5_newCapacity_0f7a4_13 : decode cJ5_newCapacity_0f7a4 13 = .ok (.iload_n 3, 1) := by decide +kernel
theorem dJ5_newCapacity_0f7a4_14 : decode cJ5_newCapacity_0f7a4 14 = .ok (.iload_n 2, 1) := by decide +kernel
theorem dJ5_newCapacity_0f7a4_15 : decode cJ5_newCapacity_0f7a4 15 = .ok (.isub, 1) := by decide +kernel
theorem dJ5_newCapacity_0f7a4_16 : decode cJ5_newCapacity_0f7a4 16 = .ok (.istore 4, 2) := by decide +kernel
theorem dJ5_newCapacity_0f7a4_18 : decode cJ5_newCapacity_0f7a4 18 = .ok (.iload_n 2, 1) := by decide +kernel
theorem dJ5_newCapacity_0f7a4_19 : decode cJ5_newCapacity_0f7a4 19 = .ok (.iload 4, 2) := by decide +kernel
theorem dJ5_newCapacity_0f7a4_21 : decode cJ5_newCapacity_0f7a4 21 = .ok (.iload_n 2, 1) := by decide +kernel
theorem dJ5_newCapacity_0f7a4_22 : decode cJ5_newCapacity_0f7a4 22 = .ok (.iconst 2, 1) := by decide +kernel
theorem dJ5_newCapacity_0f7a4_23 : decode cJ5_newCapacity_0f7a4 23 = .ok (.aload_n 0, 1) := by decide +kernel
theorem dJ5_newCapacity_0f7a4_24 : decode cJ5_newCapacity_0f7a4 24 = .ok (.getfield 22, 3) := by decide +kernel
theorem dJ5_newCapacity_0f7a4_27 : decode cJ5_newCapacity_0f7a4 27 = .ok (.ishl, 1) := by decide +kernel
theorem dJ5_newCapacity_0f7a4_28 : decode cJ5_newCapacity_0f7a4 28 = .ok (.iadd, 1) := by decide +kernel
theorem dJ5_newCapacity_0f7a4_29 : decode cJ5_newCapacity_0f7a4 29 = .ok (.invokestatic 114, 3) := by decide +kernel
theorem dJ5_newCapacity_0f7a4_32 : decode cJ5_newCapacity_0f7a4 32 = .ok (.istore 5, 2) := by decide +kernel
theorem dJ5_newCapacity_0f7a4_34 : decode cJ5_newCapacity_0f7a4 34 = .ok (.iload 5, 2) := by decide +kernel
theorem dJ5_newCapacity_0f7a4_36 : decode cJ5_newCapacity_0f7a4 36 = .ok (.ldc 39, 2) := by decide +kernel
theorem dJ5_newCapacity_0f7a4_38 : decode cJ5_newCapacity_0f7a4 38 = .ok (.if_icmp .ne 13, 3) := by decide +kernel
theorem dJ5_newCapacity_0f7a4_41 : decode cJ5_newCapacity_0f7a4 41 = .ok (.new 120, 3) := by decide +kernel
theorem dJ5_newCapacity_0f7a4_44 : decode cJ5_newCapacity_0f7a4 44 = .ok (.dup, 1) := by decide +kernel
theorem dJ5_newCapacity_0f7a4_45 : decode cJ5_newCapacity_0f7a4 45 = .ok (.ldc 122, 2) := by decide +kernel
theorem dJ5_newCapacity_0f7a4_47 : decode cJ5_newCapacity_0f7a4 47 = .ok (.invokespecial 124, 3) := by decide +kernel
theorem dJ5_newCapacity_0f7a4_50 : decode cJ5_newCapacity_0f7a4 50 = .ok (.athrow, 1) := by decide +kernel
theorem dJ5_newCapacity_0f7a4_51 : decode cJ5_newCapacity_0f7a4 51 = .ok (.iload 5, 2) := by decide +kernel
theorem dJ5_newCapacity_0f7a4_53 : decode cJ5_newCapacity_0f7a4 53 = .ok (.aload_n 0, 1) := by decide +kernel
theorem dJ5_newCapacity_0f7a4_54 : decode cJ5_newCapacity_0f7a4 54 = .ok (.getfield 22, 3) := by decide +kernel
theorem dJ5_newCapacity_0f7a4_57 : decode cJ5_newCapacity_0f7a4 57 = .ok (.ishr, 1) := by decide +kernel
theorem dJ5_newCapacity_0f7a4_58 : decode cJ5_newCapacity_0f7a4 58 = .ok (.ireturn, 1) := by decide +kernel
theorem dJ5_inflate_da8c8_0 : decode cJ5_inflate_da8c8 0 = .ok (.aload_n 0, 1) := by decide +kernel
theorem dJ5_inflate_da8c8_1 : decode cJ5_inflate_da8c8 1 = .ok (.invokevirtual 83, 3) := by decide +kernel
theorem dJ5_inflate_da8c8_4 : decode cJ5_inflate_da8c8 4 = .ok (.ifCond .ne 4, 3) := by decide +kernel
theorem dJ5_inflate_da8c8_7 : decode cJ5_inflate_da8c8 7 = .ok (.return_, 1) := by decide +kernel
theorem dJ5_inflate_da8c8_8 : decode cJ5_inflate_da8c8 8 = .ok (.aload_n 0, 1) := by decide +kernel
theorem dJ5_inflate_da8c8_9 : decode cJ5_inflate_da8c8 9 = .ok (.getfield 15, 3) := by decide +kernel
theorem dJ5_inflate_da8c8_12 : decode cJ5_inflate_da8c8 12 = .ok (.arraylength, 1) := by decide +kernel
theorem dJ5_inflate_da8c8_13 : decode cJ5_inflate_da8c8 13 = .ok (.invokestatic 26, 3) := by decide +kernel
theorem dJ5_inflate_da8c8_16 : decode cJ5_inflate_da8c8 16 = .ok (.astore_n 1, 1) := by decide +kernel
theorem dJ5_inflate_da8c8_17 : decode cJ5_inflate_da8c8 17 = .ok (.aload_n 0, 1) := by decide +kernel
theorem dJ5_inflate_da8c8_18 : decode cJ5_inflate_da8c8 18 = .ok (.getfield 15, 3) := by decide +kernel
theorem dJ5_inflate_da8c8_21 : decode cJ5_inflate_da8c8 21 = .ok (.iconst 0, 1) := by decide +kernel
theorem dJ5_inflate_da8c8_22 : decode cJ5_inflate_da8c8 22 = .ok (.aload_n 1, 1) := by decide +kernel
theorem dJ5_inflate_da8c8_23 : decode cJ5_inflate_da8c8 23 = .ok (.iconst 0, 1) := by decide +kernel
theorem dJ5_inflate_da8c8_24 : decode cJ5_inflate_da8c8 24 = .ok (.aload_n 0, 1) := by decide +kernel
theorem dJ5_inflate_da8c8_25 : decode cJ5_inflate_da8c8 25 = .ok (.getfield 79, 3) := by decide +kernel
theorem dJ5_inflate_da8c8_28 : decode cJ5_inflate_da8c8 28 = .ok (.invokestatic 125, 3) := by decide +kernel
theorem dJ5_inflate_da8c8_31 : decode cJ5_inflate_da8c8 31 = .ok (.aload_n 0, 1) := by decide +kernel
theorem dJ5_inflate_da8c8_32 : decode cJ5_inflate_da8c8 32 = .ok (.aload_n 1, 1) := by decide +kernel
theorem dJ5_inflate_da8c8_33 : decode cJ5_inflate_da8c8 33 = .ok (.putfield 15, 3) := by decide +kernel
theorem dJ5_inflate_da8c8_36 : decode cJ5_inflate_da8c8 36 = .ok (.aload_n 0, 1) := by decide +kernel
theorem dJ5_inflate_da8c8_37 : decode cJ5_inflate_da8c8 37 = .ok (.iconst 1, 1) := by decide +kernel
theorem dJ5_inflate_da8c8_38 : decode cJ5_inflate_da8c8 38 = .ok (.putfield 22, 3) := by decide +kernel
theorem dJ5_inflate_da8c8_41 : decode cJ5_inflate_da8c8 41 = .ok (.return_, 1) := by decide +kernel
theorem dJ5_setLength_d00df_0 : decode cJ5_setLength_d00df 0 = .ok (.iload_n 1, 1) := by decide +kernel
theorem dJ5_setLength_d00df_1 : decode cJ5_setLength_d00df 1 = .ok (.ifCond .ge 12, 3) := by decide +kernel
theorem dJ5_setLength_d00df_4 : decode cJ5_setLength_d00df 4 = .ok (.new 129, 3) := by decide +kernel
theorem dJ5_setLength_d00df_7 : decode cJ5_setLength_d00df 7 = .ok (.dup, 1) := by decide +kernel
theorem dJ5_setLength_d00df_8 : decode cJ5_setLength_d00df 8 = .ok (.iload_n 1, 1) := by decide +kernel
theorem dJ5_setLength_d00df_9 : decode cJ5_setLength_d00df 9 = .ok (.invokespecial 131, 3) := by decide +kernel
theorem dJ5_setLength_d00df_12 : decode cJ5_setLength_d00df 12 = .ok (.athrow, 1) := by decide +kernel
theorem dJ5_setLength_d00df_13 : decode cJ5_setLength_d00df 13 = .ok (.aload_n 0, 1) := by decide +kernel
theorem dJ5_setLength_d00df_14 : decode cJ5_setLength_d00df 14 = .ok (.iload_n 1, 1) := by decide +kernel
theorem dJ5_setLength_d00df_15 : decode cJ5_setLength_d00df 15 = .ok (.invokevirtual 100, 3) := by decide +kernel
theorem dJ5_setLength_d00df_18 : decode cJ5_setLength_d00df 18 = .ok (.aload_n 0, 1) := by decide +kernel
theorem dJ5_setLength_d00df_19 : decode cJ5_setLength_d00df 19 = .ok (.getfield 79, 3) := by decide +kernel
theorem dJ5_setLength_d00df_22 : decode cJ5_setLength_d00df 22 = .ok (.iload_n 1, 1) := by decide +kernel
theorem dJ5_setLength_d00df_23 : decode cJ5_setLength_d00df 23 = .ok (.if_icmp .ge 40, 3) := by decide +kernel
theorem dJ5_setLength_d00df_26 : decode cJ5_setLength_d00df 26 = .ok (.aload_n 0, 1) := by decide +kernel
theorem dJ5_setLength_d00df_27 : decode cJ5_setLength_d00df 27 = .ok (.invokevirtual 83, 3) := by decide +kernel
theorem dJ5_setLength_d00df_30 : decode cJ5_setLength_d00df 30 = .ok (.ifCond .eq 18, 3) := by decide +kernel
theorem dJ5_setLength_d00df_33 : decode cJ5_setLength_d00df 33 = .ok (.aload_n 0, 1) := by decide +kernel
theorem dJ5_setLength_d00df_34 : decode cJ5_setLength_d00df 34 = .ok (.getfield 15, 3) := by decide +kernel
theorem dJ5_setLength_d00df_37 : decode cJ5_setLength_d00df 37 = .ok (.aload_n 0, 1) := by decide +kernel
theorem dJ5_setLength_d00df_38 : decode cJ5_setLength_d00df 38 = .ok (.getfield 79, 3) := by decide +kernel
theorem dJ5_setLength_d00df_41 : decode cJ5_setLength_d00df 41 = .ok (.iload_n 1, 1) := by decide +kernel
theorem dJ5_setLength_d00df_42 : decode cJ5_setLength_d00df 42 = .ok (.invokestatic 133, 3) := by decide +kernel
theorem dJ5_setLength_d00df_45 : decode cJ5_setLength_d00df 45 = .ok (.goto 31, 3) := by decide +kernel
theorem dJ5_setLength_d00df_48 : decode cJ5_setLength_d00df 48 = .ok (.aload_n 0, 1) := by decide +kernel
theorem dJ5_setLength_d00df_49 : decode cJ5_setLength_d00df 49 = .ok (.getfield 15, 3) := by decide +kernel
theorem dJ5_setLength_d00df_52 : decode cJ5_setLength_d00df 52 = .ok (.aload_n 0, 1) := by decide +kernel
theorem dJ5_setLength_d00df_53 : decode cJ5_setLength_d00df 53 = .ok (.getfield 79, 3) := by decide +kernel
theorem dJ5_setLength_d00df_56 : decode cJ5_setLength_d00df 56 = .ok (.iload_n 1, 1) := by decide +kernel
theorem dJ5_setLength_d00df_57 : decode cJ5_setLength_d00df 57 = .ok (.invokestatic 137, 3) := by decide +kernel
theorem dJ5_setLength_d00df_60 : decode cJ5_setLength_d00df 60 = .ok (.goto 16, 3) := by decide +kernel
theorem dJ5_setLength_d00df_63 : decode cJ5_setLength_d00df 63 = .ok (.aload_n 0, 1) := by decide +kernel
theorem dJ5_setLength_d00df_64 : decode cJ5_setLength_d00df 64 = .ok (.getfield 79, 3) := by decide +kernel
theorem dJ5_setLength_d00df_67 : decode cJ5_setLength_d00df 67 = .ok (.iload_n 1, 1) := by decide +kernel
theorem dJ5_setLength_d00df_68 : decode cJ5_setLength_d00df 68 = .ok (.if_icmp .le 8, 3) := by decide +kernel
theorem dJ5_setLength_d00df_71 : decode cJ5_setLength_d00df 71 = .ok (.aload_n 0, 1) := by decide +kernel
theorem dJ5_setLength_d00df_72 : decode cJ5_setLength_d00df 72 = .ok (.iconst 1, 1) := by decide +kernel
theorem dJ5_setLength_d00df_73 : decode cJ5_setLength_d00df 73 = .ok (.putfield 73, 3) := by decide +kernel
theorem dJ5_setLength_d00df_76 : decode cJ5_setLength_d00df 76 = .ok (.aload_n 0, 1) := by decide +kernel
theorem dJ5_setLength_d00df_77 : decode cJ5_setLength_d00df 77 = .ok (.iload_n 1, 1) := by decide +kernel
theorem dJ5_setLength_d00df_78 : decode cJ5_setLength_d00df 78 = .ok (.putfield 79, 3) := by decide +kernel
theorem dJ5_setLength_d00df_81 : decode cJ5_setLength_d00df 81 = .ok (.return_, 1) := by decide +kernel
theorem dJ5_charAt_5068e_0 : decode cJ5_charAt_5068e 0 = .ok (.aload_n 0, 1) := by decide +kernel
theorem dJ5_charAt_5068e_1 : decode cJ5_charAt_5068e 1 = .ok (.getfield 22, 3) := by decide +kernel
theorem dJ5_charAt_5068e_4 : decode cJ5_charAt_5068e 4 = .ok (.istore_n 2, 1) := by decide +kernel
theorem dJ5_charAt_5068e_5 : decode cJ5_charAt_5068e 5 = .ok (.aload_n 0, 1) := by decide +kernel
theorem dJ5_charAt_5068e_6 : decode cJ5_charAt_5068e 6 = .ok (.getfield 15, 3) := by decide +kernel
theorem dJ5_charAt_5068e_9 : decode cJ5_charAt_5068e 9 = .ok (.astore_n 3, 1) := by decide +kernel
theorem dJ5_charAt_5068e_10 : decode cJ5_charAt_5068e 10 = .ok (.aload_n 0, 1) := by decide +kernel
theorem dJ5_charAt_5068e_11 : decode cJ5_charAt_5068e 11 = .ok (.getfield 79, 3) := by decide +kernel
theorem dJ5_charAt_5068e_14 : decode cJ5_charAt_5068e 14 = .ok (.aload_n 3, 1) := by decide +kernel
theorem dJ5_charAt_5068e_15 : decode cJ5_charAt_5068e 15 = .ok (.arraylength, 1) := by decide +kernel
theorem dJ5_charAt_5068e_16 : decode cJ5_charAt_5068e 16 = .ok (.iload_n 2, 1) := by decide +kernel
theorem dJ5_charAt_5068e_17 : decode cJ5_charAt_5068e 17 = .ok (.ishr, 1) := by decide +kernel
theorem dJ5_charAt_5068e_18 : decode cJ5_charAt_5068e 18 = .ok (.invokestatic 138, 3) := by decide +kernel
theorem dJ5_charAt_5068e_21 : decode cJ5_charAt_5068e 21 = .ok (.istore 4, 2) := by decide +kernel
theorem dJ5_charAt_5068e_23 : decode cJ5_charAt_5068e 23 = .ok (.iload_n 1, 1) := by decide +kernel
theorem dJ5_charAt_5068e_24 : decode cJ5_charAt_5068e 24 = .ok (.iload 4, 2) := by decide +kernel
theorem dJ5_charAt_5068e_26 : decode cJ5_charAt_5068e 26 = .ok (.invokestatic 144, 3) := by decide +kernel
theorem dJ5_charAt_5068e_29 : decode cJ5_charAt_5068e 29 = .ok (.iload_n 2, 1) := by decide +kernel
theorem dJ5_charAt_5068e_30 : decode cJ5_charAt_5068e 30 = .ok (.ifCond .ne 12, 3) := by decide +kernel
theorem dJ5_charAt_5068e_33 : decode cJ5_charAt_5068e 33 = .ok (.aload_n 3, 1) := by decide +kernel
theorem dJ5_charAt_5068e_34 : decode cJ5_charAt_5068e 34 = .ok (.iload_n 1, 1) := by decide +kernel
theorem dJ5_charAt_5068e_35 : decode cJ5_charAt_5068e 35 = .ok (.baload, 1) := by decide +kernel
theorem dJ5_charAt_5068e_36 : decode cJ5_charAt_5068e 36 = .ok (.sipush 255, 3) := by decide +kernel
theorem dJ5_charAt_5068e_39 : decode cJ5_charAt_5068e 39 = .ok (.iand, 1) := by decide +kernel
theorem dJ5_charAt_5068e_40 : decode cJ5_charAt_5068e 40 = .ok (.i2c, 1) := by decide +kernel
theorem dJ5_charAt_5068e_41 : decode cJ5_charAt_5068e 41 = .ok (.ireturn, 1) := by decide +kernel
theorem dJ5_charAt_5068e_42 : decode cJ5_charAt_5068e 42 = .ok (.aload_n 3, 1) := by decide +kernel
theorem dJ5_charAt_5068e_43 : decode cJ5_charAt_5068e 43 = .ok (.iload_n 1, 1) := by decide +kernel
theorem dJ5_charAt_5068e_44 : decode cJ5_charAt_5068e 44 = .ok (.invokestatic 148, 3) := by decide +kernel
theorem dJ5_charAt_5068e_47 : decode cJ5_charAt_5068e 47 = .ok (.ireturn, 1) := by decide +kernel
theorem dJ5_append_cf1ce_0 : decode cJ5_append_cf1ce 0 = .ok (.aload_n 1, 1) := by decide +kernel
theorem dJ5_append_cf1ce_1 : decode cJ5_append_cf1ce 1 = .ok (.ifnonnull 8, 3) := by decide +kernel
theorem dJ5_append_cf1ce_4 : decode cJ5_append_cf1ce 4 = .ok (.aload_n 0, 1) := by decide +kernel
theorem dJ5_append_cf1ce_5 : decode cJ5_append_cf1ce 5 = .ok (.invokevirtual 204, 3) := by decide +kernel
theorem dJ5_append_cf1ce_8 : decode cJ5_append_cf1ce 8 = .ok (.areturn, 1) := by decide +kernel
theorem dJ5_append_cf1ce_9 : decode cJ5_append_cf1ce 9 = .ok (.aload_n 1, 1) := by decide +kernel
theorem dJ5_append_cf1ce_10 : decode cJ5_append_cf1ce 10 = .ok (.invokevirtual 32, 3) := by decide +kernel
theorem dJ5_append_cf1ce_13 : decode cJ5_append_cf1ce 13 = .ok (.istore_n 2, 1) := by decide +kernel
theorem dJ5_append_cf1ce_14 : decode cJ5_append_cf1ce 14 = .ok (.aload_n 0, 1) := by decide +kernel
theorem dJ5_append_cf1ce_15 : decode cJ5_append_cf1ce 15 = .ok (.aload_n 0, 1) := by decide +kernel
theorem dJ5_append_cf1ce_16 : decode cJ5_append_cf1ce 16 = .ok (.getfield 79, 3) := by decide +kernel
theorem dJ5_append_cf1ce_19 : decode cJ5_append_cf1ce 19 = .ok (.iload_n 2, 1) := by decide +kernel
theorem dJ5_append_cf1ce_20 : decode cJ5_append_cf1ce 20 = .ok (.iadd, 1) := by decide +kernel
theorem dJ5_append_cf1ce_21 : decode cJ5_append_cf1ce 21 = .ok (.invokevirtual 100, 3) := by decide +kernel
theorem dJ5_append_cf1ce_24 : decode cJ5_append_cf1ce 24 = .ok (.aload_n 0, 1) := by decide +kernel
theorem dJ5_append_cf1ce_25 : decode cJ5_append_cf1ce 25 = .ok (.aload_n 0, 1) := by decide +kernel
theorem dJ5_append_cf1ce_26 : decode cJ5_append_cf1ce 26 = .ok (.getfield 79, 3) := by decide +kernel
theorem dJ5_append_cf1ce_29 : decode cJ5_append_cf1ce 29 = .ok (.aload_n 1, 1) := by decide +kernel
theorem dJ5_append_cf1ce_30 : decode cJ5_append_cf1ce 30 = .ok (.invokevirtual 208, 3) := by decide +kernel
theorem dJ5_append_cf1ce_33 : decode cJ5_append_cf1ce 33 = .ok (.aload_n 0, 1) := by decide +kernel
theorem dJ5_append_cf1ce_34 : decode cJ5_append_cf1ce 34 = .ok (.dup, 1) := by decide +kernel
theorem dJ5_append_cf1ce_35 : decode cJ5_append_cf1ce 35 = .ok (.getfield 79, 3) := by decide +kernel
theorem dJ5_append_cf1ce_38 : decode cJ5_append_cf1ce 38 = .ok (.iload_n 2, 1) := by decide +kernel
theorem dJ5_append_cf1ce_39 : decode cJ5_append_cf1ce 39 = .ok (.iadd, 1) := by decide +kernel
theorem dJ5_append_cf1ce_40 : decode cJ5_append_cf1ce 40 = .ok (.putfield 79, 3) := by decide +kernel
theorem dJ5_append_cf1ce_43 : decode cJ5_append_cf1ce 43 = .ok (.aload_n 0, 1) := by decide +kernel
theorem dJ5_append_cf1ce_44 : decode cJ5_append_cf1ce 44 = .ok (.areturn, 1) := by decide +kernel
theorem dJ5_appendNull_278bc_0 : decode cJ5_appendNull_278bc 0 = .ok (.aload_n 0, 1) := by decide +kernel
theorem dJ5_appendNull_278bc_1 : decode cJ5_appendNull_278bc 1 = .ok (.aload_n 0, 1) := by decide +kernel
theorem dJ5_appendNull_278bc_2 : decode cJ5_appendNull_278bc 2 = .ok (.getfield 79, 3) := by decide +kernel
theorem dJ5_appendNull_278bc_5 : decode cJ5_appendNull_278bc 5 = .ok (.iconst 4, 1) := by decide +kernel
theorem dJ5_appendNull_278bc_6 : decode cJ5_appendNull_278bc 6 = .ok (.iadd, 1) := by decide +kernel
theorem dJ5_appendNull_278bc_7 : decode cJ5_appendNull_278bc 7 = .ok (.invokevirtual 100, 3) := by decide +kernel
theorem dJ5_appendNull_278bc_10 : decode cJ5_appendNull_278bc 10 = .ok (.aload_n 0, 1) := by decide +kernel
theorem dJ5_appendNull_278bc_11 : decode cJ5_appendNull_278bc 11 = .ok (.getfield 79, 3) := by decide +kernel
theorem dJ5_appendNull_278bc_14 : decode cJ5_appendNull_278bc 14 = .ok (.istore_n 1, 1) := by decide +kernel
theorem dJ5_appendNull_278bc_15 : decode cJ5_appendNull_278bc 15 = .ok (.aload_n 0, 1) := by decide +kernel
theorem dJ5_appendNull_278bc_16 : decode cJ5_appendNull_278bc 16 = .ok (.getfield 15, 3) := by decide +kernel
theorem dJ5_appendNull_278bc_19 : decode cJ5_appendNull_278bc 19 = .ok (.astore_n 2, 1) := by decide +kernel
theorem dJ5_appendNull_278bc_20 : decode cJ5_appendNull_278bc 20 = .ok (.aload_n 0, 1) := by decide +kernel
theorem dJ5_appendNull_278bc_21 : decode cJ5_appendNull_278bc 21 = .ok (.invokevirtual 83, 3) := by decide +kernel
theorem dJ5_appendNull_278bc_24 : decode cJ5_appendNull_278bc 24 = .ok (.ifCond .eq 38, 3) := by decide +kernel
theorem dJ5_appendNull_278bc_27 : decode cJ5_appendNull_278bc 27 = .ok (.aload_n 2, 1) := by decide +kernel
theorem dJ5_appendNull_278bc_28 : decode cJ5_appendNull_278bc 28 = .ok (.iload_n 1, 1) := by decide +kernel
theorem dJ5_appendNull_278bc_29 : decode cJ5_appendNull_278bc 29 = .ok (.iinc 1 1, 3) := by decide +kernel
theorem dJ5_appendNull_278bc_32 : decode cJ5_appendNull_278bc 32 = .ok (.bipush 110, 2) := by decide +kernel
theorem dJ5_appendNull_278bc_34 : decode cJ5_appendNull_278bc 34 = .ok (.bastore, 1) := by decide +kernel
theorem dJ5_appendNull_278bc_35 : decode cJ5_appendNull_278bc 35 = .ok (.aload_n 2, 1) := by decide +kernel
theorem dJ5_appendNull_278bc_36 : decode cJ5_appendNull_278bc 36 = .ok (.iload_n 1, 1) := by decide +kernel
theorem dJ5_appendNull_278bc_37 : decode cJ5_appendNull_278bc 37 = .ok (.iinc 1 1, 3) := by decide +kernel
theorem dJ5_appendNull_278bc_40 : decode cJ5_appendNull_278bc 40 = .ok (.bipush 117, 2) := by decide +kernel
theorem dJ5_appendNull_278bc_42 : decode cJ5_appendNull_278bc 42 = .ok (.bastore, 1) := by decide +kernel
theorem dJ5_appendNull_278bc_43 : decode cJ5_appendNull_278bc 43 = .ok (.aload_n 2, 1) := by decide +kernel
theorem dJ5_appendNull_278bc_44 : decode cJ5_appendNull_278bc 44 = .ok (.iload_n 1, 1) := by decide +kernel
theorem dJ5_appendNull_278bc_45 : decode cJ5_appendNull_278bc 45 = .ok (.iinc 1 1, 3) := by decide +kernel
theorem dJ5_appendNull_278bc_48 : decode cJ5_appendNull_278bc 48 = .ok (.bipush 108, 2) := by decide +kernel
theorem dJ5_appendNull_278bc_50 : decode cJ5_appendNull_278bc 50 = .ok (.bastore, 1) := by decide +kernel
theorem dJ5_appendNull_278bc_51 : decode cJ5_appendNull_278bc 51 = .ok (.aload_n 2, 1) := by decide +kernel
theorem dJ5_appendNull_278bc_52 : decode cJ5_appendNull_278bc 52 = .ok (.iload_n 1, 1) := by decide +kernel
theorem dJ5_appendNull_278bc_53 : decode cJ5_appendNull_278bc 53 = .ok (.iinc 1 1, 3) := by decide +kernel
theorem dJ5_appendNull_278bc_56 : decode cJ5_appendNull_278bc 56 = .ok (.bipush 108, 2) := by decide +kernel
theorem dJ5_appendNull_278bc_58 : decode cJ5_appendNull_278bc 58 = .ok (.bastore, 1) := by decide +kernel
theorem dJ5_appendNull_278bc_59 : decode cJ5_appendNull_278bc 59 = .ok (.goto 17, 3) := by decide +kernel
theorem dJ5_appendNull_278bc_62 : decode cJ5_appendNull_278bc 62 = .ok (.aload_n 2, 1) := by decide +kernel
theorem dJ5_appendNull_278bc_63 : decode cJ5_appendNull_278bc 63 = .ok (.iload_n 1, 1) := by decide +kernel
theorem dJ5_appendNull_278bc_64 : decode cJ5_appendNull_278bc 64 = .ok (.bipush 110, 2) := by decide +kernel
theorem dJ5_appendNull_278bc_66 : decode cJ5_appendNull_278bc 66 = .ok (.bipush 117, 2) := by decide +kernel
theorem dJ5_appendNull_278bc_68 : decode cJ5_appendNull_278bc 68 = .ok (.bipush 108, 2) := by decide +kernel
theorem dJ5_appendNull_278bc_70 : decode cJ5_appendNull_278bc 70 = .ok (.bipush 108, 2) := by decide +kernel
theorem dJ5_appendNull_278bc_72 : decode cJ5_appendNull_278bc 72 = .ok (.invokestatic 226, 3) := by decide +kernel
theorem dJ5_appendNull_278bc_75 : decode cJ5_appendNull_278bc 75 = .ok (.istore_n 1, 1) := by decide +kernel
theorem dJ5_appendNull_278bc_76 : decode cJ5_appendNull_278bc 76 = .ok (.aload_n 0, 1) := by decide +kernel
theorem dJ5_appendNull_278bc_77 : decode cJ5_appendNull_278bc 77 = .ok (.iload_n 1, 1) := by decide +kernel
theorem dJ5_appendNull_278bc_78 : decode cJ5_appendNull_278bc 78 = .ok (.putfield 79, 3) := by decide +kernel
theorem dJ5_appendNull_278bc_81 : decode cJ5_appendNull_278bc 81 = .ok (.aload_n 0, 1) := by decide +kernel
theorem dJ5_appendNull_278bc_82 : decode cJ5_appendNull_278bc 82 = .ok (.areturn, 1) := by decide +kernel
theorem dJ5_append_3fe6f_0 : decode cJ5_append_3fe6f 0 = .ok (.aload_n 0, 1) := by decide +kernel
theorem dJ5_append_3fe6f_1 : decode cJ5_append_3fe6f 1 = .ok (.aload_n 0, 1) := by decide +kernel
theorem dJ5_append_3fe6f_2 : decode cJ5_append_3fe6f 2 = .ok (.getfield 79, 3) := by decide +kernel
theorem dJ5_append_3fe6f_5 : decode cJ5_append_3fe6f 5 = .ok (.iconst 1, 1) := by decide +kernel
theorem dJ5_append_3fe6f_6 : decode cJ5_append_3fe6f 6 = .ok (.iadd, 1) := by decide +kernel
theorem dJ5_append_3fe6f_7 : decode cJ5_append_3fe6f 7 = .ok (.invokevirtual 100, 3) := by decide +kernel
theorem dJ5_append_3fe6f_10 : decode cJ5_append_3fe6f 10 = .ok (.aload_n 0, 1) := by decide +kernel
theorem dJ5_append_3fe6f_11 : decode cJ5_append_3fe6f 11 = .ok (.invokevirtual 83, 3) := by decide +kernel
theorem dJ5_append_3fe6f_14 : decode cJ5_append_3fe6f 14 = .ok (.ifCond .eq 31, 3) := by decide +kernel
theorem dJ5_append_3fe6f_17 : decode cJ5_append_3fe6f 17 = .ok (.iload_n 1, 1) := by decide +kernel
theorem dJ5_append_3fe6f_18 : decode cJ5_append_3fe6f 18 = .ok (.invokestatic 191, 3) := by decide +kernel
theorem dJ5_append_3fe6f_21 : decode cJ5_append_3fe6f 21 = .ok (.ifCond .eq 24, 3) := by decide +kernel
theorem dJ5_append_3fe6f_24 : decode cJ5_append_3fe6f 24 = .ok (.aload_n 0, 1) := by decide +kernel
theorem dJ5_append_3fe6f_25 : decode cJ5_append_3fe6f 25 = .ok (.getfield 15, 3) := by decide +kernel
theorem dJ5_append_3fe6f_28 : decode cJ5_append_3fe6f 28 = .ok (.aload_n 0, 1) := by decide +kernel
theorem dJ5_append_3fe6f_29 : decode cJ5_append_3fe6f 29 = .ok (.dup, 1) := by decide +kernel
theorem dJ5_append_3fe6f_30 : decode cJ5_append_3fe6f 30 = .ok (.getfield 79, 3) := by decide +kernel
theorem dJ5_append_3fe6f_33 : decode cJ5_append_3fe6f 33 = .ok (.dup_x1, 1) := by decide +kernel
theorem dJ5_append_3fe6f_34 : decode cJ5_append_3fe6f 34 = .ok (.iconst 1, 1) := by decide +kernel
theorem dJ5_append_3fe6f_35 : decode cJ5_append_3fe6f 35 = .ok (.iadd, 1) := by decide +kernel
theorem dJ5_append_3fe6f_36 : decode cJ5_append_3fe6f 36 = .ok (.putfield 79, 3) := by decide +kernel
theorem dJ5_append_3fe6f_39 : decode cJ5_append_3fe6f 39 = .ok (.iload_n 1, 1) := by decide +kernel
theorem dJ5_append_3fe6f_40 : decode cJ5_append_3fe6f 40 = .ok (.i2b, 1) := by decide +kernel
theorem dJ5_append_3fe6f_41 : decode cJ5_append_3fe6f 41 = .ok (.bastore, 1) := by decide +kernel
theorem dJ5_append_3fe6f_42 : decode cJ5_append_3fe6f 42 = .ok (.goto 33, 3) := by decide +kernel
theorem dJ5_append_3fe6f_45 : decode cJ5_append_3fe6f 45 = .ok (.aload_n 0, 1) := by decide +kernel
theorem dJ5_append_3fe6f_46 : decode cJ5_append_3fe6f 46 = .ok (.invokevirtual 83, 3) := by decide +kernel
theorem dJ5_append_3fe6f_49 : decode cJ5_append_3fe6f 49 = .ok (.ifCond .eq 7, 3) := by decide +kernel
theorem dJ5_append_3fe6f_52 : decode cJ5_append_3fe6f 52 = .ok (.aload_n 0, 1) := by decide +kernel
theorem dJ5_append_3fe6f_53 : decode cJ5_append_3fe6f 53 = .ok (.invokevirtual 195, 3) := by decide +kernel
theorem dJ5_append_3fe6f_56 : decode cJ5_append_3fe6f 56 = .ok (.aload_n 0, 1) := by decide +kernel
theorem dJ5_append_3fe6f_57 : decode cJ5_append_3fe6f 57 = .ok (.getfield 15, 3) := by decide +kernel
theorem dJ5_append_3fe6f_60 : decode cJ5_append_3fe6f 60 = .ok (.aload_n 0, 1) := by decide +kernel
theorem dJ5_append_3fe6f_61 : decode cJ5_append_3fe6f 61 = .ok (.dup, 1) := by decide +kernel
theorem dJ5_append_3fe6f_62 : decode cJ5_append_3fe6f 62 = .ok (.getfield 79, 3) := by decide +kernel
theorem dJ5_append_3fe6f_65 : decode cJ5_append_3fe6f 65 = .ok (.dup_x1, 1) := by decide +kernel
theorem dJ5_append_3fe6f_66 : decode cJ5_append_3fe6f 66 = .ok (.iconst 1, 1) := by decide +kernel
theorem dJ5_append_3fe6f_67 : decode cJ5_append_3fe6f 67 = .ok (.iadd, 1) := by decide +kernel
theorem dJ5_append_3fe6f_68 : decode cJ5_append_3fe6f 68 = .ok (.putfield 79, 3) := by decide +kernel
theorem dJ5_append_3fe6f_71 : decode cJ5_append_3fe6f 71 = .ok (.iload_n 1, 1) := by decide +kernel
theorem dJ5_append_3fe6f_72 : decode cJ5_append_3fe6f 72 = .ok (.invokestatic 197, 3) := by decide +kernel
theorem dJ5_append_3fe6f_75 : decode cJ5_append_3fe6f 75 = .ok (.aload_n 0, 1) := by decide +kernel
theorem dJ5_append_3fe6f_76 : decode cJ5_append_3fe6f 76 = .ok (.areturn, 1) := by decide +kernel
theorem dJ5_append_c97b9_0 : decode cJ5_append_c97b9 0 = .ok (.aload_n 0, 1) := by decide +kernel
theorem dJ5_append_c97b9_1 : decode cJ5_append_c97b9 1 = .ok (.getfield 79, 3) := by decide +kernel
theorem dJ5_append_c97b9_4 : decode cJ5_append_c97b9 4 = .ok (.istore_n 2, 1) := by decide +kernel
theorem dJ5_append_c97b9_5 : decode cJ5_append_c97b9 5 = .ok (.iload_n 2, 1) := by decide +kernel
theorem dJ5_append_c97b9_6 : decode cJ5_append_c97b9 6 = .ok (.iload_n 1, 1) := by decide +kernel
theorem dJ5_append_c97b9_7 : decode cJ5_append_c97b9 7 = .ok (.invokestatic 245, 3) := by decide +kernel
theorem dJ5_append_c97b9_10 : decode cJ5_append_c97b9 10 = .ok (.iadd, 1) := by decide +kernel
theorem dJ5_append_c97b9_11 : decode cJ5_append_c97b9 11 = .ok (.istore_n 3, 1) := by decide +kernel
theorem dJ5_append_c97b9_12 : decode cJ5_append_c97b9 12 = .ok (.aload_n 0, 1) := by decide +kernel
theorem dJ5_append_c97b9_13 : decode cJ5_append_c97b9 13 = .ok (.iload_n 3, 1) := by decide +kernel
theorem dJ5_append_c97b9_14 : decode cJ5_append_c97b9 14 = .ok (.invokevirtual 100, 3) := by decide +kernel
theorem dJ5_append_c97b9_17 : decode cJ5_append_c97b9 17 = .ok (.aload_n 0, 1) := by decide +kernel
theorem dJ5_append_c97b9_18 : decode cJ5_append_c97b9 18 = .ok (.invokevirtual 83, 3) := by decide +kernel
theorem dJ5_append_c97b9_21 : decode cJ5_append_c97b9 21 = .ok (.ifCond .eq 16, 3) := by decide +kernel
theorem dJ5_append_c97b9_24 : decode cJ5_append_c97b9 24 = .ok (.iload_n 1, 1) := by decide +kernel
theorem dJ5_append_c97b9_25 : decode cJ5_append_c97b9 25 = .ok (.iload_n 3, 1) := by decide +kernel
theorem dJ5_append_c97b9_26 : decode cJ5_append_c97b9 26 = .ok (.aload_n 0, 1) := by decide +kernel
theorem dJ5_append_c97b9_27 : decode cJ5_append_c97b9 27 = .ok (.getfield 15, 3) := by decide +kernel
theorem dJ5_append_c97b9_30 : decode cJ5_append_c97b9 30 = .ok (.invokestatic 248, 3) := by decide +kernel
theorem dJ5_append_c97b9_33 : decode cJ5_append_c97b9 33 = .ok (.pop, 1) := by decide +kernel
theorem dJ5_append_c97b9_34 : decode cJ5_append_c97b9 34 = .ok (.goto 14, 3) := by decide +kernel
theorem dJ5_append_c97b9_37 : decode cJ5_append_c97b9 37 = .ok (.iload_n 1, 1) := by decide +kernel
theorem dJ5_append_c97b9_38 : decode cJ5_append_c97b9 38 = .ok (.iload_n 2, 1) := by decide +kernel
theorem dJ5_append_c97b9_39 : decode cJ5_append_c97b9 39 = .ok (.iload_n 3, 1) := by decide +kernel
theorem dJ5_append_c97b9_40 : decode cJ5_append_c97b9 40 = .ok (.aload_n 0, 1) := by decide +kernel
theorem dJ5_append_c97b9_41 : decode cJ5_append_c97b9 41 = .ok (.getfield 15, 3) := by decide +kernel
theorem dJ5_append_c97b9_44 : decode cJ5_append_c97b9 44 = .ok (.invokestatic 251, 3) := by decide +kernel
theorem dJ5_append_c97b9_47 : decode cJ5_append_c97b9 47 = .ok (.pop, 1) := by decide +kernel
theorem dJ5_append_c97b9_48 : decode cJ5_append_c97b9 48 = .ok (.aload_n 0, 1) := by decide +kernel
theorem dJ5_append_c97b9_49 : decode cJ5_append_c97b9 49 = .ok (.iload_n 3, 1) := by decide +kernel
theorem dJ5_append_c97b9_50 : decode cJ5_append_c97b9 50 = .ok (.putfield 79, 3) := by decide +kernel
theorem dJ5_append_c97b9_53 : decode cJ5_append_c97b9 53 = .ok (.aload_n 0, 1) := by decide +kernel
theorem dJ5_append_c97b9_54 : decode cJ5_append_c97b9 54 = .ok (.areturn, 1) := by decide +kernel
theorem dJ5_getValue_6d5f1_0 : decode cJ5_getValue_6d5f1 0 = .ok (.aload_n 0, 1) := by decide +kernel
theorem dJ5_getValue_6d5f1_1 : decode cJ5_getValue_6d5f1 1 = .ok (.getfield 15, 3) := by decide +kernel
theorem dJ5_getValue_6d5f1_4 : decode cJ5_getValue_6d5f1 4 = .ok (.areturn, 1) := by decide +kernel
theorem dJ5_isLatin1_aae02_0 : decode cJ5_isLatin1_aae02 0 = .ok (.getstatic 18, 3) := by decide +kernel
theorem dJ5_isLatin1_aae02_3 : decode cJ5_isLatin1_aae02 3 = .ok (.ifCond .eq 14, 3) := by decide +kernel
theorem dJ5_isLatin1_aae02_6 : decode cJ5_isLatin1_aae02 6 = .ok (.aload_n 0, 1) := by decide +kernel
theorem dJ5_isLatin1_aae02_7 : decode cJ5_isLatin1_aae02 7 = .ok (.getfield 22, 3) := by decide +kernel
theorem dJ5_isLatin1_aae02_10 : decode cJ5_isLatin1_aae02 10 = .ok (.ifCond .ne 7, 3) := by decide +kernel
theorem dJ5_isLatin1_aae02_13 : decode cJ5_isLatin1_aae02 13 = .ok (.iconst 1, 1) := by decide +kernel
theorem dJ5_isLatin1_aae02_14 : decode cJ5_isLatin1_aae02 14 = .ok (.goto 4, 3) := by decide +kernel
theorem dJ5_isLatin1_aae02_17 : decode cJ5_isLatin1_aae02 17 = .ok (.iconst 0, 1) := by decide +kernel
theorem dJ5_isLatin1_aae02_18 : decode cJ5_isLatin1_aae02 18 = .ok (.ireturn, 1) := by decide +kernel
theorem dJ5_inflateIfNeededFor_a7421_0 : decode cJ5_inflateIfNeededFor_a7421 0 = .ok (.getstatic 18, 3) := by decide +kernel
theorem dJ5_inflateIfNeededFor_a7421_3 : decode cJ5_inflateIfNeededFor_a7421 3 = .ok (.ifCond .eq 18, 3) := by decide +kernel
theorem dJ5_inflateIfNeededFor_a7421_6 : decode cJ5_inflateIfNeededFor_a7421 6 = .ok (.aload_n 0, 1) := by decide +kernel
theorem dJ5_inflateIfNeededFor_a7421_7 : decode cJ5_inflateIfNeededFor_a7421 7 = .ok (.getfield 22, 3) := by decide +kernel
theorem dJ5_inflateIfNeededFor_a7421_10 : decode cJ5_inflateIfNeededFor_a7421 10 = .ok (.aload_n 1, 1) := by decide +kernel
theorem dJ5_inflateIfNeededFor_a7421_11 : decode cJ5_inflateIfNeededFor_a7421 11 = .ok (.invokevirtual 40, 3) := by decide +kernel
theorem dJ5_inflateIfNeededFor_a7421_14 : decode cJ5_inflateIfNeededFor_a7421 14 = .ok (.if_icmp .eq 7, 3) := by decide +kernel
theorem dJ5_inflateIfNeededFor_a7421_17 : decode cJ5_inflateIfNeededFor_a7421 17 = .ok (.aload_n 0, 1) := by decide +kernel
theorem dJ5_inflateIfNeededFor_a7421_18 : decode cJ5_inflateIfNeededFor_a7421 18 = .ok (.invokevirtual 195, 3) := by decide +kernel
theorem dJ5_inflateIfNeededFor_a7421_21 : decode cJ5_inflateIfNeededFor_a7421 21 = .ok (.return_, 1) := by decide +kernel
theorem dJ5_putStringAt_47b60_0 : decode cJ5_putStringAt_47b60 0 = .ok (.aload_n 0, 1) := by decide +kernel
theorem dJ5_putStringAt_47b60_1 : decode cJ5_putStringAt_47b60 1 = .ok (.aload_n 2, 1) := by decide +kernel
theorem dJ5_putStringAt_47b60_2 : decode cJ5_putStringAt_47b60 2 = .ok (.invokevirtual 397, 3) := by decide +kernel
theorem dJ5_putStringAt_47b60_5 : decode cJ5_putStringAt_47b60 5 = .ok (.aload_n 2, 1) := by decide +kernel
theorem dJ5_putStringAt_47b60_6 : decode cJ5_putStringAt_47b60 6 = .ok (.aload_n 0, 1) := by decide +kernel
theorem dJ5_putStringAt_47b60_7 : decode cJ5_putStringAt_47b60 7 = .ok (.getfield 15, 3) := by decide +kernel
theorem dJ5_putStringAt_47b60_10 : decode cJ5_putStringAt_47b60 10 = .ok (.iload_n 1, 1) := by decide +kernel
theorem dJ5_putStringAt_47b60_11 : decode cJ5_putStringAt_47b60 11 = .ok (.aload_n 0, 1) := by decide +kernel
theorem dJ5_putStringAt_47b60_12 : decode cJ5_putStringAt_47b60 12 = .ok (.getfield 22, 3) := by decide +kernel
theorem dJ5_putStringAt_47b60_15 : decode cJ5_putStringAt_47b60 15 = .ok (.invokevirtual 399, 3) := by decide +kernel
theorem dJ5_putStringAt_47b60_18 : decode cJ5_putStringAt_47b60 18 = .ok (.return_, 1) := by decide +kernel
theorem dJx00060_init_d00df_0 : decode cJx00060_init_d00df 0 = .ok (.aload_n 0, 1) := by decide +kernel
theorem dJx00060_init_d00df_1 : decode cJx00060_init_d00df 1 = .ok (.new 10, 3) := by decide +kernel
theorem dJx00060_init_d00df_4 : decode cJx00060_init_d00df 4 = .ok (.dup, 1) := by decide +kernel
theorem dJx00060_init_d00df_5 : decode cJx00060_init_d00df 5 = .ok (.invokespecial 12, 3) := by decide +kernel
theorem dJx00060_init_d00df_8 : decode cJx00060_init_d00df 8 = .ok (.ldc 13, 2) := by decide +kernel
theorem dJx00060_init_d00df_10 : decode cJx00060_init_d00df 10 = .ok (.invokevirtual 15, 3) := by decide +kernel
theorem dJx00060_init_d00df_13 : decode cJx00060_init_d00df 13 = .ok (.iload_n 1, 1) := by decide +kernel
theorem dJx00060_init_d00df_14 : decode cJx00060_init_d00df 14 = .ok (.invokevirtual 19, 3) := by decide +kernel
theorem dJx00060_init_d00df_17 : decode cJx00060_init_d00df 17 = .ok (.invokevirtual 22, 3) := by decide +kernel
theorem dJx00060_init_d00df_20 : decode cJx00060_init_d00df 20 = .ok (.invokespecial 7, 3) := by decide +kernel
theorem dJx00060_init_d00df_23 : decode cJx00060_init_d00df 23 = .ok (.return_, 1) := by decide +kernel
theorem dJ6_getChars_ba4f3_0 : decode cJ6_getChars_ba4f3 0 = .ok (.iload_n 1, 1) := by decide +kernel
theorem dJ6_getChars_ba4f3_1 : decode cJ6_getChars_ba4f3 1 = .ok (.istore 5, 2) := by decide +kernel
theorem dJ6_getChars_ba4f3_3 : decode cJ6_getChars_ba4f3 3 = .ok (.iload_n 0, 1) := by decide +kernel
theorem dJ6_getChars_ba4f3_4 : decode cJ6_getChars_ba4f3 4 = .ok (.ifCond .ge 7, 3) := by decide +kernel
theorem dJ6_getChars_ba4f3_7 : decode cJ6_getChars_ba4f3 7 = .ok (.iconst 1, 1) := by decide +kernel
theorem dJ6_getChars_ba4f3_8 : decode cJ6_getChars_ba4f3 8 = .ok (.goto 4, 3) := by decide +kernel
theorem dJ6_getChars_ba4f3_11 : decode cJ6_getChars_ba4f3 11 = .ok (.iconst 0, 1) := by decide +kernel
theorem dJ6_getChars_ba4f3_12 : decode cJ6_getChars_ba4f3 12 = .ok (.istore 6, 2) := by decide +kernel
theorem dJ6_getChars_ba4f3_14 : decode cJ6_getChars_ba4f3 14 = .ok (.iload 6, 2) := by decide +kernel
theorem dJ6_getChars_ba4f3_16 : decode cJ6_getChars_ba4f3 16 = .ok (.ifCond .ne 6, 3) := by decide +kernel
theorem dJ6_getChars_ba4f3_19 : decode cJ6_getChars_ba4f3 19 = .ok (.iload_n 0, 1) := by decide +kernel
theorem dJ6_getChars_ba4f3_20 : decode cJ6_getChars_ba4f3 20 = .ok (.ineg, 1) := by decide +kernel
theorem dJ6_getChars_ba4f3_21 : decode cJ6_getChars_ba4f3 21 = .ok (.istore_n 0, 1) := by decide +kernel
theorem dJ6_getChars_ba4f3_22 : decode cJ6_getChars_ba4f3 22 = .ok (.iload_n 0, 1) := by decide +kernel
theorem dJ6_getChars_ba4f3_23 : decode cJ6_getChars_ba4f3 23 = .ok (.bipush (-100), 2) := by decide +kernel
theorem dJ6_getChars_ba4f3_25 : decode cJ6_getChars_ba4f3 25 = .ok (.if_icmp .gt 47, 3) := by decide +kernel
theorem dJ6_getChars_ba4f3_28 : decode cJ6_getChars_ba4f3 28 = .ok (.iload_n 0, 1) := by decide +kernel
theorem dJ6_getChars_ba4f3_29 : decode cJ6_getChars_ba4f3 29 = .ok (.bipush 100, 2) := by decide +kernel
theorem dJ6_getChars_ba4f3_31 : decode cJ6_getChars_ba4f3 31 = .ok (.idiv, 1) := by decide +kernel
theorem dJ6_getChars_ba4f3_32 : decode cJ6_getChars_ba4f3 32 = .ok (.istore_n 3, 1) := by decide +kernel
theorem dJ6_getChars_ba4f3_33 : decode cJ6_getChars_ba4f3 33 = .ok (.iload_n 3, 1) := by decide +kernel
theorem dJ6_getChars_ba4f3_34 : decode cJ6_getChars_ba4f3 34 = .ok (.bipush 100, 2) := by decide +kernel
theorem dJ6_getChars_ba4f3_36 : decode cJ6_getChars_ba4f3 36 = .ok (.imul, 1) := by decide +kernel
theorem dJ6_getChars_ba4f3_37 : decode cJ6_getChars_ba4f3 37 = .ok (.iload_n 0, 1) := by decide +kernel
theorem dJ6_getChars_ba4f3_38 : decode cJ6_getChars_ba4f3 38 = .ok (.isub, 1) := by decide +kernel
theorem dJ6_getChars_ba4f3_39 : decode cJ6_getChars_ba4f3 39 = .ok (.istore 4, 2) := by decide +kernel
theorem dJ6_getChars_ba4f3_41 : decode cJ6_getChars_ba4f3 41 = .ok (.iload_n 3, 1) := by decide +kernel
theorem dJ6_getChars_ba4f3_42 : decode cJ6_getChars_ba4f3 42 = .ok (.istore_n 0, 1) := by decide +kernel
theorem dJ6_getChars_ba4f3_43 : decode cJ6_getChars_ba4f3 43 = .ok (.aload_n 2, 1) := by decide +kernel
theorem dJ6_getChars_ba4f3_44 : decode cJ6_getChars_ba4f3 44 = .ok (.iinc 5 (-1), 3) := by decide +kernel
theorem dJ6_getChars_ba4f3_47 : decode cJ6_getChars_ba4f3 47 = .ok (.iload 5, 2) := by decide +kernel
theorem dJ6_getChars_ba4f3_49 : decode cJ6_getChars_ba4f3 49 = .ok (.getstatic 83, 3) := by decide +kernel
theorem dJ6_getChars_ba4f3_52 : decode cJ6_getChars_ba4f3 52 = .ok (.iload 4, 2) := by decide +kernel
theorem dJ6_getChars_ba4f3_54 : decode cJ6_getChars_ba4f3 54 = .ok (.baload, 1) := by decide +kernel
theorem dJ6_getChars_ba4f3_55 : decode cJ6_getChars_ba4f3 55 = .ok (.bastore, 1) := by decide +kernel
theorem dJ6_getChars_ba4f3_56 : decode cJ6_getChars_ba4f3 56 = .ok (.aload_n 2, 1) := by decide +kernel
theorem dJ6_getChars_ba4f3_57 : decode cJ6_getChars_ba4f3 57 = .ok (.iinc 5 (-1), 3) := by decide +kernel
theorem dJ6_getChars_ba4f3_60 : decode cJ6_getChars_ba4f3 60 = .ok (.iload 5, 2) := by decide +kernel
theorem dJ6_getChars_ba4f3_62 : decode cJ6_getChars_ba4f3 62 = .ok (.getstatic 87, 3) := by decide +kernel
theorem dJ6_getChars_ba4f3_65 : decode cJ6_getChars_ba4f3 65 = .ok (.iload 4, 2) := by decide +kernel
theorem dJ6_getChars_ba4f3_67 : decode cJ6_getChars_ba4f3 67 = .ok (.baload, 1) := by decide +kernel
theorem dJ6_getChars_ba4f3_68 : decode cJ6_getChars_ba4f3 68 = .ok (.bastore, 1) := by decide +kernel
theorem dJ6_getChars_ba4f3_69 : decode cJ6_getChars_ba4f3 69 = .ok (.goto (-47), 3) := by decide +kernel
theorem dJ6_getChars_ba4f3_72 : decode cJ6_getChars_ba4f3 72 = .ok (.aload_n 2, 1) := by decide +kernel
theorem dJ6_getChars_ba4f3_73 : decode cJ6_getChars_ba4f3 73 = .ok (.iinc 5 (-1), 3) := by decide +kernel
theorem dJ6_getChars_ba4f3_76 : decode cJ6_getChars_ba4f3 76 = .ok (.iload 5, 2) := by decide +kernel
theorem dJ6_getChars_ba4f3_78 : decode cJ6_getChars_ba4f3 78 = .ok (.getstatic 83, 3) := by decide +kernel
theorem dJ6_getChars_ba4f3_81 : decode cJ6_getChars_ba4f3 81 = .ok (.iload_n 0, 1) := by decide +kernel
theorem dJ6_getChars_ba4f3_82 : decode cJ6_getChars_ba4f3 82 = .ok (.ineg, 1) := by decide +kernel
theorem dJ6_getChars_ba4f3_83 : decode cJ6_getChars_ba4f3 83 = .ok (.baload, 1) := by decide +kernel
theorem dJ6_getChars_ba4f3_84 : decode cJ6_getChars_ba4f3 84 = .ok (.bastore, 1) := by decide +kernel
theorem dJ6_getChars_ba4f3_85 : decode cJ6_getChars_ba4f3 85 = .ok (.iload_n 0, 1) := by decide +kernel
theorem dJ6_getChars_ba4f3_86 : decode cJ6_getChars_ba4f3 86 = .ok (.bipush (-9), 2) := by decide +kernel
theorem dJ6_getChars_ba4f3_88 : decode cJ6_getChars_ba4f3 88 = .ok (.if_icmp .ge 16, 3) := by decide +kernel
theorem dJ6_getChars_ba4f3_91 : decode cJ6_getChars_ba4f3 91 = .ok (.aload_n 2, 1) := by decide +kernel
theorem dJ6_getChars_ba4f3_92 : decode cJ6_getChars_ba4f3 92 = .ok (.iinc 5 (-1), 3) := by decide +kernel
theorem dJ6_getChars_ba4f3_95 : decode cJ6_getChars_ba4f3 95 = .ok (.iload 5, 2) := by decide +kernel
theorem dJ6_getChars_ba4f3_97 : decode cJ6_getChars_ba4f3 97 = .ok (.getstatic 87, 3) := by decide +kernel
theorem dJ6_getChars_ba4f3_100 : decode cJ6_getChars_ba4f3 100 = .ok (.iload_n 0, 1) := by decide +kernel
theorem dJ6_getChars_ba4f3_101 : decode cJ6_getChars_ba4f3 101 = .ok (.ineg, 1) := by decide +kernel
theorem dJ6_getChars_ba4f3_102 : decode cJ6_getChars_ba4f3 102 = .ok (.baload, 1) := by decide +kernel
theorem dJ6_getChars_ba4f3_103 : decode cJ6_getChars_ba4f3 103 = .ok (.bastore, 1) := by decide +kernel
theorem dJ6_getChars_ba4f3_104 : decode cJ6_getChars_ba4f3 104 = .ok (.iload 6, 2) := by decide +kernel
theorem dJ6_getChars_ba4f3_106 : decode cJ6_getChars_ba4f3 106 = .ok (.ifCond .eq 12, 3) := by decide +kernel
theorem dJ6_getChars_ba4f3_109 : decode cJ6_getChars_ba4f3 109 = .ok (.aload_n 2, 1) := by decide +kernel
theorem dJ6_getChars_ba4f3_110 : decode cJ6_getChars_ba4f3 110 = .ok (.iinc 5 (-1), 3) := by decide +kernel
theorem dJ6_getChars_ba4f3_113 : decode cJ6_getChars_ba4f3 113 = .ok (.iload 5, 2) := by decide +kernel
theorem dJ6_getChars_ba4f3_115 : decode cJ6_getChars_ba4f3 115 = .ok (.bipush 45, 2) := by decide +kernel
theorem dJ6_getChars_ba4f3_117 : decode cJ6_getChars_ba4f3 117 = .ok (.bastore, 1) := by decide +kernel
theorem dJ6_getChars_ba4f3_118 : decode cJ6_getChars_ba4f3 118 = .ok (.iload 5, 2) := by decide +kernel
theorem dJ6_getChars_ba4f3_120 : decode cJ6_getChars_ba4f3 120 = .ok (.ireturn, 1) := by decide +kernel
theorem dJ6_stringSize_0f7a4_0 : decode cJ6_stringSize_0f7a4 0 = .ok (.iconst 1, 1) := by decide +kernel
theorem dJ6_stringSize_0f7a4_1 : decode cJ6_stringSize_0f7a4 1 = .ok (.istore_n 1, 1) := by decide +kernel
theorem dJ6_stringSize_0f7a4_2 : decode cJ6_stringSize_0f7a4 2 = .ok (.iload_n 0, 1) := by decide +kernel
theorem dJ6_stringSize_0f7a4_3 : decode cJ6_stringSize_0f7a4 3 = .ok (.ifCond .lt 8, 3) := by decide +kernel
theorem dJ6_stringSize_0f7a4_6 : decode cJ6_stringSize_0f7a4 6 = .ok (.iconst 0, 1) := by decide +kernel
theorem dJ6_stringSize_0f7a4_7 : decode cJ6_stringSize_0f7a4 7 = .ok (.istore_n 1, 1) := by decide +kernel
theorem dJ6_stringSize_0f7a4_8 : decode cJ6_stringSize_0f7a4 8 = .ok (.iload_n 0, 1) := by decide +kernel
theorem dJ6_stringSize_0f7a4_9 : decode cJ6_stringSize_0f7a4 9 = .ok (.ineg, 1) := by decide +kernel
theorem dJ6_stringSize_0f7a4_10 : decode cJ6_stringSize_0f7a4 10 = .ok (.istore_n 0, 1) := by decide +kernel
theorem dJ6_stringSize_0f7a4_11 : decode cJ6_stringSize_0f7a4 11 = .ok (.bipush (-10), 2) := by decide +kernel
theorem dJ6_stringSize_0f7a4_13 : decode cJ6_stringSize_0f7a4 13 = .ok (.istore_n 2, 1) := by decide +kernel
theorem dJ6_stringSize_0f7a4_14 : decode cJ6_stringSize_0f7a4 14 = .ok (.iconst 1, 1) := by decide +kernel
theorem dJ6_stringSize_0f7a4_15 : decode cJ6_stringSize_0f7a4 15 = .ok (.istore_n 3, 1) := by decide +kernel
theorem dJ6_stringSize_0f7a4_16 : decode cJ6_stringSize_0f7a4 16 = .ok (.iload_n 3, 1) := by decide +kernel
theorem dJ6_stringSize_0f7a4_17 : decode cJ6_stringSize_0f7a4 17 = .ok (.bipush 10, 2) := by decide +kernel
theorem dJ6_stringSize_0f7a4_19 : decode cJ6_stringSize_0f7a4 19 = .ok (.if_icmp .ge 23, 3) := by decide +kernel
theorem dJ6_stringSize_0f7a4_22 : decode cJ6_stringSize_0f7a4 22 = .ok (.iload_n 0, 1) := by decide +kernel
theorem dJ6_stringSize_0f7a4_23 : decode cJ6_stringSize_0f7a4 23 = .ok (.iload_n 2, 1) := by decide +kernel
theorem dJ6_stringSize_0f7a4_24 : decode cJ6_stringSize_0f7a4 24 = .ok (.if_icmp .le 7, 3) := by decide +kernel
theorem dJ6_stringSize_0f7a4_27 : decode cJ6_stringSize_0f7a4 27 = .ok (.iload_n 3, 1) := by decide +kernel
theorem dJ6_stringSize_0f7a4_28 : decode cJ6_stringSize_0f7a4 28 = .ok (.iload_n 1, 1) := by decide +kernel
theorem dJ6_stringSize_0f7a4_29 : decode cJ6_stringSize_0f7a4 29 = .ok (.iadd, 1) := by decide +kernel
theorem dJ6_stringSize_0f7a4_30 : decode cJ6_stringSize_0f7a4 30 = .ok (.ireturn, 1) := by decide +kernel
theorem dJ6_stringSize_0f7a4_31 : decode cJ6_stringSize_0f7a4 31 = .ok (.bipush 10, 2) := by decide +kernel
theorem dJ6_stringSize_0f7a4_33 : decode cJ6_stringSize_0f7a4 33 = .ok (.iload_n 2, 1) := by decide +kernel
theorem dJ6_stringSize_0f7a4_34 : decode cJ6_stringSize_0f7a4 34 = .ok (.imul, 1) := by decide +kernel
theorem dJ6_stringSize_0f7a4_35 : decode cJ6_stringSize_0f7a4 35 = .ok (.istore_n 2, 1) := by decide +kernel
theorem dJ6_stringSize_0f7a4_36 : decode cJ6_stringSize_0f7a4 36 = .ok (.iinc 3 1, 3) := by decide +kernel
theorem dJ6_stringSize_0f7a4_39 : decode cJ6_stringSize_0f7a4 39 = .ok (.goto (-23), 3) := by decide +kernel
theorem dJ6_stringSize_0f7a4_42 : decode cJ6_stringSize_0f7a4 42 = .ok (.bipush 10, 2) := by decide +kernel
theorem dJ6_stringSize_0f7a4_44 : decode cJ6_stringSize_0f7a4 44 = .ok (.iload_n 1, 1) := by decide +kernel
theorem dJ6_stringSize_0f7a4_45 : decode cJ6_stringSize_0f7a4 45 = .ok (.iadd, 1) := by decide +kernel
theorem dJ6_stringSize_0f7a4_46 : decode cJ6_stringSize_0f7a4 46 = .ok (.ireturn, 1) := by decide +kernel
theorem dJ9_max_7cf53_0 : decode cJ9_max_7cf53 0 = .ok (.iload_n 0, 1) := by decide +kernel
theorem dJ9_max_7cf53_1 : decode cJ9_max_7cf53 1 = .ok (.iload_n 1, 1) := by decide +kernel
theorem dJ9_max_7cf53_2 : decode cJ9_max_7cf53 2 = .ok (.if_icmp .lt 7, 3) := by decide +kernel
theorem dJ9_max_7cf53_5 : decode cJ9_max_7cf53 5 = .ok (.iload_n 0, 1) := by decide +kernel
theorem dJ9_max_7cf53_6 : decode cJ9_max_7cf53 6 = .ok (.goto 4, 3) := by decide +kernel
theorem dJ9_max_7cf53_9 : decode cJ9_max_7cf53 9 = .ok (.iload_n 1, 1) := by decide +kernel
theorem dJ9_max_7cf53_10 : decode cJ9_max_7cf53 10 = .ok (.ireturn, 1) := by decide +kernel
theorem dJ9_min_7cf53_0 : decode cJ9_min_7cf53 0 = .ok (.iload_n 0, 1) := by decide +kernel
theorem dJ9_min_7cf53_1 : decode cJ9_min_7cf53 1 = .ok (.iload_n 1, 1) := by decide +kernel
theorem dJ9_min_7cf53_2 : decode cJ9_min_7cf53 2 = .ok (.if_icmp .gt 7, 3) := by decide +kernel
theorem dJ9_min_7cf53_5 : decode cJ9_min_7cf53 5 = .ok (.iload_n 0, 1) := by decide +kernel
theorem dJ9_min_7cf53_6 : decode cJ9_min_7cf53 6 = .ok (.goto 4, 3) := by decide +kernel
theorem dJ9_min_7cf53_9 : decode cJ9_min_7cf53 9 = .ok (.iload_n 1, 1) := by decide +kernel
theorem dJ9_min_7cf53_10 : decode cJ9_min_7cf53 10 = .ok (.ireturn, 1) := by decide +kernel
theorem dJ0_init_81219_0 : decode cJ0_init_81219 0 = .ok (.aload_n 0, 1) := by decide +kernel
theorem dJ0_init_81219_1 : decode cJ0_init_81219 1 = .ok (.aload_n 1, 1) := by decide +kernel
theorem dJ0_init_81219_2 : decode cJ0_init_81219 2 = .ok (.aconst_null, 1) := by decide +kernel
theorem dJ0_init_81219_3 : decode cJ0_init_81219 3 = .ok (.invokespecial 489, 3) := by decide +kernel
theorem dJ0_init_81219_6 : decode cJ0_init_81219 6 = .ok (.return_, 1) := by decide +kernel
theorem dJ0_length_8abf5_0 : decode cJ0_length_8abf5 0 = .ok (.aload_n 0, 1) := by decide +kernel
theorem dJ0_length_8abf5_1 : decode cJ0_length_8abf5 1 = .ok (.getfield 9, 3) := by decide +kernel
theorem dJ0_length_8abf5_4 : decode cJ0_length_8abf5 4 = .ok (.arraylength, 1) := by decide +kernel
theorem dJ0_length_8abf5_5 : decode cJ0_length_8abf5 5 = .ok (.aload_n 0, 1) := by decide +kernel
theorem dJ0_length_8abf5_6 : decode cJ0_length_8abf5 6 = .ok (.invokevirtual 335, 3) := by decide +kernel
theorem dJ0_length_8abf5_9 : decode cJ0_length_8abf5 9 = .ok (.ishr, 1) := by decide +kernel
theorem dJ0_length_8abf5_10 : decode cJ0_length_8abf5 10 = .ok (.ireturn, 1) := by decide +kernel
theorem dJ0_charAt_5068e_0 : decode cJ0_charAt_5068e 0 = .ok (.aload_n 0, 1) := by decide +kernel
theorem dJ0_charAt_5068e_1 : decode cJ0_charAt_5068e 1 = .ok (.invokevirtual 492, 3) := by decide +kernel
theorem dJ0_charAt_5068e_4 : decode cJ0_charAt_5068e 4 = .ok (.ifCond .eq 12, 3) := by decide +kernel
theorem dJ0_charAt_5068e_7 : decode cJ0_charAt_5068e 7 = .ok (.aload_n 0, 1) := by decide +kernel
theorem dJ0_charAt_5068e_8 : decode cJ0_charAt_5068e 8 = .ok (.getfield 9, 3) := by decide +kernel
theorem dJ0_charAt_5068e_11 : decode cJ0_charAt_5068e 11 = .ok (.iload_n 1, 1) := by decide +kernel
theorem dJ0_charAt_5068e_12 : decode cJ0_charAt_5068e 12 = .ok (.invokestatic 495, 3) := by decide +kernel
theorem dJ0_charAt_5068e_15 : decode cJ0_charAt_5068e 15 = .ok (.ireturn, 1) := by decide +kernel
theorem dJ0_charAt_5068e_16 : decode cJ0_charAt_5068e 16 = .ok (.aload_n 0, 1) := by decide +kernel
theorem dJ0_charAt_5068e_17 : decode cJ0_charAt_5068e 17 = .ok (.getfield 9, 3) := by decide +kernel
theorem dJ0_charAt_5068e_20 : decode cJ0_charAt_5068e 20 = .ok (.iload_n 1, 1) := by decide +kernel
theorem dJ0_charAt_5068e_21 : decode cJ0_charAt_5068e 21 = .ok (.invokestatic 498, 3) := by decide +kernel
theorem dJ0_charAt_5068e_24 : decode cJ0_charAt_5068e 24 = .ok (.ireturn, 1) := by decide +kernel
theorem dJ0_getBytes_840e7_0 : decode cJ0_getBytes_840e7 0 = .ok (.aload_n 0, 1) := by decide +kernel
theorem dJ0_getBytes_840e7_1 : decode cJ0_getBytes_840e7 1 = .ok (.invokevirtual 335, 3) := by decide +kernel
theorem dJ0_getBytes_840e7_4 : decode cJ0_getBytes_840e7 4 = .ok (.iload_n 3, 1) := by decide +kernel
theorem dJ0_getBytes_840e7_5 : decode cJ0_getBytes_840e7 5 = .ok (.if_icmp .ne 23, 3) := by decide +kernel
theorem dJ0_getBytes_840e7_8 : decode cJ0_getBytes_840e7 8 = .ok (.aload_n 0, 1) := by decide +kernel
theorem dJ0_getBytes_840e7_9 : decode cJ0_getBytes_840e7 9 = .ok (.getfield 9, 3) := by decide +kernel
theorem dJ0_getBytes_840e7_12 : decode cJ0_getBytes_840e7 12 = .ok (.iconst 0, 1) := by decide +kernel
theorem dJ0_getBytes_840e7_13 : decode cJ0_getBytes_840e7 13 = .ok (.aload_n 1, 1) := by decide +kernel
theorem dJ0_getBytes_840e7_14 : decode cJ0_getBytes_840e7 14 = .ok (.iload_n 2, 1) := by decide +kernel
theorem dJ0_getBytes_840e7_15 : decode cJ0_getBytes_840e7 15 = .ok (.iload_n 3, 1) := by decide +kernel
theorem dJ0_getBytes_840e7_16 : decode cJ0_getBytes_840e7 16 = .ok (.ishl, 1) := by decide +kernel
theorem dJ0_getBytes_840e7_17 : decode cJ0_getBytes_840e7 17 = .ok (.aload_n 0, 1) := by decide +kernel
theorem dJ0_getBytes_840e7_18 : decode cJ0_getBytes_840e7 18 = .ok (.getfield 9, 3) := by decide +kernel
theorem dJ0_getBytes_840e7_21 : decode cJ0_getBytes_840e7 21 = .ok (.arraylength, 1) := by decide +kernel
