/-! the law's words are true at its start -/
def lw_six : List MethodName := [⟨"java/lang/AbstractStringBuilder", "ensureCapacityInternal", "(I)V"⟩, ⟨"java/lang/AbstractStringBuilder", "newCapacity", "(I)I"⟩, ⟨"java/lang/AbstractStringBuilder", "appendNull", "()Ljava/lang/AbstractStringBuilder;"⟩, ⟨"java/lang/AbstractStringBuilder", "putStringAt", "(ILjava/lang/String;)V"⟩, ⟨"java/lang/AbstractStringBuilder", "inflateIfNeededFor", "(Ljava/lang/String;)V"⟩, ⟨"java/lang/AbstractStringBuilder", "inflate", "()V"⟩]
/-- a private method of a class above, chosen by an object of C -/
theorem sel_privC {C : String} {y z : MethodName} {s : State} {args : Array Value} (hy : y.cls ≠ "java/lang/invoke/MethodHandle" ∧ y.cls ≠ "java/lang/invoke/VarHandle") (hz : (Cond.selects C z z).before args s = true) (hc : z.cls = y.cls) (hpriv : (Cond.privateMethod y).before args s = true) (hinst : (Cond.instanceMethod y).before args s = true) :
    (Cond.selects C y y).before args s = true := by
  obtain ⟨c, r, m, h1, h2, h3, h4, mk, h5, h6⟩ := Cond.selects_spec hz
  obtain ⟨my, methM, hnamed, hmethM, -, -⟩ := Cond.instanceMethod_spec hinst
  have hfound : s.methodFound? y.cls y.name y.desc = some my := State.methodFound?_of_named hnamed hy
  have hcls : my.cls = m.cls := Option.some.inj ((findClass_of_methodNamed hnamed).symm.trans (by rw [← hc]; exact findClass_of_methodNamed h3))
  have hsel : selectMethod {} s.vm c my = .method my := selectMethod_private hmethM (Cond.privateMethod_at hpriv my methM hnamed hmethM)
  simp only [Cond.before, Cond.holds, Cond.value, h1, hfound, hnamed, hsel, hcls, h5]
  simp; exact h6
def lw_tbl2 : List Cond := lw_six.map (fun y => Cond.selects "java/lang/StringBuilder" y y) ++ lw_tbl
theorem lw_six_ok : ∀ y ∈ lw_six, (y.cls ≠ "java/lang/invoke/MethodHandle" ∧ y.cls ≠ "java/lang/invoke/VarHandle") ∧ (⟨"java/lang/AbstractStringBuilder", "isLatin1", "()Z"⟩ : MethodName).cls = y.cls ∧ Cond.privateMethod y ∈ lw_tbl ∧ Cond.instanceMethod y ∈ lw_tbl := by
  intro y hy
  unfold lw_six at hy
  rcases List.mem_cons.mp hy with rfl | hy
  · exact ⟨⟨by decide +kernel, by decide +kernel⟩, rfl, List.mem_of_getElem? (i := 644) (by decide +kernel), List.mem_of_getElem? (i := 645) (by decide +kernel)⟩
  rcases List.mem_cons.mp hy with rfl | hy
  · exact ⟨⟨by decide +kernel, by decide +kernel⟩, rfl, List.mem_of_getElem? (i := 648) (by decide +kernel), List.mem_of_getElem? (i := 649) (by decide +kernel)⟩
  rcases List.mem_cons.mp hy with rfl | hy
  · exact ⟨⟨by decide +kernel, by decide +kernel⟩, rfl, List.mem_of_getElem? (i := 640) (by decide +kernel), List.mem_of_getElem? (i := 641) (by decide +kernel)⟩
  rcases List.mem_cons.mp hy with rfl | hy
  · exact ⟨⟨by decide +kernel, by decide +kernel⟩, rfl, List.mem_of_getElem? (i := 717) (by decide +kernel), List.mem_of_getElem? (i := 718) (by decide +kernel)⟩
  rcases List.mem_cons.mp hy with rfl | hy
  · exact ⟨⟨by decide +kernel, by decide +kernel⟩, rfl, List.mem_of_getElem? (i := 721) (by decide +kernel), List.mem_of_getElem? (i := 722) (by decide +kernel)⟩
  rcases List.mem_cons.mp hy with rfl | hy
  · exact ⟨⟨by decide +kernel, by decide +kernel⟩, rfl, List.mem_of_getElem? (i := 726) (by decide +kernel), List.mem_of_getElem? (i := 727) (by decide +kernel)⟩
  exact absurd hy List.not_mem_nil
theorem lw_hts2 {s : State} {args : Array Value} (h : ∀ w ∈ lw_tbl, w.before args s = true) : ∀ w ∈ lw_tbl2, w.before args s = true := by
  intro w hw
  rcases List.mem_append.mp hw with hw | hw
  · obtain ⟨y, hy, rfl⟩ := List.mem_map.mp hw
    obtain ⟨h1, h2, h3, h4⟩ := lw_six_ok y hy
    exact sel_privC (z := ⟨"java/lang/AbstractStringBuilder", "isLatin1", "()Z"⟩) h1 (h _ (List.mem_of_getElem? (i := 679) (by decide +kernel))) h2 (h _ h3) (h _ h4)
  · exact h w hw
set_option maxRecDepth 20000 in
theorem wsL_law0_r1_in : ∀ w ∈ wsL_law0_r1, w ∈ lw_tbl2 := fun w h => (goodIn_r (big := lw_tbl2) wsL_law0_r1 [70, 71, 45, 939, 940, 54, 127, 146, 72, 73, 74, 75, 76, 77, 78, 79, 46, 250, 106, 251, 108, 109, 47, 252] (by decide +kernel) (by decide +kernel) w h).1
set_option maxRecDepth 20000 in
theorem wsL_law0_r2_in : ∀ w ∈ wsL_law0_r2, w ∈ lw_tbl2 := fun w h => (goodIn_r (big := lw_tbl2) wsL_law0_r2 [128, 129, 48, 253, 147, 148, 50, 254, 255, 256, 180, 53, 81, 82, 83, 84, 105, 86, 87, 88, 89, 90, 91, 111] (by decide +kernel) (by decide +kernel) w h).1
set_option maxRecDepth 20000 in
theorem wsL_law0_r3_in : ∀ w ∈ wsL_law0_r3, w ∈ lw_tbl2 := fun w h => (goodIn_r (big := lw_tbl2) wsL_law0_r3 [112, 113, 114, 115, 116, 117, 131, 132, 133, 134, 136, 137, 138, 149, 150, 151, 152, 153, 49, 154, 155, 156, 179, 165] (by decide +kernel) (by decide +kernel) w h).1
set_option maxRecDepth 20000 in
theorem wsL_law0_r4_in : ∀ w ∈ wsL_law0_r4, w ∈ lw_tbl2 := fun w h => (goodIn_r (big := lw_tbl2) wsL_law0_r4 [166, 158, 159, 52, 160, 161, 162, 163, 164, 181, 182, 183, 184, 188, 189, 185, 190, 191, 187, 203, 205, 6, 206, 207] (by decide +kernel) (by decide +kernel) w h).1
set_option maxRecDepth 20000 in
theorem wsL_law0_r5_in : ∀ w ∈ wsL_law0_r5, w ∈ lw_tbl2 := fun w h => (goodIn_r (big := lw_tbl2) wsL_law0_r5 [208, 209, 210, 211, 212, 213, 214, 215, 220, 216, 218, 7, 219, 221, 223, 8, 224, 225, 226, 228, 9, 229, 230, 231] (by decide +kernel) (by decide +kernel) w h).1
set_option maxRecDepth 20000 in
theorem wsL_law0_r6_in : ∀ w ∈ wsL_law0_r6, w ∈ lw_tbl2 := fun w h => (goodIn_r (big := lw_tbl2) wsL_law0_r6 [232, 233, 234, 235, 236, 237, 238, 240, 10, 241, 242, 243, 244, 245, 246, 247, 248, 249, 941, 942, 943, 944, 983, 984] (by decide +kernel) (by decide +kernel) w h).1
set_option maxRecDepth 20000 in
theorem wsL_law0_r7_in : ∀ w ∈ wsL_law0_r7, w ∈ lw_tbl2 := fun w h => (goodIn_r (big := lw_tbl2) wsL_law0_r7 [985, 986, 988, 989, 990, 991, 992, 993, 994, 995, 996, 945, 947, 26, 948, 949, 950, 952, 27, 953, 954, 956, 28, 957] (by decide +kernel) (by decide +kernel) w h).1
set_option maxRecDepth 20000 in
theorem wsL_law0_r8_in : ∀ w ∈ wsL_law0_r8, w ∈ lw_tbl2 := fun w h => (goodIn_r (big := lw_tbl2) wsL_law0_r8 [958, 960, 29, 961, 962, 987, 963, 965, 30, 966, 967, 969, 31, 970, 971, 973, 32, 974, 975, 977, 33, 978, 979, 981] (by decide +kernel) (by decide +kernel) w h).1
set_option maxRecDepth 20000 in
theorem wsL_law0_r9_in : ∀ w ∈ wsL_law0_r9, w ∈ lw_tbl2 := fun w h => (goodIn_r (big := lw_tbl2) wsL_law0_r9 [34, 982, 308, 309, 44, 310, 311, 312, 313, 314, 315, 316, 416, 417, 60, 418, 317, 318, 319, 320, 58, 389, 390, 391] (by decide +kernel) (by decide +kernel) w h).1
set_option maxRecDepth 20000 in
theorem wsL_law0_r10_in : ∀ w ∈ wsL_law0_r10, w ∈ lw_tbl2 := fun w h => (goodIn_r (big := lw_tbl2) wsL_law0_r10 [393, 394, 395, 396, 59, 412, 413, 414, 415, 419, 420, 421, 422, 280, 282, 11, 283, 284, 286, 12, 287, 288, 290, 13] (by decide +kernel) (by decide +kernel) w h).1
set_option maxRecDepth 20000 in
theorem wsL_law0_r11_in : ∀ w ∈ wsL_law0_r11, w ∈ lw_tbl2 := fun w h => (goodIn_r (big := lw_tbl2) wsL_law0_r11 [291, 292, 293, 294, 295, 296, 298, 14, 299, 1033, 1034, 1035, 1036, 1037, 1039, 35, 1040, 1041, 1043, 36, 1044, 1045, 1047, 37] (by decide +kernel) (by decide +kernel) w h).1
set_option maxRecDepth 20000 in
theorem wsL_law0_r12_in : ∀ w ∈ wsL_law0_r12, w ∈ lw_tbl2 := fun w h => (goodIn_r (big := lw_tbl2) wsL_law0_r12 [1048, 997, 1049, 1051, 38, 1052, 1029, 1030, 1031, 1032, 423, 424, 425, 426, 427, 428, 429, 430, 431, 61, 1053, 1054, 1055, 1056] (by decide +kernel) (by decide +kernel) w h).1
set_option maxRecDepth 20000 in
theorem wsL_law0_r13_in : ∀ w ∈ wsL_law0_r13, w ∈ lw_tbl2 := fun w h => (goodIn_r (big := lw_tbl2) wsL_law0_r13 [272, 273, 274, 275, 276, 277, 278, 279, 1057, 1058, 1059, 1060, 447, 448, 449, 450, 451, 452, 453, 454, 455, 456, 457, 458] (by decide +kernel) (by decide +kernel) w h).1
set_option maxRecDepth 20000 in
theorem wsL_law0_r14_in : ∀ w ∈ wsL_law0_r14, w ∈ lw_tbl2 := fun w h => (goodIn_r (big := lw_tbl2) wsL_law0_r14 [459, 460, 461, 1061, 1062, 1063, 1064, 462, 463, 464, 465, 466, 467, 468, 469, 1065, 1066, 1067, 1068, 1069, 470, 471, 472, 473] (by decide +kernel) (by decide +kernel) w h).1
set_option maxRecDepth 20000 in
theorem wsL_law0_r15_in : ∀ w ∈ wsL_law0_r15, w ∈ lw_tbl2 := fun w h => (goodIn_r (big := lw_tbl2) wsL_law0_r15 [474, 475, 476, 477, 478, 479, 481, 482, 483, 484, 1070, 1071, 1072, 1073, 1074, 1076, 39, 1077, 485, 486, 487, 488, 489, 490] (by decide +kernel) (by decide +kernel) w h).1
set_option maxRecDepth 20000 in
theorem wsL_law0_r16_in : ∀ w ∈ wsL_law0_r16, w ∈ lw_tbl2 := fun w h => (goodIn_r (big := lw_tbl2) wsL_law0_r16 [491, 492, 493, 494, 495, 1078, 1079, 1080, 1081, 496, 497, 498, 499, 500, 501, 502, 503, 504, 505, 506, 1082, 1083, 1084, 1085] (by decide +kernel) (by decide +kernel) w h).1
set_option maxRecDepth 20000 in
theorem wsL_law0_r17_in : ∀ w ∈ wsL_law0_r17, w ∈ lw_tbl2 := fun w h => (goodIn_r (big := lw_tbl2) wsL_law0_r17 [300, 301, 302, 303, 304, 305, 306, 307, 1086, 1087, 1088, 1089, 507, 508, 509, 510, 511, 512, 513, 514, 515, 516, 518, 520] (by decide +kernel) (by decide +kernel) w h).1
set_option maxRecDepth 20000 in
theorem wsL_law0_r18_in : ∀ w ∈ wsL_law0_r18, w ∈ lw_tbl2 := fun w h => (goodIn_r (big := lw_tbl2) wsL_law0_r18 [16, 521, 522, 523, 524, 525, 526, 527, 528, 529, 530, 531, 532, 533, 534, 536, 17, 537, 538, 539, 540, 541, 1090, 1091] (by decide +kernel) (by decide +kernel) w h).1
set_option maxRecDepth 20000 in
theorem wsL_law0_r19_in : ∀ w ∈ wsL_law0_r19, w ∈ lw_tbl2 := fun w h => (goodIn_r (big := lw_tbl2) wsL_law0_r19 [1092, 1093, 1094, 1096, 40, 1097, 1098, 1100, 41, 1101, 542, 543, 544, 545, 546, 547, 548, 549, 551, 18, 552, 553, 555, 19] (by decide +kernel) (by decide +kernel) w h).1
set_option maxRecDepth 20000 in
theorem wsL_law0_r20_in : ∀ w ∈ wsL_law0_r20, w ∈ lw_tbl2 := fun w h => (goodIn_r (big := lw_tbl2) wsL_law0_r20 [556, 557, 558, 560, 20, 561, 562, 563, 565, 21, 566, 567, 568, 569, 570, 571, 572, 573, 574, 575, 1102, 1103, 1104, 1105] (by decide +kernel) (by decide +kernel) w h).1
set_option maxRecDepth 20000 in
theorem wsL_law0_r21_in : ∀ w ∈ wsL_law0_r21, w ∈ lw_tbl2 := fun w h => (goodIn_r (big := lw_tbl2) wsL_law0_r21 [1106, 1108, 42, 1109, 576, 577, 578, 579, 580, 581, 582, 583, 584, 585, 586, 587, 589, 22, 590, 591, 592, 593, 594, 595] (by decide +kernel) (by decide +kernel) w h).1
set_option maxRecDepth 20000 in
theorem wsL_law0_r22_in : ∀ w ∈ wsL_law0_r22, w ∈ lw_tbl2 := fun w h => (goodIn_r (big := lw_tbl2) wsL_law0_r22 [596, 597, 598, 599, 600, 602, 23, 603, 604, 606, 24, 607, 608, 609, 610, 611, 1110, 1111, 1112, 1113, 1114, 1115, 612, 613] (by decide +kernel) (by decide +kernel) w h).1
set_option maxRecDepth 20000 in
theorem wsL_law0_r23_in : ∀ w ∈ wsL_law0_r23, w ∈ lw_tbl2 := fun w h => (goodIn_r (big := lw_tbl2) wsL_law0_r23 [614, 615, 616, 617, 618, 619, 621, 25, 622, 623, 624, 625, 626, 627, 1144, 178, 628, 629, 630, 631, 62, 169, 167, 649] (by decide +kernel) (by decide +kernel) w h).1
set_option maxRecDepth 20000 in
theorem wsL_law0_r24_in : ∀ w ∈ wsL_law0_r24, w ∈ lw_tbl2 := fun w h => (goodIn_r (big := lw_tbl2) wsL_law0_r24 [1147, 0, 651, 652, 653, 1148, 1, 655, 656, 667, 657, 658, 63, 659, 660, 661, 662, 663, 664, 665, 666, 668, 669, 64] (by decide +kernel) (by decide +kernel) w h).1
set_option maxRecDepth 20000 in
theorem wsL_law0_r25_in : ∀ w ∈ wsL_law0_r25, w ∈ lw_tbl2 := fun w h => (goodIn_r (big := lw_tbl2) wsL_law0_r25 [670, 671, 672, 673, 674, 675, 677, 678, 679, 681, 680, 65, 682, 684, 685, 683, 686, 857, 858, 67, 859, 860, 861, 862] (by decide +kernel) (by decide +kernel) w h).1
set_option maxRecDepth 20000 in
theorem wsL_law0_r26_in : ∀ w ∈ wsL_law0_r26, w ∈ lw_tbl2 := fun w h => (goodIn_r (big := lw_tbl2) wsL_law0_r26 [863, 864, 865, 818, 869, 870, 69, 892, 893, 894, 895, 897, 639, 640, 641, 642, 1145, 643, 644, 645, 1146, 2, 647, 648] (by decide +kernel) (by decide +kernel) w h).1
set_option maxRecDepth 20000 in
theorem wsL_law0_r27_in : ∀ w ∈ wsL_law0_r27, w ∈ lw_tbl2 := fun w h => (goodIn_r (big := lw_tbl2) wsL_law0_r27 [687, 688, 689, 707, 690, 691, 692, 693, 694, 695, 696, 697, 51, 698, 699, 701, 702, 66, 703, 704, 705, 706, 709, 711] (by decide +kernel) (by decide +kernel) w h).1
set_option maxRecDepth 20000 in
theorem wsL_law0_r28_in : ∀ w ∈ wsL_law0_r28, w ∈ lw_tbl2 := fun w h => (goodIn_r (big := lw_tbl2) wsL_law0_r28 [713, 714, 715, 716, 838, 717, 718, 719, 720, 721, 839, 722, 1149, 3, 724, 725, 726, 1150, 4, 728, 729, 730, 731, 1151] (by decide +kernel) (by decide +kernel) w h).1
set_option maxRecDepth 20000 in
theorem wsL_law0_r29_in : ∀ w ∈ wsL_law0_r29, w ∈ lw_tbl2 := fun w h => (goodIn_r (big := lw_tbl2) wsL_law0_r29 [5, 733, 734, 735, 736, 737, 738, 739, 740, 741, 742, 743, 744, 745, 746, 747, 748, 749, 750, 751, 752, 753, 754, 755] (by decide +kernel) (by decide +kernel) w h).1
set_option maxRecDepth 20000 in
theorem wsL_law0_r30_in : ∀ w ∈ wsL_law0_r30, w ∈ lw_tbl2 := fun w h => (goodIn_r (big := lw_tbl2) wsL_law0_r30 [898, 899, 900, 901, 902, 1153, 903, 904, 905, 906, 907, 908, 909, 910, 911, 912, 913, 914, 915, 916, 917, 918, 919, 920] (by decide +kernel) (by decide +kernel) w h).1
set_option maxRecDepth 20000 in
theorem wsL_law0_r31_in : ∀ w ∈ wsL_law0_r31, w ∈ lw_tbl2 := fun w h => (goodIn_r (big := lw_tbl2) wsL_law0_r31 [757, 758, 759, 760, 1152, 761, 762, 763, 764, 68, 765, 766, 767, 768, 769, 771, 773, 774, 775, 776, 777, 778, 779, 780] (by decide +kernel) (by decide +kernel) w h).1
set_option maxRecDepth 20000 in
theorem wsL_law0_r32_in : ∀ w ∈ wsL_law0_r32, w ∈ lw_tbl2 := fun w h => (goodIn_r (big := lw_tbl2) wsL_law0_r32 [922, 923, 924, 928, 803, 1154, 804, 805, 801, 800, 806, 929, 930, 931, 932, 933, 1155, 934, 935, 936, 937, 938, 832, 833] (by decide +kernel) (by decide +kernel) w h).1
set_option maxRecDepth 20000 in
theorem wsL_law0_r33_in : ∀ w ∈ wsL_law0_r33, w ∈ lw_tbl2 := fun w h => (goodIn_r (big := lw_tbl2) wsL_law0_r33 [1116, 1117, 1118, 1119, 1121, 1122, 1123, 1124, 1125, 1126, 1127, 1128, 1129, 1130, 1131, 1132, 1133, 1134, 1135, 831, 1136, 1138, 43, 1139] (by decide +kernel) (by decide +kernel) w h).1
set_option maxRecDepth 20000 in
theorem wsX40_in : ∀ w ∈ wsX40, w ∈ lw_tbl2 := fun w h => (goodIn_r (big := lw_tbl2) wsX40 [257, 259, 261, 263, 265, 267, 269] (by decide +kernel) (by decide +kernel) w h).1
set_option maxRecDepth 20000 in
theorem wsX50_in : ∀ w ∈ wsX50, w ∈ lw_tbl2 := fun w h => (goodIn_r (big := lw_tbl2) wsX50 [998, 1000, 1002, 1004, 1006, 1008, 1010, 1012, 1014, 1016, 1018, 1020, 1022, 1024, 1026] (by decide +kernel) (by decide +kernel) w h).1
set_option maxRecDepth 20000 in
theorem wsX10_in : ∀ w ∈ wsX10, w ∈ lw_tbl2 := fun w h => (goodIn_r (big := lw_tbl2) wsX10 [92, 94, 96, 98, 100, 102] (by decide +kernel) (by decide +kernel) w h).1
set_option maxRecDepth 20000 in
theorem wsX20_in : ∀ w ∈ wsX20, w ∈ lw_tbl2 := fun w h => (goodIn_r (big := lw_tbl2) wsX20 [118, 120, 122, 124] (by decide +kernel) (by decide +kernel) w h).1
set_option maxRecDepth 20000 in
theorem wsX00_in : ∀ w ∈ wsX00, w ∈ lw_tbl2 := fun w h => (goodIn_r (big := lw_tbl2) wsX00 [139, 141, 143] (by decide +kernel) (by decide +kernel) w h).1
set_option maxRecDepth 20000 in
theorem wsJ40_in : ∀ w ∈ wsJ40, w ∈ lw_tbl2 := fun w h => (goodIn_r (big := lw_tbl2) wsJ40 [170, 172, 174, 176] (by decide +kernel) (by decide +kernel) w h).1
set_option maxRecDepth 20000 in
theorem wsX30_in : ∀ w ∈ wsX30, w ∈ lw_tbl2 := fun w h => (goodIn_r (big := lw_tbl2) wsX30 [192, 194, 196, 198, 200] (by decide +kernel) (by decide +kernel) w h).1
set_option maxRecDepth 20000 in
theorem wsJx7c7330_in : ∀ w ∈ wsJx7c7330, w ∈ lw_tbl2 := fun w h => (goodIn_r (big := lw_tbl2) wsJx7c7330 [850, 851, 852, 853, 854, 855] (by decide +kernel) (by decide +kernel) w h).1
set_option maxRecDepth 20000 in
theorem wsJx000600_in : ∀ w ∈ wsJx000600, w ∈ lw_tbl2 := fun w h => (goodIn_r (big := lw_tbl2) wsJx000600 [875, 876, 877, 878, 879, 890] (by decide +kernel) (by decide +kernel) w h).1
set_option maxRecDepth 20000 in
theorem wsJ00_in : ∀ w ∈ wsJ00, w ∈ lw_tbl2 := fun w h => (goodIn_r (big := lw_tbl2) wsJ00 [840, 842, 844, 846] (by decide +kernel) (by decide +kernel) w h).1
set_option maxRecDepth 20000 in
theorem wsL_law0_rs : ∀ w ∈ (wsL_law0_r1 ++ (wsL_law0_r2 ++ (wsL_law0_r3 ++ (wsL_law0_r4 ++ (wsL_law0_r5 ++ (wsL_law0_r6 ++ (wsL_law0_r7 ++ (wsL_law0_r8 ++ (wsL_law0_r9 ++ (wsL_law0_r10 ++ (wsL_law0_r11 ++ (wsL_law0_r12 ++ (wsL_law0_r13 ++ (wsL_law0_r14 ++ (wsL_law0_r15 ++ (wsL_law0_r16 ++ (wsL_law0_r17 ++ (wsL_law0_r18 ++ (wsL_law0_r19 ++ (wsL_law0_r20 ++ (wsL_law0_r21 ++ (wsL_law0_r22 ++ (wsL_law0_r23 ++ (wsL_law0_r24 ++ (wsL_law0_r25 ++ (wsL_law0_r26 ++ (wsL_law0_r27 ++ (wsL_law0_r28 ++ (wsL_law0_r29 ++ (wsL_law0_r30 ++ (wsL_law0_r31 ++ (wsL_law0_r32 ++ (wsL_law0_r33))))))))))))))))))))))))))))))))), w ∈ lw_tbl2 := fun w h => (List.mem_append.mp h).elim (fun h => wsL_law0_r1_in w h) (fun h => (List.mem_append.mp h).elim (fun h => wsL_law0_r2_in w h) (fun h => (List.mem_append.mp h).elim (fun h => wsL_law0_r3_in w h) (fun h => (List.mem_append.mp h).elim (fun h => wsL_law0_r4_in w h) (fun h => (List.mem_append.mp h).elim (fun h => wsL_law0_r5_in w h) (fun h => (List.mem_append.mp h).elim (fun h => wsL_law0_r6_in w h) (fun h => (List.mem_append.mp h).elim (fun h => wsL_law0_r7_in w h) (fun h => (List.mem_append.mp h).elim (fun h => wsL_law0_r8_in w h) (fun h => (List.mem_append.mp h).elim (fun h => wsL_law0_r9_in w h) (fun h => (List.mem_append.mp h).elim (fun h => wsL_law0_r10_in w h) (fun h => (List.mem_append.mp h).elim (fun h => wsL_law0_r11_in w h) (fun h => (List.mem_append.mp h).elim (fun h => wsL_law0_r12_in w h) (fun h => (List.mem_append.mp h).elim (fun h => wsL_law0_r13_in w h) (fun h => (List.mem_append.mp h).elim (fun h => wsL_law0_r14_in w h) (fun h => (List.mem_append.mp h).elim (fun h => wsL_law0_r15_in w h) (fun h => (List.mem_append.mp h).elim (fun h => wsL_law0_r16_in w h) (fun h => (List.mem_append.mp h).elim (fun h => wsL_law0_r17_in w h) (fun h => (List.mem_append.mp h).elim (fun h => wsL_law0_r18_in w h) (fun h => (List.mem_append.mp h).elim (fun h => wsL_law0_r19_in w h) (fun h => (List.mem_append.mp h).elim (fun h => wsL_law0_r20_in w h) (fun h => (List.mem_append.mp h).elim (fun h => wsL_law0_r21_in w h) (fun h => (List.mem_append.mp h).elim (fun h => wsL_law0_r22_in w h) (fun h => (List.mem_append.mp h).elim (fun h => wsL_law0_r23_in w h) (fun h => (List.mem_append.mp h).elim (fun h => wsL_law0_r24_in w h) (fun h => (List.mem_append.mp h).elim (fun h => wsL_law0_r25_in w h) (fun h => (List.mem_append.mp h).elim (fun h => wsL_law0_r26_in w h) (fun h => (List.mem_append.mp h).elim (fun h => wsL_law0_r27_in w h) (fun h => (List.mem_append.mp h).elim (fun h => wsL_law0_r28_in w h) (fun h => (List.mem_append.mp h).elim (fun h => wsL_law0_r29_in w h) (fun h => (List.mem_append.mp h).elim (fun h => wsL_law0_r30_in w h) (fun h => (List.mem_append.mp h).elim (fun h => wsL_law0_r31_in w h) (fun h => (List.mem_append.mp h).elim (fun h => wsL_law0_r32_in w h) (fun h => wsL_law0_r33_in w h))))))))))))))))))))))))))))))))
set_option maxRecDepth 20000 in
theorem wsL_law_in0 : ∀ w ∈ wsL_law0, w ∈ lw_tbl2 := fun w h => (List.mem_append.mp h).elim (fun h => (List.mem_append.mp h).elim (fun h => (List.mem_append.mp h).elim (fun h => (List.mem_append.mp h).elim (fun h => (List.mem_append.mp h).elim (fun h => (List.mem_append.mp h).elim (fun h => (List.mem_append.mp h).elim (fun h => (List.mem_append.mp h).elim (fun h => (List.mem_append.mp h).elim (fun h => (List.mem_append.mp h).elim (fun h => (List.mem_append.mp h).elim (fun h => wsL_law0_rs w h) (fun h => wsX40_in w h)) (fun h => wsX50_in w h)) (fun h => wsX10_in w h)) (fun h => wsX20_in w h)) (fun h => wsX00_in w h)) (fun h => wsJ40_in w h)) (fun h => wsX30_in w h)) (fun h => wsJx7c7330_in w h)) (fun h => wsJx000600_in w h)) (fun h => wsJ00_in w h)) (fun h => absurd h List.not_mem_nil)
theorem wsL_law_in : ∀ w ∈ wsL_law, w ∈ lw_tbl2 := fun w h => (List.mem_append.mp h).elim (fun h => (List.mem_append.mp h).elim (fun h => (List.mem_append.mp h).elim (fun h => wsL_law_in0 w h) (fun h => List.mem_append_right _ (wsL_law_x1 w h))) (fun h => List.mem_append_right _ (wsL_law_x2 w h))) (fun h => List.mem_append_right _ (wsL_law_x3 w h))
