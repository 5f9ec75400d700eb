/-! the law's words are true at its start -/
def lw_six : List MethodName := [⟨"java/lang/AbstractStringBuilder", "ensureCapacityInternal", "(I)V"⟩, ⟨"java/lang/AbstractStringBuilder", "newCapacity", "(I)I"⟩, ⟨"java/lang/AbstractStringBuilder", "appendNull", "()Ljava/lang/AbstractStringBuilder;"⟩, ⟨"java/lang/AbstractStringBuilder", "putStringAt", "(ILjava/lang/String;)V"⟩, ⟨"java/lang/AbstractStringBuilder", "inflateIfNeededFor", "(Ljava/lang/String;)V"⟩, ⟨"java/lang/AbstractStringBuilder", "inflate", "()V"⟩]
/-- a private method of a class above, chosen by an object of C -/
theorem sel_privC {C : String} {y z : MethodName} {s : State} {args : Array Value} (hy : y.cls ≠ "java/lang/invoke/MethodHandle" ∧ y.cls ≠ "java/lang/invoke/VarHandle") (hz : (Cond.selects C z z).before args s = true) (hc : z.cls = y.cls) (hpriv : (Cond.privateMethod y).before args s = true) (hinst : (Cond.instanceMethod y).before args s = true) :
    (Cond.selects C y y).before args s = true := by
  obtain ⟨c, r, m, h1, h2, h3, h4, mk, h5, h6⟩ := Cond.selects_spec hz
  obtain ⟨my, methM, hnamed, hmethM, -, -⟩ := Cond.instanceMethod_spec hinst
  have hfound : s.methodFound? y.cls y.name y.desc = some my := State.methodFound?_of_named hnamed hy
  have hcls : my.cls = m.cls := Option.some.inj ((findClass_of_methodNamed hnamed).symm.trans (by rw [← hc]; exact findClass_of_methodNamed h3))
  have hsel : selectMethod {} s.vm c my = .method my := selectMethod_private hmethM (Cond.privateMethod_at hpriv my methM hnamed hmethM)
  simp only [Cond.before, Cond.holds, Cond.value, h1, hfound, hnamed, hsel, hcls, h5]
  simp; exact h6
def lw_tbl2 : List Cond := lw_six.map (fun y => Cond.selects "java/lang/StringBuilder" y y) ++ lw_tbl
theorem lw_six_ok : ∀ y ∈ lw_six, (y.cls ≠ "java/lang/invoke/MethodHandle" ∧ y.cls ≠ "java/lang/invoke/VarHandle") ∧ (⟨"java/lang/AbstractStringBuilder", "isLatin1", "()Z"⟩ : MethodName).cls = y.cls ∧ Cond.privateMethod y ∈ lw_tbl ∧ Cond.instanceMethod y ∈ lw_tbl := by
  intro y hy
  unfold lw_six at hy
  rcases List.mem_cons.mp hy with rfl | hy
  · exact ⟨⟨by decide +kernel, by decide +kernel⟩, rfl, List.mem_of_getElem? (i := 647) (by decide +kernel), List.mem_of_getElem? (i := 648) (by decide +kernel)⟩
  rcases List.mem_cons.mp hy with rfl | hy
  · exact ⟨⟨by decide +kernel, by decide +kernel⟩, rfl, List.mem_of_getElem? (i := 651) (by decide +kernel), List.mem_of_getElem? (i := 652) (by decide +kernel)⟩
  rcases List.mem_cons.mp hy with rfl | hy
  · exact ⟨⟨by decide +kernel, by decide +kernel⟩, rfl, List.mem_of_getElem? (i := 643) (by decide +kernel), List.mem_of_getElem? (i := 644) (by decide +kernel)⟩
  rcases List.mem_cons.mp hy with rfl | hy
  · exact ⟨⟨by decide +kernel, by decide +kernel⟩, rfl, List.mem_of_getElem? (i := 720) (by decide +kernel), List.mem_of_getElem? (i := 721) (by decide +kernel)⟩
  rcases List.mem_cons.mp hy with rfl | hy
  · exact ⟨⟨by decide +kernel, by decide +kernel⟩, rfl, List.mem_of_getElem? (i := 724) (by decide +kernel), List.mem_of_getElem? (i := 725) (by decide +kernel)⟩
  rcases List.mem_cons.mp hy with rfl | hy
  · exact ⟨⟨by decide +kernel, by decide +kernel⟩, rfl, List.mem_of_getElem? (i := 729) (by decide +kernel), List.mem_of_getElem? (i := 730) (by decide +kernel)⟩
  exact absurd hy List.not_mem_nil
theorem lw_hts2 {s : State} {args : Array Value} (h : ∀ w ∈ lw_tbl, w.before args s = true) : ∀ w ∈ lw_tbl2, w.before args s = true := by
  intro w hw
  rcases List.mem_append.mp hw with hw | hw
  · obtain ⟨y, hy, rfl⟩ := List.mem_map.mp hw
    obtain ⟨h1, h2, h3, h4⟩ := lw_six_ok y hy
    exact sel_privC (z := ⟨"java/lang/AbstractStringBuilder", "isLatin1", "()Z"⟩) h1 (h _ (List.mem_of_getElem? (i := 682) (by decide +kernel))) h2 (h _ h3) (h _ h4)
  · exact h w hw
set_option maxRecDepth 20000 in
theorem wsL_law0_r1_in : ∀ w ∈ wsL_law0_r1, w ∈ lw_tbl2 := fun w h => (goodIn_r (big := lw_tbl2) wsL_law0_r1 [70, 71, 45, 942, 943, 54, 127, 146, 72, 73, 74, 75, 76, 77, 78, 79, 46, 253, 106, 254, 108, 109, 47, 255] (by decide +kernel) (by decide +kernel) w h).1
set_option maxRecDepth 20000 in
theorem wsL_law0_r2_in : ∀ w ∈ wsL_law0_r2, w ∈ lw_tbl2 := fun w h => (goodIn_r (big := lw_tbl2) wsL_law0_r2 [128, 129, 48, 256, 147, 148, 50, 257, 258, 259, 180, 53, 81, 82, 83, 84, 105, 86, 87, 88, 89, 90, 91, 111] (by decide +kernel) (by decide +kernel) w h).1
set_option maxRecDepth 20000 in
theorem wsL_law0_r3_in : ∀ w ∈ wsL_law0_r3, w ∈ lw_tbl2 := fun w h => (goodIn_r (big := lw_tbl2) wsL_law0_r3 [112, 113, 114, 115, 116, 117, 131, 132, 133, 134, 136, 137, 138, 149, 150, 151, 152, 153, 49, 154, 155, 156, 179, 165] (by decide +kernel) (by decide +kernel) w h).1
set_option maxRecDepth 20000 in
theorem wsL_law0_r4_in : ∀ w ∈ wsL_law0_r4, w ∈ lw_tbl2 := fun w h => (goodIn_r (big := lw_tbl2) wsL_law0_r4 [166, 158, 159, 52, 160, 161, 162, 163, 164, 181, 182, 183, 184, 189, 190, 185, 191, 192, 187, 188, 206, 208, 6, 209] (by decide +kernel) (by decide +kernel) w h).1
set_option maxRecDepth 20000 in
theorem wsL_law0_r5_in : ∀ w ∈ wsL_law0_r5, w ∈ lw_tbl2 := fun w h => (goodIn_r (big := lw_tbl2) wsL_law0_r5 [210, 211, 212, 213, 214, 215, 216, 217, 218, 223, 219, 221, 7, 222, 224, 226, 8, 227, 228, 229, 231, 9, 232, 233] (by decide +kernel) (by decide +kernel) w h).1
set_option maxRecDepth 20000 in
theorem wsL_law0_r6_in : ∀ w ∈ wsL_law0_r6, w ∈ lw_tbl2 := fun w h => (goodIn_r (big := lw_tbl2) wsL_law0_r6 [234, 235, 236, 237, 238, 239, 240, 241, 243, 10, 244, 245, 246, 247, 248, 249, 250, 251, 252, 944, 945, 946, 947, 986] (by decide +kernel) (by decide +kernel) w h).1
set_option maxRecDepth 20000 in
theorem wsL_law0_r7_in : ∀ w ∈ wsL_law0_r7, w ∈ lw_tbl2 := fun w h => (goodIn_r (big := lw_tbl2) wsL_law0_r7 [987, 988, 989, 991, 992, 993, 994, 995, 996, 997, 998, 999, 948, 950, 26, 951, 952, 953, 955, 27, 956, 957, 959, 28] (by decide +kernel) (by decide +kernel) w h).1
set_option maxRecDepth 20000 in
theorem wsL_law0_r8_in : ∀ w ∈ wsL_law0_r8, w ∈ lw_tbl2 := fun w h => (goodIn_r (big := lw_tbl2) wsL_law0_r8 [960, 961, 963, 29, 964, 965, 990, 966, 968, 30, 969, 970, 972, 31, 973, 974, 976, 32, 977, 978, 980, 33, 981, 982] (by decide +kernel) (by decide +kernel) w h).1
set_option maxRecDepth 20000 in
theorem wsL_law0_r9_in : ∀ w ∈ wsL_law0_r9, w ∈ lw_tbl2 := fun w h => (goodIn_r (big := lw_tbl2) wsL_law0_r9 [984, 34, 985, 311, 312, 44, 313, 314, 315, 316, 317, 318, 319, 419, 420, 60, 421, 320, 321, 322, 323, 58, 392, 393] (by decide +kernel) (by decide +kernel) w h).1
set_option maxRecDepth 20000 in
theorem wsL_law0_r10_in : ∀ w ∈ wsL_law0_r10, w ∈ lw_tbl2 := fun w h => (goodIn_r (big := lw_tbl2) wsL_law0_r10 [394, 396, 397, 398, 399, 59, 415, 416, 417, 418, 422, 423, 424, 425, 283, 285, 11, 286, 287, 289, 12, 290, 291, 293] (by decide +kernel) (by decide +kernel) w h).1
set_option maxRecDepth 20000 in
theorem wsL_law0_r11_in : ∀ w ∈ wsL_law0_r11, w ∈ lw_tbl2 := fun w h => (goodIn_r (big := lw_tbl2) wsL_law0_r11 [13, 294, 295, 296, 297, 298, 299, 301, 14, 302, 1036, 1037, 1038, 1039, 1040, 1042, 35, 1043, 1044, 1046, 36, 1047, 1048, 1050] (by decide +kernel) (by decide +kernel) w h).1
set_option maxRecDepth 20000 in
theorem wsL_law0_r12_in : ∀ w ∈ wsL_law0_r12, w ∈ lw_tbl2 := fun w h => (goodIn_r (big := lw_tbl2) wsL_law0_r12 [37, 1051, 1000, 1052, 1054, 38, 1055, 1032, 1033, 1034, 1035, 426, 427, 428, 429, 430, 431, 432, 433, 434, 61, 1056, 1057, 1058] (by decide +kernel) (by decide +kernel) w h).1
set_option maxRecDepth 20000 in
theorem wsL_law0_r13_in : ∀ w ∈ wsL_law0_r13, w ∈ lw_tbl2 := fun w h => (goodIn_r (big := lw_tbl2) wsL_law0_r13 [1059, 275, 276, 277, 278, 279, 280, 281, 282, 1060, 1061, 1062, 1063, 450, 451, 452, 453, 454, 455, 456, 457, 458, 459, 460] (by decide +kernel) (by decide +kernel) w h).1
set_option maxRecDepth 20000 in
theorem wsL_law0_r14_in : ∀ w ∈ wsL_law0_r14, w ∈ lw_tbl2 := fun w h => (goodIn_r (big := lw_tbl2) wsL_law0_r14 [461, 462, 463, 464, 1064, 1065, 1066, 1067, 465, 466, 467, 468, 469, 470, 471, 472, 1068, 1069, 1070, 1071, 1072, 473, 474, 475] (by decide +kernel) (by decide +kernel) w h).1
set_option maxRecDepth 20000 in
theorem wsL_law0_r15_in : ∀ w ∈ wsL_law0_r15, w ∈ lw_tbl2 := fun w h => (goodIn_r (big := lw_tbl2) wsL_law0_r15 [476, 477, 478, 479, 480, 481, 482, 484, 485, 486, 487, 1073, 1074, 1075, 1076, 1077, 1079, 39, 1080, 488, 489, 490, 491, 492] (by decide +kernel) (by decide +kernel) w h).1
set_option maxRecDepth 20000 in
theorem wsL_law0_r16_in : ∀ w ∈ wsL_law0_r16, w ∈ lw_tbl2 := fun w h => (goodIn_r (big := lw_tbl2) wsL_law0_r16 [493, 494, 495, 496, 497, 498, 1081, 1082, 1083, 1084, 499, 500, 501, 502, 503, 504, 505, 506, 507, 508, 509, 1085, 1086, 1087] (by decide +kernel) (by decide +kernel) w h).1
set_option maxRecDepth 20000 in
theorem wsL_law0_r17_in : ∀ w ∈ wsL_law0_r17, w ∈ lw_tbl2 := fun w h => (goodIn_r (big := lw_tbl2) wsL_law0_r17 [1088, 303, 304, 305, 306, 307, 308, 309, 310, 1089, 1090, 1091, 1092, 510, 511, 512, 513, 514, 515, 516, 517, 518, 519, 521] (by decide +kernel) (by decide +kernel) w h).1
set_option maxRecDepth 20000 in
theorem wsL_law0_r18_in : ∀ w ∈ wsL_law0_r18, w ∈ lw_tbl2 := fun w h => (goodIn_r (big := lw_tbl2) wsL_law0_r18 [523, 16, 524, 525, 526, 527, 528, 529, 530, 531, 532, 533, 534, 535, 536, 537, 539, 17, 540, 541, 542, 543, 544, 1093] (by decide +kernel) (by decide +kernel) w h).1
set_option maxRecDepth 20000 in
theorem wsL_law0_r19_in : ∀ w ∈ wsL_law0_r19, w ∈ lw_tbl2 := fun w h => (goodIn_r (big := lw_tbl2) wsL_law0_r19 [1094, 1095, 1096, 1097, 1099, 40, 1100, 1101, 1103, 41, 1104, 545, 546, 547, 548, 549, 550, 551, 552, 554, 18, 555, 556, 558] (by decide +kernel) (by decide +kernel) w h).1
set_option maxRecDepth 20000 in
theorem wsL_law0_r20_in : ∀ w ∈ wsL_law0_r20, w ∈ lw_tbl2 := fun w h => (goodIn_r (big := lw_tbl2) wsL_law0_r20 [19, 559, 560, 561, 563, 20, 564, 565, 566, 568, 21, 569, 570, 571, 572, 573, 574, 575, 576, 577, 578, 1105, 1106, 1107] (by decide +kernel) (by decide +kernel) w h).1
set_option maxRecDepth 20000 in
theorem wsL_law0_r21_in : ∀ w ∈ wsL_law0_r21, w ∈ lw_tbl2 := fun w h => (goodIn_r (big := lw_tbl2) wsL_law0_r21 [1108, 1109, 1111, 42, 1112, 579, 580, 581, 582, 583, 584, 585, 586, 587, 588, 589, 590, 592, 22, 593, 594, 595, 596, 597] (by decide +kernel) (by decide +kernel) w h).1
set_option maxRecDepth 20000 in
theorem wsL_law0_r22_in : ∀ w ∈ wsL_law0_r22, w ∈ lw_tbl2 := fun w h => (goodIn_r (big := lw_tbl2) wsL_law0_r22 [598, 599, 600, 601, 602, 603, 605, 23, 606, 607, 609, 24, 610, 611, 612, 613, 614, 1113, 1114, 1115, 1116, 1117, 1118, 615] (by decide +kernel) (by decide +kernel) w h).1
set_option maxRecDepth 20000 in
theorem wsL_law0_r23_in : ∀ w ∈ wsL_law0_r23, w ∈ lw_tbl2 := fun w h => (goodIn_r (big := lw_tbl2) wsL_law0_r23 [616, 617, 618, 619, 620, 621, 622, 624, 25, 625, 626, 627, 628, 629, 630, 1147, 178, 631, 632, 633, 634, 62, 169, 167] (by decide +kernel) (by decide +kernel) w h).1
set_option maxRecDepth 20000 in
theorem wsL_law0_r24_in : ∀ w ∈ wsL_law0_r24, w ∈ lw_tbl2 := fun w h => (goodIn_r (big := lw_tbl2) wsL_law0_r24 [652, 1150, 0, 654, 655, 656, 1151, 1, 658, 659, 670, 660, 661, 63, 662, 663, 664, 665, 666, 667, 668, 669, 671, 672] (by decide +kernel) (by decide +kernel) w h).1
set_option maxRecDepth 20000 in
theorem wsL_law0_r25_in : ∀ w ∈ wsL_law0_r25, w ∈ lw_tbl2 := fun w h => (goodIn_r (big := lw_tbl2) wsL_law0_r25 [64, 673, 674, 675, 676, 677, 678, 680, 681, 682, 684, 683, 65, 685, 687, 688, 686, 689, 860, 861, 67, 862, 863, 864] (by decide +kernel) (by decide +kernel) w h).1
set_option maxRecDepth 20000 in
theorem wsL_law0_r26_in : ∀ w ∈ wsL_law0_r26, w ∈ lw_tbl2 := fun w h => (goodIn_r (big := lw_tbl2) wsL_law0_r26 [865, 866, 867, 868, 821, 872, 873, 69, 895, 896, 897, 898, 900, 642, 643, 644, 645, 1148, 646, 647, 648, 1149, 2, 650] (by decide +kernel) (by decide +kernel) w h).1
set_option maxRecDepth 20000 in
theorem wsL_law0_r27_in : ∀ w ∈ wsL_law0_r27, w ∈ lw_tbl2 := fun w h => (goodIn_r (big := lw_tbl2) wsL_law0_r27 [651, 690, 691, 692, 710, 693, 694, 695, 696, 697, 698, 699, 700, 51, 701, 702, 704, 705, 66, 706, 707, 708, 709, 712] (by decide +kernel) (by decide +kernel) w h).1
set_option maxRecDepth 20000 in
theorem wsL_law0_r28_in : ∀ w ∈ wsL_law0_r28, w ∈ lw_tbl2 := fun w h => (goodIn_r (big := lw_tbl2) wsL_law0_r28 [714, 716, 717, 718, 719, 841, 720, 721, 722, 723, 724, 842, 725, 1152, 3, 727, 728, 729, 1153, 4, 731, 732, 733, 734] (by decide +kernel) (by decide +kernel) w h).1
set_option maxRecDepth 20000 in
theorem wsL_law0_r29_in : ∀ w ∈ wsL_law0_r29, w ∈ lw_tbl2 := fun w h => (goodIn_r (big := lw_tbl2) wsL_law0_r29 [1154, 5, 736, 737, 738, 739, 740, 741, 742, 743, 744, 745, 746, 747, 748, 749, 750, 751, 752, 753, 754, 755, 756, 757] (by decide +kernel) (by decide +kernel) w h).1
set_option maxRecDepth 20000 in
theorem wsL_law0_r30_in : ∀ w ∈ wsL_law0_r30, w ∈ lw_tbl2 := fun w h => (goodIn_r (big := lw_tbl2) wsL_law0_r30 [758, 901, 902, 903, 904, 905, 1156, 906, 907, 908, 909, 910, 911, 912, 913, 914, 915, 916, 917, 918, 919, 920, 921, 922] (by decide +kernel) (by decide +kernel) w h).1
set_option maxRecDepth 20000 in
theorem wsL_law0_r31_in : ∀ w ∈ wsL_law0_r31, w ∈ lw_tbl2 := fun w h => (goodIn_r (big := lw_tbl2) wsL_law0_r31 [923, 760, 761, 762, 763, 1155, 764, 765, 766, 767, 68, 768, 769, 770, 771, 772, 774, 776, 777, 778, 779, 780, 781, 782] (by decide +kernel) (by decide +kernel) w h).1
set_option maxRecDepth 20000 in
theorem wsL_law0_r32_in : ∀ w ∈ wsL_law0_r32, w ∈ lw_tbl2 := fun w h => (goodIn_r (big := lw_tbl2) wsL_law0_r32 [783, 925, 926, 927, 931, 806, 1157, 807, 808, 804, 803, 809, 932, 933, 934, 935, 936, 1158, 937, 938, 939, 940, 941, 835] (by decide +kernel) (by decide +kernel) w h).1
set_option maxRecDepth 20000 in
theorem wsL_law0_r33_in : ∀ w ∈ wsL_law0_r33, w ∈ lw_tbl2 := fun w h => (goodIn_r (big := lw_tbl2) wsL_law0_r33 [836, 1119, 1120, 1121, 1122, 1124, 1125, 1126, 1127, 1128, 1129, 1130, 1131, 1132, 1133, 1134, 1135, 1136, 1137, 1138, 834, 1139, 1141, 43] (by decide +kernel) (by decide +kernel) w h).1
set_option maxRecDepth 20000 in
theorem wsL_law0_r34_in : ∀ w ∈ wsL_law0_r34, w ∈ lw_tbl2 := fun w h => (goodIn_r (big := lw_tbl2) wsL_law0_r34 [1142] (by decide +kernel) (by decide +kernel) w h).1
set_option maxRecDepth 20000 in
theorem wsX40_in : ∀ w ∈ wsX40, w ∈ lw_tbl2 := fun w h => (goodIn_r (big := lw_tbl2) wsX40 [260, 262, 264, 266, 268, 270, 272] (by decide +kernel) (by decide +kernel) w h).1
set_option maxRecDepth 20000 in
theorem wsX50_in : ∀ w ∈ wsX50, w ∈ lw_tbl2 := fun w h => (goodIn_r (big := lw_tbl2) wsX50 [1001, 1003, 1005, 1007, 1009, 1011, 1013, 1015, 1017, 1019, 1021, 1023, 1025, 1027, 1029] (by decide +kernel) (by decide +kernel) w h).1
set_option maxRecDepth 20000 in
theorem wsX10_in : ∀ w ∈ wsX10, w ∈ lw_tbl2 := fun w h => (goodIn_r (big := lw_tbl2) wsX10 [92, 94, 96, 98, 100, 102] (by decide +kernel) (by decide +kernel) w h).1
set_option maxRecDepth 20000 in
theorem wsX20_in : ∀ w ∈ wsX20, w ∈ lw_tbl2 := fun w h => (goodIn_r (big := lw_tbl2) wsX20 [118, 120, 122, 124] (by decide +kernel) (by decide +kernel) w h).1
set_option maxRecDepth 20000 in
theorem wsX00_in : ∀ w ∈ wsX00, w ∈ lw_tbl2 := fun w h => (goodIn_r (big := lw_tbl2) wsX00 [139, 141, 143] (by decide +kernel) (by decide +kernel) w h).1
set_option maxRecDepth 20000 in
theorem wsJ40_in : ∀ w ∈ wsJ40, w ∈ lw_tbl2 := fun w h => (goodIn_r (big := lw_tbl2) wsJ40 [170, 172, 174, 176] (by decide +kernel) (by decide +kernel) w h).1
set_option maxRecDepth 20000 in
theorem wsX30_in : ∀ w ∈ wsX30, w ∈ lw_tbl2 := fun w h => (goodIn_r (big := lw_tbl2) wsX30 [193, 195, 197, 199, 201, 203] (by decide +kernel) (by decide +kernel) w h).1
set_option maxRecDepth 20000 in
theorem wsJx7c7330_in : ∀ w ∈ wsJx7c7330, w ∈ lw_tbl2 := fun w h => (goodIn_r (big := lw_tbl2) wsJx7c7330 [853, 854, 855, 856, 857, 858] (by decide +kernel) (by decide +kernel) w h).1
set_option maxRecDepth 20000 in
theorem wsJx000600_in : ∀ w ∈ wsJx000600, w ∈ lw_tbl2 := fun w h => (goodIn_r (big := lw_tbl2) wsJx000600 [878, 879, 880, 881, 882, 893] (by decide +kernel) (by decide +kernel) w h).1
set_option maxRecDepth 20000 in
theorem wsJ00_in : ∀ w ∈ wsJ00, w ∈ lw_tbl2 := fun w h => (goodIn_r (big := lw_tbl2) wsJ00 [843, 845, 847, 849] (by decide +kernel) (by decide +kernel) w h).1
set_option maxRecDepth 20000 in
theorem wsL_law0_rs : ∀ w ∈ (wsL_law0_r1 ++ (wsL_law0_r2 ++ (wsL_law0_r3 ++ (wsL_law0_r4 ++ (wsL_law0_r5 ++ (wsL_law0_r6 ++ (wsL_law0_r7 ++ (wsL_law0_r8 ++ (wsL_law0_r9 ++ (wsL_law0_r10 ++ (wsL_law0_r11 ++ (wsL_law0_r12 ++ (wsL_law0_r13 ++ (wsL_law0_r14 ++ (wsL_law0_r15 ++ (wsL_law0_r16 ++ (wsL_law0_r17 ++ (wsL_law0_r18 ++ (wsL_law0_r19 ++ (wsL_law0_r20 ++ (wsL_law0_r21 ++ (wsL_law0_r22 ++ (wsL_law0_r23 ++ (wsL_law0_r24 ++ (wsL_law0_r25 ++ (wsL_law0_r26 ++ (wsL_law0_r27 ++ (wsL_law0_r28 ++ (wsL_law0_r29 ++ (wsL_law0_r30 ++ (wsL_law0_r31 ++ (wsL_law0_r32 ++ (wsL_law0_r33 ++ (wsL_law0_r34)))))))))))))))))))))))))))))))))), w ∈ lw_tbl2 := fun w h => (List.mem_append.mp h).elim (fun h => wsL_law0_r1_in w h) (fun h => (List.mem_append.mp h).elim (fun h => wsL_law0_r2_in w h) (fun h => (List.mem_append.mp h).elim (fun h => wsL_law0_r3_in w h) (fun h => (List.mem_append.mp h).elim (fun h => wsL_law0_r4_in w h) (fun h => (List.mem_append.mp h).elim (fun h => wsL_law0_r5_in w h) (fun h => (List.mem_append.mp h).elim (fun h => wsL_law0_r6_in w h) (fun h => (List.mem_append.mp h).elim (fun h => wsL_law0_r7_in w h) (fun h => (List.mem_append.mp h).elim (fun h => wsL_law0_r8_in w h) (fun h => (List.mem_append.mp h).elim (fun h => wsL_law0_r9_in w h) (fun h => (List.mem_append.mp h).elim (fun h => wsL_law0_r10_in w h) (fun h => (List.mem_append.mp h).elim (fun h => wsL_law0_r11_in w h) (fun h => (List.mem_append.mp h).elim (fun h => wsL_law0_r12_in w h) (fun h => (List.mem_append.mp h).elim (fun h => wsL_law0_r13_in w h) (fun h => (List.mem_append.mp h).elim (fun h => wsL_law0_r14_in w h) (fun h => (List.mem_append.mp h).elim (fun h => wsL_law0_r15_in w h) (fun h => (List.mem_append.mp h).elim (fun h => wsL_law0_r16_in w h) (fun h => (List.mem_append.mp h).elim (fun h => wsL_law0_r17_in w h) (fun h => (List.mem_append.mp h).elim (fun h => wsL_law0_r18_in w h) (fun h => (List.mem_append.mp h).elim (fun h => wsL_law0_r19_in w h) (fun h => (List.mem_append.mp h).elim (fun h => wsL_law0_r20_in w h) (fun h => (List.mem_append.mp h).elim (fun h => wsL_law0_r21_in w h) (fun h => (List.mem_append.mp h).elim (fun h => wsL_law0_r22_in w h) (fun h => (List.mem_append.mp h).elim (fun h => wsL_law0_r23_in w h) (fun h => (List.mem_append.mp h).elim (fun h => wsL_law0_r24_in w h) (fun h => (List.mem_append.mp h).elim (fun h => wsL_law0_r25_in w h) (fun h => (List.mem_append.mp h).elim (fun h => wsL_law0_r26_in w h) (fun h => (List.mem_append.mp h).elim (fun h => wsL_law0_r27_in w h) (fun h => (List.mem_append.mp h).elim (fun h => wsL_law0_r28_in w h) (fun h => (List.mem_append.mp h).elim (fun h => wsL_law0_r29_in w h) (fun h => (List.mem_append.mp h).elim (fun h => wsL_law0_r30_in w h) (fun h => (List.mem_append.mp h).elim (fun h => wsL_law0_r31_in w h) (fun h => (List.mem_append.mp h).elim (fun h => wsL_law0_r32_in w h) (fun h => (List.mem_append.mp h).elim (fun h => wsL_law0_r33_in w h) (fun h => wsL_law0_r34_in w h)))))))))))))))))))))))))))))))))
set_option maxRecDepth 20000 in
theorem wsL_law_in0 : ∀ w ∈ wsL_law0, w ∈ lw_tbl2 := fun w h => (List.mem_append.mp h).elim (fun h => (List.mem_append.mp h).elim (fun h => (List.mem_append.mp h).elim (fun h => (List.mem_append.mp h).elim (fun h => (List.mem_append.mp h).elim (fun h => (List.mem_append.mp h).elim (fun h => (List.mem_append.mp h).elim (fun h => (List.mem_append.mp h).elim (fun h => (List.mem_append.mp h).elim (fun h => (List.mem_append.mp h).elim (fun h => (List.mem_append.mp h).elim (fun h => wsL_law0_rs w h) (fun h => wsX40_in w h)) (fun h => wsX50_in w h)) (fun h => wsX10_in w h)) (fun h => wsX20_in w h)) (fun h => wsX00_in w h)) (fun h => wsJ40_in w h)) (fun h => wsX30_in w h)) (fun h => wsJx7c7330_in w h)) (fun h => wsJx000600_in w h)) (fun h => wsJ00_in w h)) (fun h => absurd h List.not_mem_nil)
theorem wsL_law_in : ∀ w ∈ wsL_law, w ∈ lw_tbl2 := fun w h => (List.mem_append.mp h).elim (fun h => (List.mem_append.mp h).elim (fun h => (List.mem_append.mp h).elim (fun h => wsL_law_in0 w h) (fun h => List.mem_append_right _ (wsL_law_x1 w h))) (fun h => List.mem_append_right _ (wsL_law_x2 w h))) (fun h => List.mem_append_right _ (wsL_law_x3 w h))
