/-! the law's words are true at its start -/
def lw_six : List MethodName := [⟨"java/lang/AbstractStringBuilder", "ensureCapacityInternal", "(I)V"⟩, ⟨"java/lang/AbstractStringBuilder", "newCapacity", "(I)I"⟩, ⟨"java/lang/AbstractStringBuilder", "appendNull", "()Ljava/lang/AbstractStringBuilder;"⟩, ⟨"java/lang/AbstractStringBuilder", "putStringAt", "(ILjava/lang/String;)V"⟩, ⟨"java/lang/AbstractStringBuilder", "inflateIfNeededFor", "(Ljava/lang/String;)V"⟩, ⟨"java/lang/AbstractStringBuilder", "inflate", "()V"⟩]
/-- a private method of a class above, chosen by an object of C -/
theorem sel_privC {C : String} {y z : MethodName} {s : State} {args : Array Value} (hy : y.cls ≠ "java/lang/invoke/MethodHandle" ∧ y.cls ≠ "java/lang/invoke/VarHandle") (hz : (Cond.selects C z z).before args s = true) (hc : z.cls = y.cls) (hpriv : (Cond.privateMethod y).before args s = true) (hinst : (Cond.instanceMethod y).before args s = true) :
    (Cond.selects C y y).before args s = true := by
  obtain ⟨c, r, m, h1, h2, h3, h4, mk, h5, h6⟩ := Cond.selects_spec hz
  obtain ⟨my, methM, hnamed, hmethM, -, -⟩ := Cond.instanceMethod_spec hinst
  have hfound : s.methodFound? y.cls y.name y.desc = some my := State.methodFound?_of_named hnamed hy
  have hcls : my.cls = m.cls := Option.some.inj ((findClass_of_methodNamed hnamed).symm.trans (by rw [← hc]; exact findClass_of_methodNamed h3))
  have hsel : selectMethod {} s.vm c my = .method my := selectMethod_private hmethM (Cond.privateMethod_at hpriv my methM hnamed hmethM)
  simp only [Cond.before, Cond.holds, Cond.value, h1, hfound, hnamed, hsel, hcls, h5]
  simp; exact h6
def lw_tbl2 : List Cond := lw_six.map (fun y => Cond.selects "java/lang/StringBuilder" y y) ++ lw_tbl
theorem lw_six_ok : ∀ y ∈ lw_six, (y.cls ≠ "java/lang/invoke/MethodHandle" ∧ y.cls ≠ "java/lang/invoke/VarHandle") ∧ (⟨"java/lang/AbstractStringBuilder", "isLatin1", "()Z"⟩ : MethodName).cls = y.cls ∧ Cond.privateMethod y ∈ lw_tbl ∧ Cond.instanceMethod y ∈ lw_tbl := by
  intro y hy
  unfold lw_six at hy
  rcases List.mem_cons.mp hy with rfl | hy
  · exact ⟨⟨by decide +kernel, by decide +kernel⟩, rfl, List.mem_of_getElem? (i := 500) (by decide +kernel), List.mem_of_getElem? (i := 501) (by decide +kernel)⟩
  rcases List.mem_cons.mp hy with rfl | hy
  · exact ⟨⟨by decide +kernel, by decide +kernel⟩, rfl, List.mem_of_getElem? (i := 504) (by decide +kernel), List.mem_of_getElem? (i := 505) (by decide +kernel)⟩
  rcases List.mem_cons.mp hy with rfl | hy
  · exact ⟨⟨by decide +kernel, by decide +kernel⟩, rfl, List.mem_of_getElem? (i := 496) (by decide +kernel), List.mem_of_getElem? (i := 497) (by decide +kernel)⟩
  rcases List.mem_cons.mp hy with rfl | hy
  · exact ⟨⟨by decide +kernel, by decide +kernel⟩, rfl, List.mem_of_getElem? (i := 573) (by decide +kernel), List.mem_of_getElem? (i := 574) (by decide +kernel)⟩
  rcases List.mem_cons.mp hy with rfl | hy
  · exact ⟨⟨by decide +kernel, by decide +kernel⟩, rfl, List.mem_of_getElem? (i := 577) (by decide +kernel), List.mem_of_getElem? (i := 578) (by decide +kernel)⟩
  rcases List.mem_cons.mp hy with rfl | hy
  · exact ⟨⟨by decide +kernel, by decide +kernel⟩, rfl, List.mem_of_getElem? (i := 582) (by decide +kernel), List.mem_of_getElem? (i := 583) (by decide +kernel)⟩
  exact absurd hy List.not_mem_nil
theorem lw_hts2 {s : State} {args : Array Value} (h : ∀ w ∈ lw_tbl, w.before args s = true) : ∀ w ∈ lw_tbl2, w.before args s = true := by
  intro w hw
  rcases List.mem_append.mp hw with hw | hw
  · obtain ⟨y, hy, rfl⟩ := List.mem_map.mp hw
    obtain ⟨h1, h2, h3, h4⟩ := lw_six_ok y hy
    exact sel_privC (z := ⟨"java/lang/AbstractStringBuilder", "isLatin1", "()Z"⟩) h1 (h _ (List.mem_of_getElem? (i := 535) (by decide +kernel))) h2 (h _ h3) (h _ h4)
  · exact h w hw
set_option maxRecDepth 20000 in
theorem wsL_law0_r1_in : ∀ w ∈ wsL_law0_r1, w ∈ lw_tbl2 := fun w h => (goodIn_r (big := lw_tbl2) wsL_law0_r1 [42, 43, 18, 813, 44, 45, 46, 47, 48, 49, 50, 51, 19, 222, 78, 223, 80, 81, 20, 224, 100, 101, 21, 225] (by decide +kernel) (by decide +kernel) w h).1
set_option maxRecDepth 20000 in
theorem wsL_law0_r2_in : ∀ w ∈ wsL_law0_r2, w ∈ lw_tbl2 := fun w h => (goodIn_r (big := lw_tbl2) wsL_law0_r2 [119, 120, 23, 226, 227, 228, 152, 26, 53, 54, 55, 56, 77, 58, 59, 60, 61, 62, 63, 83, 84, 85, 99, 86] (by decide +kernel) (by decide +kernel) w h).1
set_option maxRecDepth 20000 in
theorem wsL_law0_r3_in : ∀ w ∈ wsL_law0_r3, w ∈ lw_tbl2 := fun w h => (goodIn_r (big := lw_tbl2) wsL_law0_r3 [87, 88, 89, 103, 104, 105, 106, 118, 108, 109, 110, 121, 122, 123, 124, 125, 22, 126, 127, 128, 151, 137, 138, 130] (by decide +kernel) (by decide +kernel) w h).1
set_option maxRecDepth 20000 in
theorem wsL_law0_r4_in : ∀ w ∈ wsL_law0_r4, w ∈ lw_tbl2 := fun w h => (goodIn_r (big := lw_tbl2) wsL_law0_r4 [131, 25, 132, 133, 134, 135, 136, 153, 154, 155, 156, 160, 161, 157, 162, 163, 159, 175, 177, 6, 178, 179, 180, 181] (by decide +kernel) (by decide +kernel) w h).1
set_option maxRecDepth 20000 in
theorem wsL_law0_r5_in : ∀ w ∈ wsL_law0_r5, w ∈ lw_tbl2 := fun w h => (goodIn_r (big := lw_tbl2) wsL_law0_r5 [182, 183, 184, 185, 186, 187, 192, 188, 190, 7, 191, 193, 195, 8, 196, 197, 198, 200, 9, 201, 202, 203, 204, 205] (by decide +kernel) (by decide +kernel) w h).1
set_option maxRecDepth 20000 in
theorem wsL_law0_r6_in : ∀ w ∈ wsL_law0_r6, w ∈ lw_tbl2 := fun w h => (goodIn_r (big := lw_tbl2) wsL_law0_r6 [206, 207, 208, 209, 210, 212, 10, 213, 214, 215, 216, 217, 218, 219, 220, 221, 244, 245, 17, 246, 247, 248, 249, 250] (by decide +kernel) (by decide +kernel) w h).1
set_option maxRecDepth 20000 in
theorem wsL_law0_r7_in : ∀ w ∈ wsL_law0_r7, w ∈ lw_tbl2 := fun w h => (goodIn_r (big := lw_tbl2) wsL_law0_r7 [251, 448, 449, 450, 451, 452, 453, 454, 262, 263, 264, 265, 30, 424, 425, 426, 455, 456, 457, 458, 420, 421, 422, 423] (by decide +kernel) (by decide +kernel) w h).1
set_option maxRecDepth 20000 in
theorem wsL_law0_r8_in : ∀ w ∈ wsL_law0_r8, w ∈ lw_tbl2 := fun w h => (goodIn_r (big := lw_tbl2) wsL_law0_r8 [428, 429, 430, 431, 459, 460, 461, 462, 463, 464, 465, 466, 467, 468, 469, 470, 334, 335, 336, 471, 472, 473, 475, 477] (by decide +kernel) (by decide +kernel) w h).1
set_option maxRecDepth 20000 in
theorem wsL_law0_r9_in : ∀ w ∈ wsL_law0_r9, w ∈ lw_tbl2 := fun w h => (goodIn_r (big := lw_tbl2) wsL_law0_r9 [16, 478, 479, 480, 481, 482, 483, 815, 150, 484, 485, 486, 487, 31, 141, 139, 505, 818, 0, 507, 508, 509, 819, 1] (by decide +kernel) (by decide +kernel) w h).1
set_option maxRecDepth 20000 in
theorem wsL_law0_r10_in : ∀ w ∈ wsL_law0_r10, w ∈ lw_tbl2 := fun w h => (goodIn_r (big := lw_tbl2) wsL_law0_r10 [511, 512, 523, 513, 514, 32, 515, 516, 517, 33, 518, 519, 520, 521, 522, 524, 525, 34, 526, 527, 528, 529, 530, 531] (by decide +kernel) (by decide +kernel) w h).1
set_option maxRecDepth 20000 in
theorem wsL_law0_r11_in : ∀ w ∈ wsL_law0_r11, w ∈ lw_tbl2 := fun w h => (goodIn_r (big := lw_tbl2) wsL_law0_r11 [533, 534, 362, 363, 535, 537, 536, 35, 538, 540, 541, 539, 542, 713, 714, 37, 715, 716, 717, 718, 719, 720, 721, 674] (by decide +kernel) (by decide +kernel) w h).1
set_option maxRecDepth 20000 in
theorem wsL_law0_r12_in : ∀ w ∈ wsL_law0_r12, w ∈ lw_tbl2 := fun w h => (goodIn_r (big := lw_tbl2) wsL_law0_r12 [725, 726, 40, 748, 749, 750, 751, 357, 358, 359, 360, 753, 495, 496, 497, 498, 816, 499, 500, 501, 817, 2, 503, 504] (by decide +kernel) (by decide +kernel) w h).1
set_option maxRecDepth 20000 in
theorem wsL_law0_r13_in : ∀ w ∈ wsL_law0_r13, w ∈ lw_tbl2 := fun w h => (goodIn_r (big := lw_tbl2) wsL_law0_r13 [543, 544, 545, 563, 546, 547, 548, 549, 550, 551, 552, 553, 24, 554, 555, 557, 558, 36, 559, 560, 561, 562, 565, 567] (by decide +kernel) (by decide +kernel) w h).1
set_option maxRecDepth 20000 in
theorem wsL_law0_r14_in : ∀ w ∈ wsL_law0_r14, w ∈ lw_tbl2 := fun w h => (goodIn_r (big := lw_tbl2) wsL_law0_r14 [569, 570, 571, 572, 694, 573, 574, 575, 576, 577, 695, 578, 820, 3, 580, 581, 582, 821, 4, 584, 585, 586, 587, 822] (by decide +kernel) (by decide +kernel) w h).1
set_option maxRecDepth 20000 in
theorem wsL_law0_r15_in : ∀ w ∈ wsL_law0_r15, w ∈ lw_tbl2 := fun w h => (goodIn_r (big := lw_tbl2) wsL_law0_r15 [5, 589, 590, 591, 592, 593, 594, 595, 596, 597, 598, 599, 600, 601, 602, 603, 604, 605, 606, 607, 608, 609, 610, 611] (by decide +kernel) (by decide +kernel) w h).1
set_option maxRecDepth 20000 in
theorem wsL_law0_r16_in : ∀ w ∈ wsL_law0_r16, w ∈ lw_tbl2 := fun w h => (goodIn_r (big := lw_tbl2) wsL_law0_r16 [754, 755, 756, 757, 758, 824, 759, 760, 761, 762, 763, 764, 765, 766, 767, 768, 769, 770, 771, 772, 773, 774, 775, 776] (by decide +kernel) (by decide +kernel) w h).1
set_option maxRecDepth 20000 in
theorem wsL_law0_r17_in : ∀ w ∈ wsL_law0_r17, w ∈ lw_tbl2 := fun w h => (goodIn_r (big := lw_tbl2) wsL_law0_r17 [613, 614, 615, 616, 823, 617, 618, 619, 620, 38, 621, 622, 623, 624, 625, 627, 629, 630, 631, 632, 633, 634, 635, 636] (by decide +kernel) (by decide +kernel) w h).1
set_option maxRecDepth 20000 in
theorem wsL_law0_r18_in : ∀ w ∈ wsL_law0_r18, w ∈ lw_tbl2 := fun w h => (goodIn_r (big := lw_tbl2) wsL_law0_r18 [412, 413, 414, 415, 778, 779, 780, 784, 659, 825, 660, 661, 657, 656, 662, 785, 786, 787, 788, 789, 826, 790, 791, 792] (by decide +kernel) (by decide +kernel) w h).1
set_option maxRecDepth 20000 in
theorem wsL_law0_r19_in : ∀ w ∈ wsL_law0_r19, w ∈ lw_tbl2 := fun w h => (goodIn_r (big := lw_tbl2) wsL_law0_r19 [793, 794, 688, 689, 795, 796, 797, 798, 799, 800, 801, 802, 440, 441, 442, 256, 443, 444, 445, 446, 447, 338, 339, 340] (by decide +kernel) (by decide +kernel) w h).1
set_option maxRecDepth 20000 in
theorem wsL_law0_r20_in : ∀ w ∈ wsL_law0_r20, w ∈ lw_tbl2 := fun w h => (goodIn_r (big := lw_tbl2) wsL_law0_r20 [341, 39, 810, 811, 812, 252, 253, 254, 255, 257, 258, 259, 260, 261, 361, 364, 365, 366, 367, 368, 370, 12, 371, 372] (by decide +kernel) (by decide +kernel) w h).1
set_option maxRecDepth 20000 in
theorem wsL_law0_r21_in : ∀ w ∈ wsL_law0_r21, w ∈ lw_tbl2 := fun w h => (goodIn_r (big := lw_tbl2) wsL_law0_r21 [374, 13, 375, 376, 378, 14, 379, 380, 381, 382, 383, 384, 386, 15, 387, 388, 389, 390, 391, 392, 41, 408, 409, 410] (by decide +kernel) (by decide +kernel) w h).1
set_option maxRecDepth 20000 in
theorem wsL_law0_r22_in : ∀ w ∈ wsL_law0_r22, w ∈ lw_tbl2 := fun w h => (goodIn_r (big := lw_tbl2) wsL_law0_r22 [411, 416, 417, 418, 419, 432, 433, 434, 435, 436, 437, 438, 439, 803, 804, 805, 806, 807, 808, 809] (by decide +kernel) (by decide +kernel) w h).1
set_option maxRecDepth 20000 in
theorem wsX40_in : ∀ w ∈ wsX40, w ∈ lw_tbl2 := fun w h => (goodIn_r (big := lw_tbl2) wsX40 [229, 231, 233, 235, 237, 239, 241] (by decide +kernel) (by decide +kernel) w h).1
set_option maxRecDepth 20000 in
theorem wsX10_in : ∀ w ∈ wsX10, w ∈ lw_tbl2 := fun w h => (goodIn_r (big := lw_tbl2) wsX10 [64, 66, 68, 70, 72, 74] (by decide +kernel) (by decide +kernel) w h).1
set_option maxRecDepth 20000 in
theorem wsX20_in : ∀ w ∈ wsX20, w ∈ lw_tbl2 := fun w h => (goodIn_r (big := lw_tbl2) wsX20 [90, 92, 94, 96] (by decide +kernel) (by decide +kernel) w h).1
set_option maxRecDepth 20000 in
theorem wsX00_in : ∀ w ∈ wsX00, w ∈ lw_tbl2 := fun w h => (goodIn_r (big := lw_tbl2) wsX00 [111, 113, 115] (by decide +kernel) (by decide +kernel) w h).1
set_option maxRecDepth 20000 in
theorem wsJ40_in : ∀ w ∈ wsJ40, w ∈ lw_tbl2 := fun w h => (goodIn_r (big := lw_tbl2) wsJ40 [142, 144, 146, 148] (by decide +kernel) (by decide +kernel) w h).1
set_option maxRecDepth 20000 in
theorem wsX30_in : ∀ w ∈ wsX30, w ∈ lw_tbl2 := fun w h => (goodIn_r (big := lw_tbl2) wsX30 [164, 166, 168, 170, 172] (by decide +kernel) (by decide +kernel) w h).1
set_option maxRecDepth 20000 in
theorem wsJx7c7330_in : ∀ w ∈ wsJx7c7330, w ∈ lw_tbl2 := fun w h => (goodIn_r (big := lw_tbl2) wsJx7c7330 [706, 707, 708, 709, 710, 711] (by decide +kernel) (by decide +kernel) w h).1
set_option maxRecDepth 20000 in
theorem wsJx000600_in : ∀ w ∈ wsJx000600, w ∈ lw_tbl2 := fun w h => (goodIn_r (big := lw_tbl2) wsJx000600 [731, 732, 733, 734, 735, 746] (by decide +kernel) (by decide +kernel) w h).1
set_option maxRecDepth 20000 in
theorem wsJ00_in : ∀ w ∈ wsJ00, w ∈ lw_tbl2 := fun w h => (goodIn_r (big := lw_tbl2) wsJ00 [696, 698, 700, 702] (by decide +kernel) (by decide +kernel) w h).1
set_option maxRecDepth 20000 in
theorem wsL_law0_rs : ∀ w ∈ (wsL_law0_r1 ++ (wsL_law0_r2 ++ (wsL_law0_r3 ++ (wsL_law0_r4 ++ (wsL_law0_r5 ++ (wsL_law0_r6 ++ (wsL_law0_r7 ++ (wsL_law0_r8 ++ (wsL_law0_r9 ++ (wsL_law0_r10 ++ (wsL_law0_r11 ++ (wsL_law0_r12 ++ (wsL_law0_r13 ++ (wsL_law0_r14 ++ (wsL_law0_r15 ++ (wsL_law0_r16 ++ (wsL_law0_r17 ++ (wsL_law0_r18 ++ (wsL_law0_r19 ++ (wsL_law0_r20 ++ (wsL_law0_r21 ++ (wsL_law0_r22)))))))))))))))))))))), w ∈ lw_tbl2 := fun w h => (List.mem_append.mp h).elim (fun h => wsL_law0_r1_in w h) (fun h => (List.mem_append.mp h).elim (fun h => wsL_law0_r2_in w h) (fun h => (List.mem_append.mp h).elim (fun h => wsL_law0_r3_in w h) (fun h => (List.mem_append.mp h).elim (fun h => wsL_law0_r4_in w h) (fun h => (List.mem_append.mp h).elim (fun h => wsL_law0_r5_in w h) (fun h => (List.mem_append.mp h).elim (fun h => wsL_law0_r6_in w h) (fun h => (List.mem_append.mp h).elim (fun h => wsL_law0_r7_in w h) (fun h => (List.mem_append.mp h).elim (fun h => wsL_law0_r8_in w h) (fun h => (List.mem_append.mp h).elim (fun h => wsL_law0_r9_in w h) (fun h => (List.mem_append.mp h).elim (fun h => wsL_law0_r10_in w h) (fun h => (List.mem_append.mp h).elim (fun h => wsL_law0_r11_in w h) (fun h => (List.mem_append.mp h).elim (fun h => wsL_law0_r12_in w h) (fun h => (List.mem_append.mp h).elim (fun h => wsL_law0_r13_in w h) (fun h => (List.mem_append.mp h).elim (fun h => wsL_law0_r14_in w h) (fun h => (List.mem_append.mp h).elim (fun h => wsL_law0_r15_in w h) (fun h => (List.mem_append.mp h).elim (fun h => wsL_law0_r16_in w h) (fun h => (List.mem_append.mp h).elim (fun h => wsL_law0_r17_in w h) (fun h => (List.mem_append.mp h).elim (fun h => wsL_law0_r18_in w h) (fun h => (List.mem_append.mp h).elim (fun h => wsL_law0_r19_in w h) (fun h => (List.mem_append.mp h).elim (fun h => wsL_law0_r20_in w h) (fun h => (List.mem_append.mp h).elim (fun h => wsL_law0_r21_in w h) (fun h => wsL_law0_r22_in w h)))))))))))))))))))))
set_option maxRecDepth 20000 in
theorem wsL_law_in0 : ∀ w ∈ wsL_law0, w ∈ lw_tbl2 := fun w h => (List.mem_append.mp h).elim (fun h => (List.mem_append.mp h).elim (fun h => (List.mem_append.mp h).elim (fun h => (List.mem_append.mp h).elim (fun h => (List.mem_append.mp h).elim (fun h => (List.mem_append.mp h).elim (fun h => (List.mem_append.mp h).elim (fun h => (List.mem_append.mp h).elim (fun h => (List.mem_append.mp h).elim (fun h => (List.mem_append.mp h).elim (fun h => wsL_law0_rs w h) (fun h => wsX40_in w h)) (fun h => wsX10_in w h)) (fun h => wsX20_in w h)) (fun h => wsX00_in w h)) (fun h => wsJ40_in w h)) (fun h => wsX30_in w h)) (fun h => wsJx7c7330_in w h)) (fun h => wsJx000600_in w h)) (fun h => wsJ00_in w h)) (fun h => absurd h List.not_mem_nil)
theorem wsL_law_in : ∀ w ∈ wsL_law, w ∈ lw_tbl2 := fun w h => (List.mem_append.mp h).elim (fun h => (List.mem_append.mp h).elim (fun h => (List.mem_append.mp h).elim (fun h => wsL_law_in0 w h) (fun h => List.mem_append_right _ (wsL_law_x1 w h))) (fun h => List.mem_append_right _ (wsL_law_x2 w h))) (fun h => List.mem_append_right _ (wsL_law_x3 w h))
