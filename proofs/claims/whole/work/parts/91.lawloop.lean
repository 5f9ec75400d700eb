/-! the law's loop -/
theorem lw_gt {t L : Nat} (hL : L ≤ 2560) (ht : t ≤ 512) : (Int32.ofNat L - 5 < nI (5 * t)) ↔ L < 5 * t + 5 := by
  rw [Int32.lt_iff_toInt_lt, Int32.toInt_sub, nI_toInt (by omega), show Int32.ofNat L = nI L from rfl, nI_toInt (by omega), show (5 : Int32).toInt = 5 from rfl]
  have e : ((L : Int) - 5).bmod (2 ^ 32) = (L : Int) - 5 := by
    unfold Int.bmod
    dsimp only
    split <;> omega
  rw [e]
  omega
theorem and15 (x : Int32) : ∃ v, v < 16 ∧ x &&& 15 = nI v := by
  refine ⟨(x &&& 15).toBitVec.toNat, ?_, ?_⟩
  · have e : (x &&& 15).toBitVec = x.toBitVec &&& 15#32 := rfl
    rw [e, BitVec.toNat_and]
    exact Nat.lt_of_le_of_lt Nat.and_le_right (by decide)
  · apply Int32.toBitVec_inj.mp
    show _ = (Int32.ofNat _).toBitVec
    rw [Int32.toBitVec_ofNat']
    simp

set_option maxHeartbeats 800000 in
set_option maxRecDepth 100000 in
theorem law_loop {p : Program} {e : Env} {s : State} {m : MethodId} {below : List Frame} {meth : Method} {c : Code} (l : Launch) (hst : l.stackTraces = false) {b L : Nat} {xs : Nat → Int32} (hL : L ≤ 2560) (C0 : lw_At p s m meth c b L xs) {D : va_G} {cA : Nat → ClassId} {ad K V : Nat → Nat} {tO tT : Nat} (hi : inj 116 ad) (had : ∀ k, k < 116 → s.heap.size ≤ ad k) (hK : WK D cA s) (hXA : XA ad K V tO tT s.heap.size s) : ∀ (n t : Nat), 513 ≤ t + n → t ≤ 512 → ∀ (j : Nat) (I : SI) (J : SJ) (X : SX) (cells slots : Nat), j ≤ t → Inv2 j I J X → cells ≤ 200 + t → slots ≤ 2000 + 6 * t → ∀ (H : Heap) (locs : List Loc) (ls : Array Slot), WP 116 D cA ad I J X H → va_S (fr 116 ad s.heap.size) s.heap H locs → lv_has ls 9 [(5, .int (nI (5 * t))), (4, .ref (ad 115)), (3, .ref (ad 114)), (2, .ref (ad 102)), (1, .ref (ad 0)), (0, .ref b)] → W p l e room_1 s m #[Value.ref b] below meth c H locs cells slots (lw_Z below #[Value.ref b] s) (F0 m 28 ls [])
  | 0, t, h1, h2 => absurd h1 (by omega)
  | n + 1, t, h1, h2 => by
    intro j I J X cells slots hj hv hce hsl H locs ls hP hS hl
    obtain ⟨hx, hb, hr, hml, hown, hts, hX, hbl, hlocks, hgv⟩ := id C0
    have htsL : ∀ w ∈ wsL_law, w.before #[Value.ref b] s = true := fun w hw => lw_hts2 hts w (wsL_law_in w hw)
    have hbA : ¬ fr 116 ad s.heap.size b := st_hA had b hbl
    refine lv_iload hx hb dL_law_28 (lv_at hl 0 rfl) ?_
    refine lv_aload_n hx hb dL_law_30 rfl (lv_at hl 5 rfl) ?_
    refine va_slen hx hb hX hbl hbA hS dL_law_31 ?_
    refine lv_iconst (v := 5) hx hb dL_law_32 (by decide) ?_
    refine lv_isub hx hb dL_law_33 ?_
    refine lv_icmp_gt (tgt := 953) hx hb dL_law_34 (by decide) (fun c1 => ?_) (fun c1 => ?_)
    · refine lv_iconst (v := 1) hx hb dL_law_953 (by decide) ?_
      refine va_forget (fun q hq => ?_) ?_
      · rcases hS.2.2 q hq with ⟨k, hk, e9⟩ | h9
        · rw [e9]; exact had k hk
        · exact h9
      refine W.widen (k := 601024) (n := 7293034) (by omega) (by omega) ?_
      refine W.base ?_
      exact lw_ret (Drawn.sameBut.refl s.drawn lw_cs) hx hb hr hlocks dL_law_954
    · have ht : 5 * t + 5 ≤ L := by
        rcases Nat.lt_or_ge L (5 * t + 5) with z | z
        · exact absurd ((lw_gt hL h2).mpr z) c1
        · exact z
      have ht5 : t + 1 ≤ 512 := by omega
      have kx : ∀ (j' : Nat) (I : SI) (J : SJ) (X : SX) (cl sl : Nat) (H : Heap) (locs : List Loc) (ls : Array Slot), j' ≤ j + 1 → Inv2 j' I J X → cl ≤ cells + 1 → sl ≤ slots + 6 → WP 116 D cA ad I J X H → va_S (fr 116 ad s.heap.size) s.heap H locs → lv_has ls 9 [(5, .int (nI (5 * t))), (4, .ref (ad 115)), (3, .ref (ad 114)), (2, .ref (ad 102)), (1, .ref (ad 0)), (0, .ref b)] → W p l e room_1 s m #[Value.ref b] below meth c H locs cl sl (lw_Z below #[Value.ref b] s) (F0 m 947 ls []) := by
        intro j' I J X cl sl H locs ls g1 g2 g3 g4 g5 g6 g7
        refine lv_iinc (v := nI (5 * (t + 1))) (lv' := [(5, .int (nI (5 * (t + 1)))), (4, .ref (ad 115)), (3, .ref (ad 114)), (2, .ref (ad 102)), (1, .ref (ad 0)), (0, .ref b)]) hx hb dL_law_947 g7 (k := 0) rfl (wn_iadd (a := 5 * t) (b := 5) rfl rfl) (by decide) rfl (fun ls hl => ?_)
        refine lv_goto (tgt := 28) hx hb dL_law_950 (by decide) ?_
        exact law_loop l hst hL C0 hi had hK hXA n (t + 1) (by omega) ht5 j' I J X cl sl (by omega) g2 (by omega) (by omega) H locs ls g5 g6 hl
      refine lv_aload_n hx hb dL_law_37 rfl (lv_at hl 5 rfl) ?_
      refine lv_iload hx hb dL_law_38 (lv_at hl 0 rfl) ?_
      refine lw_sld hx hb hX hbl hbA hS hL (n := 5 * t) (by omega) rfl dL_law_40 ?_
      refine lv_bipush (v := 15) hx hb dL_law_41 (by decide) ?_
      refine lv_iand hx hb dL_law_43 ?_
      obtain ⟨v, hv16, ev⟩ := and15 (xs (5 * t))
      rw [ev]
      have hv9 : v = 0 ∨ v = 1 ∨ v = 2 ∨ v = 3 ∨ v = 4 ∨ v = 5 ∨ v = 6 ∨ v = 7 ∨ v = 8 ∨ v = 9 ∨ v = 10 ∨ v = 11 ∨ v = 12 ∨ v = 13 ∨ v = 14 ∨ v = 15 := by omega
      rcases hv9 with z9 | z9 | z9 | z9 | z9 | z9 | z9 | z9 | z9 | z9 | z9 | z9 | z9 | z9 | z9 | z9
      · rw [z9]
        refine lv_tableIn (off := 68) (tgt := 112) hx hb dL_law_44 (by decide) (by decide) rfl (by decide) ?_
        exact law_c0 l hst hL hx hb hml hown htsL hX hbl hi hbA hK hXA (by omega) hv ht (by omega) (by omega) hP hS (fun j9 I9 J9 X9 H9 locs9 ls9 h1 h2 h3 h4 h5 => kx j9 I9 J9 X9 (cells + 1) (slots + 6) H9 locs9 ls9 h1 h2 (Nat.le_refl _) (Nat.le_refl _) h3 h4 h5) hl
      · rw [z9]
        refine lv_tableIn (off := 148) (tgt := 192) hx hb dL_law_44 (by decide) (by decide) rfl (by decide) ?_
        exact law_c1 l hst hL hx hb hml hown htsL hX hbl hi hbA hK hXA (by omega) hv ht (by omega) (by omega) hP hS (fun j9 I9 J9 X9 H9 locs9 ls9 h1 h2 h3 h4 h5 => kx j9 I9 J9 X9 (cells + 1) (slots + 6) H9 locs9 ls9 h1 h2 (Nat.le_refl _) (Nat.le_refl _) h3 h4 h5) hl
      · rw [z9]
        refine lv_tableIn (off := 216) (tgt := 260) hx hb dL_law_44 (by decide) (by decide) rfl (by decide) ?_
        exact law_c2 l hst hL hx hb hml hown htsL hX hbl hi hbA hK hXA (by omega) hv ht (by omega) (by omega) hP hS (fun j9 I9 J9 X9 H9 locs9 ls9 h1 h2 h3 h4 h5 => kx j9 I9 J9 X9 (cells + 1) (slots + 6) H9 locs9 ls9 h1 h2 (Nat.le_refl _) (Nat.le_refl _) h3 h4 h5) hl
      · rw [z9]
        refine lv_tableIn (off := 229) (tgt := 273) hx hb dL_law_44 (by decide) (by decide) rfl (by decide) ?_
        exact law_c3 l hst hL hx hb hml hown htsL hX hbl hi hbA hK hXA (by omega) hv ht (by omega) (by omega) hP hS (fun j9 I9 J9 X9 H9 locs9 ls9 h1 h2 h3 h4 h5 => kx j9 I9 J9 X9 (cells + 1) (slots + 6) H9 locs9 ls9 h1 h2 (Nat.le_refl _) (Nat.le_refl _) h3 h4 h5) hl
      · rw [z9]
        refine lv_tableIn (off := 297) (tgt := 341) hx hb dL_law_44 (by decide) (by decide) rfl (by decide) ?_
        exact law_c4 l hst hL hx hb hml hown htsL hX hbl hi hbA hK hXA (by omega) hv ht (by omega) (by omega) hP hS (fun j9 I9 J9 X9 H9 locs9 ls9 h1 h2 h3 h4 h5 => kx j9 I9 J9 X9 (cells + 1) (slots + 6) H9 locs9 ls9 h1 h2 (Nat.le_refl _) (Nat.le_refl _) h3 h4 h5) hl
      · rw [z9]
        refine lv_tableIn (off := 345) (tgt := 389) hx hb dL_law_44 (by decide) (by decide) rfl (by decide) ?_
        exact law_c5 l hst hL hx hb hml hown htsL hX hbl hi hbA hK hXA (by omega) hv ht (by omega) (by omega) hP hS (fun j9 I9 J9 X9 H9 locs9 ls9 h1 h2 h3 h4 h5 => kx j9 I9 J9 X9 (cells + 1) (slots + 6) H9 locs9 ls9 h1 h2 (Nat.le_refl _) (Nat.le_refl _) h3 h4 h5) hl
      · rw [z9]
        refine lv_tableIn (off := 413) (tgt := 457) hx hb dL_law_44 (by decide) (by decide) rfl (by decide) ?_
        exact law_c6 l hst hL hx hb hml hown htsL hX hbl hi hbA hK hXA (by omega) hv ht (by omega) (by omega) hP hS (fun j9 I9 J9 X9 H9 locs9 ls9 h1 h2 h3 h4 h5 => kx j9 I9 J9 X9 (cells + 1) (slots + 6) H9 locs9 ls9 h1 h2 (Nat.le_refl _) (Nat.le_refl _) h3 h4 h5) hl
      · rw [z9]
        refine lv_tableIn (off := 481) (tgt := 525) hx hb dL_law_44 (by decide) (by decide) rfl (by decide) ?_
        exact law_c7 l hst hL hx hb hml hown htsL hX hbl hi hbA hK hXA (by omega) hv ht (by omega) (by omega) hP hS (fun j9 I9 J9 X9 H9 locs9 ls9 h1 h2 h3 h4 h5 => kx j9 I9 J9 X9 (cells + 1) (slots + 6) H9 locs9 ls9 h1 h2 (Nat.le_refl _) (Nat.le_refl _) h3 h4 h5) hl
      · rw [z9]
        refine lv_tableIn (off := 561) (tgt := 605) hx hb dL_law_44 (by decide) (by decide) rfl (by decide) ?_
        exact law_c8 l hst hL hx hb hml hown htsL hX hbl hi hbA hK hXA (by omega) hv ht (by omega) (by omega) hP hS (fun j9 I9 J9 X9 H9 locs9 ls9 h1 h2 h3 h4 h5 => kx j9 I9 J9 X9 (cells + 1) (slots + 6) H9 locs9 ls9 h1 h2 (Nat.le_refl _) (Nat.le_refl _) h3 h4 h5) hl
      · rw [z9]
        refine lv_tableIn (off := 574) (tgt := 618) hx hb dL_law_44 (by decide) (by decide) rfl (by decide) ?_
        exact law_c9 l hst hL hx hb hml hown htsL hX hbl hi hbA hK hXA (by omega) hv ht (by omega) (by omega) hP hS (fun j9 I9 J9 X9 H9 locs9 ls9 h1 h2 h3 h4 h5 => kx j9 I9 J9 X9 (cells + 1) (slots + 6) H9 locs9 ls9 h1 h2 (Nat.le_refl _) (Nat.le_refl _) h3 h4 h5) hl
      · rw [z9]
        refine lv_tableIn (off := 642) (tgt := 686) hx hb dL_law_44 (by decide) (by decide) rfl (by decide) ?_
        exact law_c10 l hst hL hx hb hml hown htsL hX hbl hi hbA hK hXA (by omega) hv ht (by omega) (by omega) hP hS (fun j9 I9 J9 X9 H9 locs9 ls9 h1 h2 h3 h4 h5 => kx j9 I9 J9 X9 (cells + 1) (slots + 6) H9 locs9 ls9 h1 h2 (Nat.le_refl _) (Nat.le_refl _) h3 h4 h5) hl
      · rw [z9]
        refine lv_tableIn (off := 734) (tgt := 778) hx hb dL_law_44 (by decide) (by decide) rfl (by decide) ?_
        exact law_c11 l hst hL hx hb hml hown htsL hX hbl hi hbA hK hXA (by omega) hv ht (by omega) (by omega) hP hS (fun j9 I9 J9 X9 H9 locs9 ls9 h1 h2 h3 h4 h5 => kx j9 I9 J9 X9 (cells + 1) (slots + 6) H9 locs9 ls9 h1 h2 (Nat.le_refl _) (Nat.le_refl _) h3 h4 h5) hl
      · rw [z9]
        refine lv_tableIn (off := 823) (tgt := 867) hx hb dL_law_44 (by decide) (by decide) rfl (by decide) ?_
        exact law_c12 l hst hL hx hb hml hown htsL hX hbl hi hbA hK hXA (by omega) hv ht (by omega) (by omega) hP hS (fun j9 I9 J9 X9 H9 locs9 ls9 h1 h2 h3 h4 h5 => kx j9 I9 J9 X9 (cells + 1) (slots + 6) H9 locs9 ls9 h1 h2 (Nat.le_refl _) (Nat.le_refl _) h3 h4 h5) hl
      · rw [z9]
        refine lv_tableOut (tgt := 947) hx hb dL_law_44 (Or.inr (by decide)) (by decide) ?_
        exact kx j I J X cells slots H locs ls (Nat.le_succ j) hv (Nat.le_succ _) (by omega) hP hS hl
      · rw [z9]
        refine lv_tableOut (tgt := 947) hx hb dL_law_44 (Or.inr (by decide)) (by decide) ?_
        exact kx j I J X cells slots H locs ls (Nat.le_succ j) hv (Nat.le_succ _) (by omega) hP hS hl
      · rw [z9]
        refine lv_tableOut (tgt := 947) hx hb dL_law_44 (Or.inr (by decide)) (by decide) ?_
        exact kx j I J X cells slots H locs ls (Nat.le_succ j) hv (Nat.le_succ _) (by omega) hP hS hl
