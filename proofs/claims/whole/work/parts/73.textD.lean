/-! the reference's text -/
theorem nI_c2 : ∀ n, n < 128 → ((nI n).toUInt32 % 65536).toInt32 = nI n := by decide +kernel
theorem nI_d10 : ∀ w, w < 100 → nI w / 10 = nI (w / 10) := by decide +kernel
theorem nI_r10 : ∀ w, w < 100 → nI w - nI w / 10 * 10 = nI (w % 10) := by decide +kernel
theorem nI_sub {a b : Nat} (h : b ≤ a) : nI a - nI b = nI (a - b) := by
  have e : nI a = nI (a - b) + nI b := by
    have : a = (a - b) + b := by omega
    conv => lhs; rw [this]
    exact Int32.ofNat_add _ _
  rw [e, Int32.add_sub_cancel]
theorem nI_ti {n : Nat} (h : n < 2147483648) : (nI n).toInt = n := by
  show (Int32.ofNat n).toInt = n
  exact Int32.toInt_ofNat_of_lt h
theorem getD_out {L : List Nat} {q : Nat} (h : L.length ≤ q) : L.getD q 0 = 0 := by rw [List.getD_eq_getElem?_getD, List.getElem?_eq_none h]; rfl
theorem liR : ∀ i, i < 3 → liL (i + 6) = liL (i + 2) := by decide
theorem ll_0 {r b w : Nat} (h : Nat) (q : w = 0) : lineL r b w h = liL 0 := by unfold lineL; rw [if_pos q]; rfl
theorem ll_1 {r b w : Nat} (h : Nat) (q : ¬ w = 0) (hr : r < 4) (hb : b < 5) : lineL r b w h = 114 :: (48 + r) :: 45 :: 98 :: (48 + b) :: 58 :: (dg w ++ liL (btN h)) := by
  unfold lineL
  rw [if_neg q]
  have e1 : dg r = [48 + r] := by unfold dg; rw [if_pos (by omega)]
  have e2 : dg b = [48 + b] := by unfold dg; rw [if_pos (by omega)]
  rw [e1, e2]
  simp [liL, liB]
theorem ll_6 {r b w : Nat} (h : Nat) (q : ¬ w = 0) (hr : r < 4) (hb : b < 5) : (lineL r b w h).getD 6 0 = if w < 10 then 48 + w else 48 + w / 10 := by
  rw [ll_1 h q hr hb]
  unfold dg
  by_cases h9 : w < 10
  · rw [if_pos h9, if_pos h9]; rfl
  · rw [if_neg h9, if_neg h9]; rfl
theorem ll_7 {r b w : Nat} (h : Nat) (q : 9 < w) (hr : r < 4) (hb : b < 5) : (lineL r b w h).getD 7 0 = 48 + w % 10 := by
  rw [ll_1 h (by omega) hr hb]
  unfold dg
  rw [if_neg (by omega)]
  rfl
theorem ll_w {r b w : Nat} (h : Nat) (q : ¬ w = 0) (hr : r < 4) (hb : b < 5) {pl : Nat} (hp : 6 + (dg w).length ≤ pl) : (lineL r b w h).getD pl 0 = (liL (btN h)).getD (pl - 6 - (dg w).length) 0 := by
  rw [ll_1 h q hr hb]
  obtain ⟨t, rfl⟩ : ∃ t, pl = 6 + (dg w).length + t := ⟨pl - (6 + (dg w).length), by omega⟩
  have e : 6 + (dg w).length + t - 6 - (dg w).length = t := by omega
  rw [e, List.getD_eq_getElem?_getD, List.getD_eq_getElem?_getD]
  have e2 : 6 + (dg w).length + t = ((dg w).length + t) + 6 := by omega
  rw [e2]
  show ((dg w ++ liL (btN h))[(dg w).length + t]?).getD 0 = _
  rw [List.getElem?_append_right (by omega)]
  congr 2
  omega
theorem dg_l1 {w : Nat} (h : w < 10) : (dg w).length = 1 := dg_1 h
theorem dg_l2 {w : Nat} (h : ¬ w < 10) : (dg w).length = 2 := by unfold dg; rw [if_neg h]; rfl

set_option maxHeartbeats 4000000 in
set_option maxRecDepth 100000 in
/-- J0_isLatin1_aae02 -/
theorem c_J0_isLatin1_aae02 (l : Launch) (nW : Nat) (D : va_G) (cA : Nat → ClassId) (ad K V : Nat → Nat) (tO tT : Nat) (hi : inj nW ad) (hNW : 102 ≤ nW) (I : SI) (J : SJ) (X : SX) (sz : Nat) (i : Nat) (hi9 : i < 9) : Met l yJ0_isLatin1_aae02 wsJ0_isLatin1_aae02 ({ frames := 0, cells := 0, slots := 0, locals := 0 }) (va_Pc [.ref (K i)] (wPreL nW D cA ad K V tO tT I J X sz)) (qI nW D cA ad sz (1) I J X) 0 0 (fr nW ad sz) := by
  refine Met.ofW (cc := cJ0_isLatin1_aae02) (maxL := 1) (ret := (some .boolean)) (by decide) rfl ?_
  intro p e s m args below meth c s₁ B hml hv
  obtain ⟨rfl, ⟨rfl, hP, hK⟩, hL⟩ := hv
  have hx := B.exec
  have hb := B.bytes
  have hr := B.returns
  have hts := atoms_spec (ws := wsJ0_isLatin1_aae02) B.pre
  have hown : s.vm.findClass RJ0 = some m.cls := findClass_of_methodNamed B.named
  have hlocks := B.notSynchronized
  have hS : va_S (fr nW ad s.heap.size) s.heap s.heap [] := va_S.rf
  have hA : ∀ k, k < nW → fr nW ad s.heap.size (ad k) := fr_ad
  have hl := lv_entry ([.ref (K i)]) (n := 1) (Nat.le_of_ble_eq_true rfl)
  rw [lg_entry_eq]
  generalize (lg_sl ([.ref (K i)]) ++ List.replicate (1 - (lg_sl ([.ref (K i)])).length) Slot.unset).toArray = ls at hl ⊢
  have hl : lv_has ls 1 [(0, .ref (K i))] := hl
  suffices Z9 : ∀ (H : Heap) (locs : List Loc), WP nW D cA ad I J X H → va_S (fr nW ad s.heap.size) s.heap H locs → W p l e (headSpec wsJ0_isLatin1_aae02 ({ frames := 0, cells := 0, slots := 0, locals := 0 })).room s m ([.ref (K i)] : List Value).toArray below meth c H locs 0 0 (MQ below (qI nW D cA ad s.heap.size (1) I J X) ([.ref (K i)] : List Value).toArray s 0 0 (fr nW ad s.heap.size)) (F0 m 0 ls []) from Z9 _ _ hP hS
  clear hP hS
  intro H locs hP hS
  refine va_gets hx hb (hL.1) hS hown (hts (.fieldLink RJ0 38 "java/lang/String" "COMPACT_STRINGS" "Z") (List.mem_of_getElem? (i := 1) rfl)) (fun _ h9 => h9) dJ0_isLatin1_aae02_0 ?_
  refine lv_if_eq (tgt := 17) hx hb dJ0_isLatin1_aae02_3 (by decide) (fun c3 => ?_) (fun c3 => ?_)
  · have qc3 : 1 = 0 := (wn_eq (a := 1) (b := 0) rfl rfl (by omega) (by omega)).mp c3
    exact absurd qc3 (by omega)
  · have qc3 : ¬ 1 = 0 := fun z => c3 ((wn_eq (a := 1) (b := 0) rfl rfl (by omega) (by omega)).mpr z)
    refine lv_aload_n hx hb dJ0_isLatin1_aae02_6 rfl (lv_at hl 0 rfl) ?_
    refine vk_getf hx hb (hL.2.2.2.2 i (by omega)).2.1 hS hown (hts (.fieldLink RJ0 15 "java/lang/String" "coder" "B") (List.mem_of_getElem? (i := 2) rfl)) (fun _ h9 => h9) dJ0_isLatin1_aae02_7 ?_
    refine lv_if_ne (tgt := 17) hx hb dJ0_isLatin1_aae02_10 (by decide) (fun c10 => ?_) (fun c10 => ?_)
    · have qc10 : ¬ 0 = 0 := fun z => c10 ((wn_eq (a := 0) (b := 0) rfl rfl (by omega) (by omega)).mpr z)
      exact absurd qc10 (by omega)
    · have qc10 : 0 = 0 := (wn_eq (a := 0) (b := 0) rfl rfl (by omega) (by omega)).mp c10
      refine lv_iconst (v := 1) hx hb dJ0_isLatin1_aae02_13 (by decide) ?_
      refine lv_goto (tgt := 18) hx hb dJ0_isLatin1_aae02_14 (by decide) ?_
      exact w_zret hx hb hr rfl hlocks hK hP hS ⟨by subst_vars; rfl, by subst_vars; rfl, by subst_vars; rfl, by subst_vars; rfl⟩ dJ0_isLatin1_aae02_18

set_option maxHeartbeats 4000000 in
set_option maxRecDepth 100000 in
/-- J1_charAt_3b067 -/
theorem c_J1_charAt_3b067 (l : Launch) (nW : Nat) (D : va_G) (cA : Nat → ClassId) (ad K V : Nat → Nat) (tO tT : Nat) (hi : inj nW ad) (hNW : 102 ≤ nW) (I : SI) (J : SJ) (X : SX) (sz : Nat) (i : Nat) (hi9 : i < 9) (z : Nat) (hz : z < liN i) : Met l yJ1_charAt_3b067 wsJ1_charAt_3b067 ({ frames := 2, cells := 0, slots := 0, locals := 43 }) (va_Pc [.ref (V i), .int (nI (z))] (wPreL nW D cA ad K V tO tT I J X sz)) (qI nW D cA ad sz (nI ((liL i).getD z 0)) I J X) 0 0 (fr nW ad sz) := by
  refine Met.ofW (cc := cJ1_charAt_3b067) (maxL := 2) (ret := (some .char)) (by decide) rfl ?_
  intro p e s m args below meth c s₁ B hml hv
  obtain ⟨rfl, ⟨rfl, hP, hK⟩, hL⟩ := hv
  have hx := B.exec
  have hb := B.bytes
  have hr := B.returns
  have hts := atoms_spec (ws := wsJ1_charAt_3b067) B.pre
  have hown : s.vm.findClass RJ1 = some m.cls := findClass_of_methodNamed B.named
  have hlocks := B.notSynchronized
  have hS : va_S (fr nW ad s.heap.size) s.heap s.heap [] := va_S.rf
  have hA : ∀ k, k < nW → fr nW ad s.heap.size (ad k) := fr_ad
  have hl := lv_entry ([.ref (V i), .int (nI (z))]) (n := 2) (Nat.le_of_ble_eq_true rfl)
  rw [lg_entry_eq]
  generalize (lg_sl ([.ref (V i), .int (nI (z))]) ++ List.replicate (2 - (lg_sl ([.ref (V i), .int (nI (z))])).length) Slot.unset).toArray = ls at hl ⊢
  have hl : lv_has ls 2 [(0, .ref (V i)), (1, .int (nI (z)))] := hl
  suffices Z9 : ∀ (H : Heap) (locs : List Loc), WP nW D cA ad I J X H → va_S (fr nW ad s.heap.size) s.heap H locs → W p l e (headSpec wsJ1_charAt_3b067 ({ frames := 2, cells := 0, slots := 0, locals := 43 })).room s m ([.ref (V i), .int (nI (z))] : List Value).toArray below meth c H locs 0 0 (MQ below (qI nW D cA ad s.heap.size (nI ((liL i).getD z 0)) I J X) ([.ref (V i), .int (nI (z))] : List Value).toArray s 0 0 (fr nW ad s.heap.size)) (F0 m 0 ls []) from Z9 _ _ hP hS
  clear hP hS
  intro H locs hP hS
  have h7 := liN_le i hi9
  refine lv_iload_n hx hb dJ1_charAt_3b067_0 rfl (lv_at hl 1 rfl) ?_
  refine lv_aload_n hx hb dJ1_charAt_3b067_1 rfl (lv_at hl 0 rfl) ?_
  refine va_tlen (v := nI (liN i)) hx hb (hL.2.2.2.2 i (by omega)).2.2.2.1 hS rfl dJ1_charAt_3b067_2 ?_
  refine w_callv (va_runS (As := [.int (nI (z)), .int (nI (liN i))]) (rest := []) ⟨hx, hb, hml, hown, hts⟩ (c_J0_checkIndex_df160 l nW D cA ad K V tO tT hi hNW I J X H.size z (liN i) (by omega) (by omega)) (va_cwS 2 hts gJ1_charAt_3b067_J0_checkIndex_df160 rfl rfl rfl (by decide +kernel) ⟨Nat.le_of_ble_eq_true rfl, Nat.le_of_ble_eq_true rfl⟩) (w_preSL hK hP hL hS) rfl rfl hl.1 rfl (lv_room (Nat.le_of_ble_eq_true rfl)) dJ1_charAt_3b067_3 ⟨Nat.le_of_ble_eq_true rfl, Nat.le_of_ble_eq_true rfl⟩) hS (fun H locs hP hS => ?_)
  refine lv_aload_n hx hb dJ1_charAt_3b067_6 rfl (lv_at hl 0 rfl) ?_
  refine lv_iload_n hx hb dJ1_charAt_3b067_7 rfl (lv_at hl 1 rfl) ?_
  refine va_tb (v := .int (liC i (z))) hx hb (hL.2.2.2.2 i (by omega)).2.2.2.1 hS (by rw [show nI (z) = nI (z) from rfl]; exact vp_in_nI (by omega) (by omega)) (by rw [show nI (z) = nI (z) from rfl, nI_clamp (by omega)]) dJ1_charAt_3b067_8 ?_
  refine lv_sipush (v := 255) hx hb dJ1_charAt_3b067_9 (by decide) ?_
  refine lv_iand hx hb dJ1_charAt_3b067_12 ?_
  refine lv_i2c (v := nI ((liL i).getD z 0)) hx hb dJ1_charAt_3b067_13 (nI_c _ (li_small i hi9 z)) ?_
  exact w_zret hx hb hr (nI_nc _ (li_small i hi9 z)) hlocks hK hP hS ⟨by subst_vars; rfl, by subst_vars; rfl, by subst_vars; rfl, by subst_vars; rfl⟩ dJ1_charAt_3b067_14

set_option maxHeartbeats 4000000 in
set_option maxRecDepth 100000 in
/-- J0_charAt_5068e -/
theorem c_J0_charAt_5068e (l : Launch) (nW : Nat) (D : va_G) (cA : Nat → ClassId) (ad K V : Nat → Nat) (tO tT : Nat) (hi : inj nW ad) (hNW : 102 ≤ nW) (I : SI) (J : SJ) (X : SX) (sz : Nat) (i : Nat) (hi9 : i < 9) (z : Nat) (hz : z < liN i) : Met l yJ0_charAt_5068e wsJ0_charAt_5068e ({ frames := 3, cells := 0, slots := 0, locals := 64 }) (va_Pc [.ref (K i), .int (nI (z))] (wPreL nW D cA ad K V tO tT I J X sz)) (qI nW D cA ad sz (nI ((liL i).getD z 0)) I J X) 0 0 (fr nW ad sz) := by
  refine Met.ofW (cc := cJ0_charAt_5068e) (maxL := 2) (ret := (some .char)) (by decide) rfl ?_
  intro p e s m args below meth c s₁ B hml hv
  obtain ⟨rfl, ⟨rfl, hP, hK⟩, hL⟩ := hv
  have hx := B.exec
  have hb := B.bytes
  have hr := B.returns
  have hts := atoms_spec (ws := wsJ0_charAt_5068e) B.pre
  have hown : s.vm.findClass RJ0 = some m.cls := findClass_of_methodNamed B.named
  have hlocks := B.notSynchronized
  have hS : va_S (fr nW ad s.heap.size) s.heap s.heap [] := va_S.rf
  have hA : ∀ k, k < nW → fr nW ad s.heap.size (ad k) := fr_ad
  have hl := lv_entry ([.ref (K i), .int (nI (z))]) (n := 2) (Nat.le_of_ble_eq_true rfl)
  rw [lg_entry_eq]
  generalize (lg_sl ([.ref (K i), .int (nI (z))]) ++ List.replicate (2 - (lg_sl ([.ref (K i), .int (nI (z))])).length) Slot.unset).toArray = ls at hl ⊢
  have hl : lv_has ls 2 [(0, .ref (K i)), (1, .int (nI (z)))] := hl
  suffices Z9 : ∀ (H : Heap) (locs : List Loc), WP nW D cA ad I J X H → va_S (fr nW ad s.heap.size) s.heap H locs → W p l e (headSpec wsJ0_charAt_5068e ({ frames := 3, cells := 0, slots := 0, locals := 64 })).room s m ([.ref (K i), .int (nI (z))] : List Value).toArray below meth c H locs 0 0 (MQ below (qI nW D cA ad s.heap.size (nI ((liL i).getD z 0)) I J X) ([.ref (K i), .int (nI (z))] : List Value).toArray s 0 0 (fr nW ad s.heap.size)) (F0 m 0 ls []) from Z9 _ _ hP hS
  clear hP hS
  intro H locs hP hS
  have h7 := liN_le i hi9
  refine lv_aload_n hx hb dJ0_charAt_5068e_0 rfl (lv_at hl 0 rfl) ?_
  refine w_calli (va_runV (As := []) (rest := []) ⟨hx, hb, hml, hown, hts⟩ (c_J0_isLatin1_aae02 l nW D cA ad K V tO tT hi hNW I J X H.size i (by omega)) (cwV 0 hts gJ0_charAt_5068e_J0_isLatin1_aae02 rfl rfl rfl (by decide +kernel) ⟨Nat.le_of_ble_eq_true rfl, Nat.le_of_ble_eq_true rfl⟩) (w_preLi hK hP hL hS i (by omega)) rfl rfl hl.1 rfl (lv_room (Nat.le_of_ble_eq_true rfl)) dJ0_charAt_5068e_1 ⟨Nat.le_of_ble_eq_true rfl, Nat.le_of_ble_eq_true rfl⟩) hS (fun H locs hP hS => ?_)
  refine lv_if_eq (tgt := 16) hx hb dJ0_charAt_5068e_4 (by decide) (fun c4 => ?_) (fun c4 => ?_)
  · have qc4 : 1 = 0 := (wn_eq (a := 1) (b := 0) rfl rfl (by omega) (by omega)).mp c4
    exact absurd qc4 (by omega)
  · have qc4 : ¬ 1 = 0 := fun z => c4 ((wn_eq (a := 1) (b := 0) rfl rfl (by omega) (by omega)).mpr z)
    refine lv_aload_n hx hb dJ0_charAt_5068e_7 rfl (lv_at hl 0 rfl) ?_
    refine vk_getf hx hb (hL.2.2.2.2 i (by omega)).2.2.1 hS hown (hts (.fieldLink RJ0 9 "java/lang/String" "value" "[B") (List.mem_of_getElem? (i := 1) rfl)) (fun _ h9 => h9) dJ0_charAt_5068e_8 ?_
    refine lv_iload_n hx hb dJ0_charAt_5068e_11 rfl (lv_at hl 1 rfl) ?_
    refine w_calli (va_runS (As := [.ref (V i), .int (nI (z))]) (rest := []) ⟨hx, hb, hml, hown, hts⟩ (c_J1_charAt_3b067 l nW D cA ad K V tO tT hi hNW I J X H.size i (by omega) z (by omega)) (va_cwS 2 hts gJ0_charAt_5068e_J1_charAt_3b067 rfl rfl rfl (by decide +kernel) ⟨Nat.le_of_ble_eq_true rfl, Nat.le_of_ble_eq_true rfl⟩) (w_preSL hK hP hL hS) rfl rfl hl.1 rfl (lv_room (Nat.le_of_ble_eq_true rfl)) dJ0_charAt_5068e_12 ⟨Nat.le_of_ble_eq_true rfl, Nat.le_of_ble_eq_true rfl⟩) hS (fun H locs hP hS => ?_)
    exact w_zret hx hb hr (nI_nc _ (li_small i hi9 z)) hlocks hK hP hS ⟨by subst_vars; rfl, by subst_vars; rfl, by subst_vars; rfl, by subst_vars; rfl⟩ dJ0_charAt_5068e_15

set_option maxHeartbeats 4000000 in
set_option maxRecDepth 100000 in
/-- X5_word -/
theorem c_X5_word (l : Launch) (nW : Nat) (D : va_G) (cA : Nat → ClassId) (ad K V : Nat → Nat) (tO tT : Nat) (hi : inj nW ad) (hNW : 114 ≤ nW) (I : SI) (J : SJ) (X : SX) (sz : Nat) (h q : Nat) (hh3 : h < 3) (hq9 : q < 2147483648) : Met l yX5_word wsX5_word ({ frames := 4, cells := 0, slots := 0, locals := 85 }) (va_Pc [.ref (ad 102), .int (nI (h)), .int (nI (q))] (wPreL nW D cA ad K V tO tT I J X sz)) (qI nW D cA ad sz (nI ((liL (btN h)).getD q 0)) I J X) 0 0 (fr nW ad sz) := by
  refine Met.ofW (cc := cX5_word) (maxL := 3) (ret := (some .char)) (by decide) rfl ?_
  intro p e s m args below meth c s₁ B hml hv
  obtain ⟨rfl, ⟨rfl, hP, hK⟩, hL⟩ := hv
  have hx := B.exec
  have hb := B.bytes
  have hr := B.returns
  have hts := atoms_spec (ws := wsX5_word) B.pre
  have hown : s.vm.findClass RX5 = some m.cls := findClass_of_methodNamed B.named
  have hlocks := B.notSynchronized
  have hS : va_S (fr nW ad s.heap.size) s.heap s.heap [] := va_S.rf
  have hA : ∀ k, k < nW → fr nW ad s.heap.size (ad k) := fr_ad
  have hl := lv_entry ([.ref (ad 102), .int (nI (h)), .int (nI (q))]) (n := 3) (Nat.le_of_ble_eq_true rfl)
  rw [lg_entry_eq]
  generalize (lg_sl ([.ref (ad 102), .int (nI (h)), .int (nI (q))]) ++ List.replicate (3 - (lg_sl ([.ref (ad 102), .int (nI (h)), .int (nI (q))])).length) Slot.unset).toArray = ls at hl ⊢
  have hl : lv_has ls 3 [(0, .ref (ad 102)), (1, .int (nI (h))), (2, .int (nI (q)))] := hl
  suffices Z9 : ∀ (H : Heap) (locs : List Loc), WP nW D cA ad I J X H → va_S (fr nW ad s.heap.size) s.heap H locs → W p l e (headSpec wsX5_word ({ frames := 4, cells := 0, slots := 0, locals := 85 })).room s m ([.ref (ad 102), .int (nI (h)), .int (nI (q))] : List Value).toArray below meth c H locs 0 0 (MQ below (qI nW D cA ad s.heap.size (nI ((liL (btN h)).getD q 0)) I J X) ([.ref (ad 102), .int (nI (h)), .int (nI (q))] : List Value).toArray s 0 0 (fr nW ad s.heap.size)) (F0 m 0 ls []) from Z9 _ _ hP hS
  clear hP hS
  intro H locs hP hS
  refine lv_iload_n hx hb dX5_word_0 rfl (lv_at hl 1 rfl) ?_
  rcases (by omega : h = 0 ∨ h = 1 ∨ h = 2) with e0 | e1 | e2
  · refine lv_lookup (off := 27) (tgt := 28) hx hb dX5_word_1 (by decide) (by rw [e0]; decide) (by decide) ?_
    refine lv_iload_n hx hb dX5_word_28 rfl (lv_at hl 2 rfl) ?_
    refine lv_iconst (v := 5) hx hb dX5_word_29 (by decide) ?_
    refine lv_icmp_ge (tgt := 42) hx hb dX5_word_30 (by decide) (fun c30 => ?_) (fun c30 => ?_)
    · have qc30 : 5 ≤ q := (wn_le (a := 5) (b := q) rfl rfl (by omega) (by omega)).mp c30
      refine lv_iconst (v := 0) hx hb dX5_word_42 (by decide) ?_
      exact w_zret hx hb hr rfl hlocks hK hP hS ⟨by rw [bt0 e0, getD_out (by show 5 ≤ q; omega)]; rfl, rfl, rfl, rfl⟩ dX5_word_43
    · have qc30 : ¬ 5 ≤ q := fun z => c30 ((wn_le (a := 5) (b := q) rfl rfl (by omega) (by omega)).mpr z)
      refine va_ldcS hx hb hown (hL.2.2.2.2 6 (by decide)).2.2.2.2 dX5_word_33 ?_
      refine lv_iload_n hx hb dX5_word_35 rfl (lv_at hl 2 rfl) ?_
      refine w_calli (va_runV (As := [.int (nI (q))]) (rest := []) ⟨hx, hb, hml, hown, hts⟩ (c_J0_charAt_5068e l nW D cA ad K V tO tT hi (by omega) I J X H.size 6 (by omega) q (by show q < 5; omega)) (cwV 1 hts gX5_word_J0_charAt_5068e rfl rfl rfl (by decide +kernel) ⟨Nat.le_of_ble_eq_true rfl, Nat.le_of_ble_eq_true rfl⟩) (w_preLi hK hP hL hS 6 (by omega)) rfl rfl hl.1 rfl (lv_room (Nat.le_of_ble_eq_true rfl)) dX5_word_36 ⟨Nat.le_of_ble_eq_true rfl, Nat.le_of_ble_eq_true rfl⟩) hS (fun H locs hP hS => ?_)
      refine lv_goto (tgt := 43) hx hb dX5_word_39 (by decide) ?_
      exact w_zret hx hb hr (nI_nc _ (li_small 6 (by decide) q)) hlocks hK hP hS ⟨by rw [bt0 e0]; rfl, rfl, rfl, rfl⟩ dX5_word_43
  · refine lv_lookup (off := 43) (tgt := 44) hx hb dX5_word_1 (by decide) (by rw [e1]; decide) (by decide) ?_
    refine lv_iload_n hx hb dX5_word_44 rfl (lv_at hl 2 rfl) ?_
    refine lv_bipush (v := 7) hx hb dX5_word_45 (by decide) ?_
    refine lv_icmp_ge (tgt := 59) hx hb dX5_word_47 (by decide) (fun c47 => ?_) (fun c47 => ?_)
    · have qc47 : 7 ≤ q := (wn_le (a := 7) (b := q) rfl rfl (by omega) (by omega)).mp c47
      refine lv_iconst (v := 0) hx hb dX5_word_59 (by decide) ?_
      exact w_zret hx hb hr rfl hlocks hK hP hS ⟨by rw [bt1 e1, getD_out (by show 7 ≤ q; omega)]; rfl, rfl, rfl, rfl⟩ dX5_word_60
    · have qc47 : ¬ 7 ≤ q := fun z => c47 ((wn_le (a := 7) (b := q) rfl rfl (by omega) (by omega)).mpr z)
      refine va_ldcS hx hb hown (hL.2.2.2.2 7 (by decide)).2.2.2.2 dX5_word_50 ?_
      refine lv_iload_n hx hb dX5_word_52 rfl (lv_at hl 2 rfl) ?_
      refine w_calli (va_runV (As := [.int (nI (q))]) (rest := []) ⟨hx, hb, hml, hown, hts⟩ (c_J0_charAt_5068e l nW D cA ad K V tO tT hi (by omega) I J X H.size 7 (by omega) q (by show q < 7; omega)) (cwV 1 hts gX5_word_J0_charAt_5068e rfl rfl rfl (by decide +kernel) ⟨Nat.le_of_ble_eq_true rfl, Nat.le_of_ble_eq_true rfl⟩) (w_preLi hK hP hL hS 7 (by omega)) rfl rfl hl.1 rfl (lv_room (Nat.le_of_ble_eq_true rfl)) dX5_word_53 ⟨Nat.le_of_ble_eq_true rfl, Nat.le_of_ble_eq_true rfl⟩) hS (fun H locs hP hS => ?_)
      refine lv_goto (tgt := 60) hx hb dX5_word_56 (by decide) ?_
      exact w_zret hx hb hr (nI_nc _ (li_small 7 (by decide) q)) hlocks hK hP hS ⟨by rw [bt1 e1]; rfl, rfl, rfl, rfl⟩ dX5_word_60
  · refine lv_lookup (off := 60) (tgt := 61) hx hb dX5_word_1 (by decide) (by rw [e2]; decide) (by decide) ?_
    refine lv_iload_n hx hb dX5_word_61 rfl (lv_at hl 2 rfl) ?_
    refine lv_bipush (v := 7) hx hb dX5_word_62 (by decide) ?_
    refine lv_icmp_ge (tgt := 76) hx hb dX5_word_64 (by decide) (fun c64 => ?_) (fun c64 => ?_)
    · have qc64 : 7 ≤ q := (wn_le (a := 7) (b := q) rfl rfl (by omega) (by omega)).mp c64
      refine lv_iconst (v := 0) hx hb dX5_word_76 (by decide) ?_
      exact w_zret hx hb hr rfl hlocks hK hP hS ⟨by rw [bt2 (by omega) (by omega), getD_out (by show 7 ≤ q; omega)]; rfl, rfl, rfl, rfl⟩ dX5_word_77
    · have qc64 : ¬ 7 ≤ q := fun z => c64 ((wn_le (a := 7) (b := q) rfl rfl (by omega) (by omega)).mpr z)
      refine va_ldcS hx hb hown (hL.2.2.2.2 8 (by decide)).2.2.2.2 dX5_word_67 ?_
      refine lv_iload_n hx hb dX5_word_69 rfl (lv_at hl 2 rfl) ?_
      refine w_calli (va_runV (As := [.int (nI (q))]) (rest := []) ⟨hx, hb, hml, hown, hts⟩ (c_J0_charAt_5068e l nW D cA ad K V tO tT hi (by omega) I J X H.size 8 (by omega) q (by show q < 7; omega)) (cwV 1 hts gX5_word_J0_charAt_5068e rfl rfl rfl (by decide +kernel) ⟨Nat.le_of_ble_eq_true rfl, Nat.le_of_ble_eq_true rfl⟩) (w_preLi hK hP hL hS 8 (by omega)) rfl rfl hl.1 rfl (lv_room (Nat.le_of_ble_eq_true rfl)) dX5_word_70 ⟨Nat.le_of_ble_eq_true rfl, Nat.le_of_ble_eq_true rfl⟩) hS (fun H locs hP hS => ?_)
      refine lv_goto (tgt := 77) hx hb dX5_word_73 (by decide) ?_
      exact w_zret hx hb hr (nI_nc _ (li_small 8 (by decide) q)) hlocks hK hP hS ⟨by rw [bt2 (by omega) (by omega)]; rfl, rfl, rfl, rfl⟩ dX5_word_77
