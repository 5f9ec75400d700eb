
theorem inX4_listed_X1 : ∀ w ∈ wsX10, w ∈ wsX4_listed := by decide +kernel
theorem inX4_listed_X2 : ∀ w ∈ wsX20, w ∈ wsX4_listed := by decide +kernel
theorem inX4_listed_X3 : ∀ w ∈ wsX30, w ∈ wsX4_listed := by decide +kernel
theorem inX4_listed_X4 : ∀ w ∈ wsX40, w ∈ wsX4_listed := by decide +kernel
set_option maxHeartbeats 4000000 in
set_option maxRecDepth 100000 in
/-- X4_listed -/
theorem c_X4_listed_no (l : Launch) (nW : Nat) (D : va_G) (cA : Nat → ClassId) (ad : Nat → Nat) (hi : inj nW ad) (hNW : 102 ≤ nW) (I : SI) (J : SJ) (X : SX) (sz : Nat) (r : Nat) (hr4 : r < 4) (pl : Int32) (hpl : ¬ pl < 0) (hf : fiF (rbS I J r 5).2.1 (rbS I J r 5).2.2 pl (rbS I J r 5).2.2 0 = -1) : Met l yX4_listed wsX4_listed ({ frames := 2, cells := 0, slots := 0, locals := 46 }) (va_Pc [.ref (ad 0), .int (nI (r)), .int (pl)] (wPre nW D cA ad I J X sz)) (qI nW D cA ad sz (-1) ((rbS I J r 5).1) ((rbS I J r 5).2.1) X) 0 0 (fr nW ad sz) := by
  refine Met.ofW (cc := cX4_listed) (maxL := 4) (ret := (some .int)) (by decide) rfl ?_
  intro p e s m args below meth c s₁ B hml hv
  obtain ⟨rfl, rfl, hP, hK⟩ := hv
  have hx := B.exec
  have hb := B.bytes
  have hr := B.returns
  have hts := atoms_spec (ws := wsX4_listed) B.pre
  have hown : s.vm.findClass RX4 = some m.cls := findClass_of_methodNamed B.named
  have hlocks := B.notSynchronized
  have hS : va_S (fr nW ad s.heap.size) s.heap s.heap [] := va_S.rf
  have hA : ∀ k, k < nW → fr nW ad s.heap.size (ad k) := fr_ad
  have hl := lv_entry ([.ref (ad 0), .int (nI (r)), .int (pl)]) (n := 4) (Nat.le_of_ble_eq_true rfl)
  rw [lg_entry_eq]
  generalize (lg_sl ([.ref (ad 0), .int (nI (r)), .int (pl)]) ++ List.replicate (4 - (lg_sl ([.ref (ad 0), .int (nI (r)), .int (pl)])).length) Slot.unset).toArray = ls at hl ⊢
  have hl : lv_has ls 4 [(0, .ref (ad 0)), (1, .int (nI (r))), (2, .int (pl))] := hl
  have hS0 := hS
  suffices K : ∀ (H : Heap) (locs : List Loc), WP nW D cA ad I J X H → va_S (fr nW ad s.heap.size) s.heap H locs → W p l e (headSpec wsX4_listed ({ frames := 2, cells := 0, slots := 0, locals := 46 })).room s m ([.ref (ad 0), .int (nI (r)), .int (pl)] : List Value).toArray below meth c H locs 0 0 (MQ below (qI nW D cA ad s.heap.size (-1) ((rbS I J r 5).1) ((rbS I J r 5).2.1) X) ([.ref (ad 0), .int (nI (r)), .int (pl)] : List Value).toArray s 0 0 (fr nW ad s.heap.size)) (F0 m 0 ls []) from K _ _ hP hS
  clear hP hS hS0
  intro H locs hP hS
  refine lv_iload_n hx hb dX4_listed_0 rfl (lv_at hl 1 rfl) ?_
  refine w_callv (va_runS (As := [.int (nI (r))]) (rest := []) ⟨hx, hb, hml, hown, hts⟩ (c_X4_checkReader l nW D cA ad hi hNW I J X H.size r (by omega)) (va_cwS 1 hts gX4_listed_X4_checkReader rfl rfl rfl (by decide +kernel) ⟨Nat.le_of_ble_eq_true rfl, Nat.le_of_ble_eq_true rfl⟩) (w_preS hK hP) rfl rfl hl.1 rfl (lv_room (Nat.le_of_ble_eq_true rfl)) dX4_listed_1 ⟨Nat.le_of_ble_eq_true rfl, Nat.le_of_ble_eq_true rfl⟩) hS (fun H locs hP hS => ?_)
  refine lv_iload_n hx hb dX4_listed_4 rfl (lv_at hl 2 rfl) ?_
  refine w_callv (va_runS (As := [.int (pl)]) (rest := []) ⟨hx, hb, hml, hown, hts⟩ (c_X4_checkPlace l nW D cA ad hi hNW I J X H.size pl hpl) (va_cwS 1 hts gX4_listed_X4_checkPlace rfl rfl rfl (by decide +kernel) ⟨Nat.le_of_ble_eq_true rfl, Nat.le_of_ble_eq_true rfl⟩) (w_preS hK hP) rfl rfl hl.1 rfl (lv_room (Nat.le_of_ble_eq_true rfl)) dX4_listed_5 ⟨Nat.le_of_ble_eq_true rfl, Nat.le_of_ble_eq_true rfl⟩) hS (fun H locs hP hS => ?_)
  refine lv_aload_n hx hb dX4_listed_8 rfl (lv_at hl 0 rfl) ?_
  refine lv_iload_n hx hb dX4_listed_9 rfl (lv_at hl 1 rfl) ?_
  refine w_callv (va_runV (As := [.int (nI (r))]) (rest := []) ⟨hx, hb, hml, hown, hts⟩ (c_X4_rankBooks l nW D cA ad hi hNW I J X H.size r (by omega)) (cwV 1 hts gX4_listed_X4_rankBooks rfl rfl rfl (by decide +kernel) ⟨Nat.le_of_ble_eq_true rfl, Nat.le_of_ble_eq_true rfl⟩) (w_preV hK hP 0 (by omega) ⟨rfl, rfl⟩ rfl) rfl rfl hl.1 rfl (lv_room (Nat.le_of_ble_eq_true rfl)) dX4_listed_10 ⟨Nat.le_of_ble_eq_true rfl, Nat.le_of_ble_eq_true rfl⟩) hS (fun H locs hP hS => ?_)
  refine lv_aload_n hx hb dX4_listed_13 rfl (lv_at hl 0 rfl) ?_
  refine w_get (C := RX4) (T := TX4) (N := 7) (v := .ref (ad 83)) (index := 25) hx hb hts inX4_listed_X4 hown hK hP 0 2 ⟨rfl, rfl, by decide⟩ (by omega) rfl (List.mem_of_getElem? (i := 1) rfl) (fun _ h9 => h9) dX4_listed_14 ?_
  refine lv_iload_n hx hb dX4_listed_17 rfl (lv_at hl 2 rfl) ?_
  refine w_calli (va_runV (As := [.int (pl)]) (rest := []) ⟨hx, hb, hml, hown, hts⟩ (c_X2_find l nW D cA ad hi hNW ((rbS I J r 5).1) ((rbS I J r 5).2.1) X H.size (rbS I J r 5).2.2 pl ⟨(rbS_sz 5).1, Nat.le_trans (rbS_sz 5).2 (by decide)⟩) (cwV 1 hts gX4_listed_X2_find rfl rfl rfl (by decide +kernel) ⟨Nat.le_of_ble_eq_true rfl, Nat.le_of_ble_eq_true rfl⟩) (w_preV hK hP 83 (by omega) ⟨rfl, rfl⟩ rfl) rfl rfl hl.1 rfl (lv_room (Nat.le_of_ble_eq_true rfl)) dX4_listed_18 ⟨Nat.le_of_ble_eq_true rfl, Nat.le_of_ble_eq_true rfl⟩) hS (fun H locs hP hS => ?_)
  refine lv_topi (fun fd efd => ?_)
  refine lv_istore_n (lv' := [(3, .int (fd)), (0, .ref (ad 0)), (1, .int (nI (r))), (2, .int (pl))]) hx hb dX4_listed_21 rfl hl (by decide) rfl (fun ls hl => ?_)
  refine lv_iload_n hx hb dX4_listed_22 rfl (lv_at hl 0 rfl) ?_
  refine lv_iconst (v := (-1)) hx hb dX4_listed_23 (by decide) ?_
  refine lv_icmp_ne (tgt := 31) hx hb dX4_listed_24 (by decide) (fun c24 => ?_) (fun c24 => ?_)
  · exact absurd (by subst_vars; exact hf) c24
  · refine lv_iconst (v := (-1)) hx hb dX4_listed_27 (by decide) ?_
    refine lv_goto (tgt := 39) hx hb dX4_listed_28 (by decide) ?_
    exact w_iret hx hb hr hlocks hK hP hS ⟨by subst_vars; rfl, by subst_vars; rfl, by subst_vars; rfl, by subst_vars; rfl⟩ dX4_listed_39

set_option maxHeartbeats 4000000 in
set_option maxRecDepth 100000 in
/-- X4_listed -/
theorem c_X4_listed_ok (l : Launch) (nW : Nat) (D : va_G) (cA : Nat → ClassId) (ad : Nat → Nat) (hi : inj nW ad) (hNW : 102 ≤ nW) (I : SI) (J : SJ) (X : SX) (sz : Nat) (r : Nat) (hr4 : r < 4) (pl : Int32) (hpl : ¬ pl < 0) (f : Nat) (hf20 : f < 20) (hf : fiF (rbS I J r 5).2.1 (rbS I J r 5).2.2 pl (rbS I J r 5).2.2 0 = nI f) : Met l yX4_listed wsX4_listed ({ frames := 2, cells := 0, slots := 0, locals := 46 }) (va_Pc [.ref (ad 0), .int (nI (r)), .int (pl)] (wPre nW D cA ad I J X sz)) (qI nW D cA ad sz ((rbS I J r 5).1 85 f) ((rbS I J r 5).1) ((rbS I J r 5).2.1) X) 0 0 (fr nW ad sz) := by
  refine Met.ofW (cc := cX4_listed) (maxL := 4) (ret := (some .int)) (by decide) rfl ?_
  intro p e s m args below meth c s₁ B hml hv
  obtain ⟨rfl, rfl, hP, hK⟩ := hv
  have hx := B.exec
  have hb := B.bytes
  have hr := B.returns
  have hts := atoms_spec (ws := wsX4_listed) B.pre
  have hown : s.vm.findClass RX4 = some m.cls := findClass_of_methodNamed B.named
  have hlocks := B.notSynchronized
  have hS : va_S (fr nW ad s.heap.size) s.heap s.heap [] := va_S.rf
  have hA : ∀ k, k < nW → fr nW ad s.heap.size (ad k) := fr_ad
  have hl := lv_entry ([.ref (ad 0), .int (nI (r)), .int (pl)]) (n := 4) (Nat.le_of_ble_eq_true rfl)
  rw [lg_entry_eq]
  generalize (lg_sl ([.ref (ad 0), .int (nI (r)), .int (pl)]) ++ List.replicate (4 - (lg_sl ([.ref (ad 0), .int (nI (r)), .int (pl)])).length) Slot.unset).toArray = ls at hl ⊢
  have hl : lv_has ls 4 [(0, .ref (ad 0)), (1, .int (nI (r))), (2, .int (pl))] := hl
  have hS0 := hS
  suffices K : ∀ (H : Heap) (locs : List Loc), WP nW D cA ad I J X H → va_S (fr nW ad s.heap.size) s.heap H locs → W p l e (headSpec wsX4_listed ({ frames := 2, cells := 0, slots := 0, locals := 46 })).room s m ([.ref (ad 0), .int (nI (r)), .int (pl)] : List Value).toArray below meth c H locs 0 0 (MQ below (qI nW D cA ad s.heap.size ((rbS I J r 5).1 85 f) ((rbS I J r 5).1) ((rbS I J r 5).2.1) X) ([.ref (ad 0), .int (nI (r)), .int (pl)] : List Value).toArray s 0 0 (fr nW ad s.heap.size)) (F0 m 0 ls []) from K _ _ hP hS
  clear hP hS hS0
  intro H locs hP hS
  refine lv_iload_n hx hb dX4_listed_0 rfl (lv_at hl 1 rfl) ?_
  refine w_callv (va_runS (As := [.int (nI (r))]) (rest := []) ⟨hx, hb, hml, hown, hts⟩ (c_X4_checkReader l nW D cA ad hi hNW I J X H.size r (by omega)) (va_cwS 1 hts gX4_listed_X4_checkReader rfl rfl rfl (by decide +kernel) ⟨Nat.le_of_ble_eq_true rfl, Nat.le_of_ble_eq_true rfl⟩) (w_preS hK hP) rfl rfl hl.1 rfl (lv_room (Nat.le_of_ble_eq_true rfl)) dX4_listed_1 ⟨Nat.le_of_ble_eq_true rfl, Nat.le_of_ble_eq_true rfl⟩) hS (fun H locs hP hS => ?_)
  refine lv_iload_n hx hb dX4_listed_4 rfl (lv_at hl 2 rfl) ?_
  refine w_callv (va_runS (As := [.int (pl)]) (rest := []) ⟨hx, hb, hml, hown, hts⟩ (c_X4_checkPlace l nW D cA ad hi hNW I J X H.size pl hpl) (va_cwS 1 hts gX4_listed_X4_checkPlace rfl rfl rfl (by decide +kernel) ⟨Nat.le_of_ble_eq_true rfl, Nat.le_of_ble_eq_true rfl⟩) (w_preS hK hP) rfl rfl hl.1 rfl (lv_room (Nat.le_of_ble_eq_true rfl)) dX4_listed_5 ⟨Nat.le_of_ble_eq_true rfl, Nat.le_of_ble_eq_true rfl⟩) hS (fun H locs hP hS => ?_)
  refine lv_aload_n hx hb dX4_listed_8 rfl (lv_at hl 0 rfl) ?_
  refine lv_iload_n hx hb dX4_listed_9 rfl (lv_at hl 1 rfl) ?_
  refine w_callv (va_runV (As := [.int (nI (r))]) (rest := []) ⟨hx, hb, hml, hown, hts⟩ (c_X4_rankBooks l nW D cA ad hi hNW I J X H.size r (by omega)) (cwV 1 hts gX4_listed_X4_rankBooks rfl rfl rfl (by decide +kernel) ⟨Nat.le_of_ble_eq_true rfl, Nat.le_of_ble_eq_true rfl⟩) (w_preV hK hP 0 (by omega) ⟨rfl, rfl⟩ rfl) rfl rfl hl.1 rfl (lv_room (Nat.le_of_ble_eq_true rfl)) dX4_listed_10 ⟨Nat.le_of_ble_eq_true rfl, Nat.le_of_ble_eq_true rfl⟩) hS (fun H locs hP hS => ?_)
  refine lv_aload_n hx hb dX4_listed_13 rfl (lv_at hl 0 rfl) ?_
  refine w_get (C := RX4) (T := TX4) (N := 7) (v := .ref (ad 83)) (index := 25) hx hb hts inX4_listed_X4 hown hK hP 0 2 ⟨rfl, rfl, by decide⟩ (by omega) rfl (List.mem_of_getElem? (i := 1) rfl) (fun _ h9 => h9) dX4_listed_14 ?_
  refine lv_iload_n hx hb dX4_listed_17 rfl (lv_at hl 2 rfl) ?_
  refine w_calli (va_runV (As := [.int (pl)]) (rest := []) ⟨hx, hb, hml, hown, hts⟩ (c_X2_find l nW D cA ad hi hNW ((rbS I J r 5).1) ((rbS I J r 5).2.1) X H.size (rbS I J r 5).2.2 pl ⟨(rbS_sz 5).1, Nat.le_trans (rbS_sz 5).2 (by decide)⟩) (cwV 1 hts gX4_listed_X2_find rfl rfl rfl (by decide +kernel) ⟨Nat.le_of_ble_eq_true rfl, Nat.le_of_ble_eq_true rfl⟩) (w_preV hK hP 83 (by omega) ⟨rfl, rfl⟩ rfl) rfl rfl hl.1 rfl (lv_room (Nat.le_of_ble_eq_true rfl)) dX4_listed_18 ⟨Nat.le_of_ble_eq_true rfl, Nat.le_of_ble_eq_true rfl⟩) hS (fun H locs hP hS => ?_)
  refine w_topN (a := f) hf ?_
  refine lv_istore_n (lv' := [(3, .int (nI (f))), (0, .ref (ad 0)), (1, .int (nI (r))), (2, .int (pl))]) hx hb dX4_listed_21 rfl hl (by decide) rfl (fun ls hl => ?_)
  refine lv_iload_n hx hb dX4_listed_22 rfl (lv_at hl 0 rfl) ?_
  refine lv_iconst (v := (-1)) hx hb dX4_listed_23 (by decide) ?_
  refine lv_icmp_ne (tgt := 31) hx hb dX4_listed_24 (by decide) (fun c24 => ?_) (fun c24 => ?_)
  · refine lv_aload_n hx hb dX4_listed_31 rfl (lv_at hl 1 rfl) ?_
    refine w_get (C := RX4) (T := TX4) (N := 7) (v := .ref (ad 83)) (index := 25) hx hb hts inX4_listed_X4 hown hK hP 0 2 ⟨rfl, rfl, by decide⟩ (by omega) rfl (List.mem_of_getElem? (i := 1) rfl) (fun _ h9 => h9) dX4_listed_32 ?_
    refine lv_iload_n hx hb dX4_listed_35 rfl (lv_at hl 0 rfl) ?_
    refine w_calli (va_runV (As := [.int (nI (f))]) (rest := []) ⟨hx, hb, hml, hown, hts⟩ (c_X2_bookAt l nW D cA ad hi hNW ((rbS I J r 5).1) ((rbS I J r 5).2.1) X H.size f (by omega)) (cwV 1 hts gX4_listed_X2_bookAt rfl rfl rfl (by decide +kernel) ⟨Nat.le_of_ble_eq_true rfl, Nat.le_of_ble_eq_true rfl⟩) (w_preV hK hP 83 (by omega) ⟨rfl, rfl⟩ rfl) rfl rfl hl.1 rfl (lv_room (Nat.le_of_ble_eq_true rfl)) dX4_listed_36 ⟨Nat.le_of_ble_eq_true rfl, Nat.le_of_ble_eq_true rfl⟩) hS (fun H locs hP hS => ?_)
    exact w_iret hx hb hr hlocks hK hP hS ⟨by subst_vars; rfl, by subst_vars; rfl, by subst_vars; rfl, by subst_vars; rfl⟩ dX4_listed_39
  · exact absurd c24 (nI_n1 f hf20)

set_option maxHeartbeats 4000000 in
set_option maxRecDepth 100000 in
/-- X4_listed throws -/
theorem x_X4_listed_1 (l : Launch) (hst : l.stackTraces = false) (nW : Nat) (D : va_G) (cA : Nat → ClassId) (ad : Nat → Nat) (hi : inj nW ad) (hNW : 102 ≤ nW) (I : SI) (J : SJ) (X : SX) (sz : Nat) (r pl : Int32) (hp : inF r 0 3 = 0) : vx_Met l yX4_listed wsX4_listed ({ frames := 7, cells := 1, slots := 6, locals := 102 }) (va_Pc [.ref (ad 0), .int (r), .int (pl)] (wPreX nW D cA ad I J X sz)) (nInt nW ad sz) (xT nW D cA ad sz eI I J X) 1 6 (fr nW ad sz) := by
  refine vx_ofW (cc := cX4_listed) (maxL := 4) (ret := (some .int)) (by decide) rfl ?_
  intro p e s m args below meth c s₁ B hml htab hv
  obtain ⟨rfl, ⟨rfl, hP, hK⟩, hX⟩ := hv
  have hx := B.exec
  have hb := B.bytes
  have hr := B.returns
  have hts := atoms_spec (ws := wsX4_listed) B.pre
  have hown : s.vm.findClass RX4 = some m.cls := findClass_of_methodNamed B.named
  have hlocks := B.notSynchronized
  have hS : va_S (fr nW ad s.heap.size) s.heap s.heap [] := va_S.rf
  have hA : ∀ k, k < nW → fr nW ad s.heap.size (ad k) := fr_ad
  have hl := lv_entry ([.ref (ad 0), .int (r), .int (pl)]) (n := 4) (Nat.le_of_ble_eq_true rfl)
  rw [lg_entry_eq]
  generalize (lg_sl ([.ref (ad 0), .int (r), .int (pl)]) ++ List.replicate (4 - (lg_sl ([.ref (ad 0), .int (r), .int (pl)])).length) Slot.unset).toArray = ls at hl ⊢
  have hl : lv_has ls 4 [(0, .ref (ad 0)), (1, .int (r)), (2, .int (pl))] := hl
  suffices K : ∀ (H : Heap) (locs : List Loc), WP nW D cA ad I J X H → va_S (fr nW ad s.heap.size) s.heap H locs → W p l e (headSpec wsX4_listed ({ frames := 7, cells := 1, slots := 6, locals := 102 })).room s m ([.ref (ad 0), .int (r), .int (pl)] : List Value).toArray below meth c H locs 0 0 (vx_MQ below (nInt nW ad s.heap.size) (xT nW D cA ad s.heap.size eI I J X) ([.ref (ad 0), .int (r), .int (pl)] : List Value).toArray s 1 6 (fr nW ad s.heap.size)) (F0 m 0 ls []) from K _ _ hP hS
  clear hP hS
  intro H locs hP hS
  refine lv_iload_n hx hb dX4_listed_0 rfl (lv_at hl 1 rfl) ?_
  exact w_callxV (vx_runS (As := [.int (r)]) (rest := []) ⟨hx, hb, hml, hown, hts⟩ (x_X4_checkReader l hst nW D cA ad hi hNW I J X H.size r hp) (va_cwS 1 hts gX4_listed_X4_checkReader rfl rfl rfl (by decide +kernel) ⟨Nat.le_of_ble_eq_true rfl, Nat.le_of_ble_eq_true rfl⟩) (w_preSX hK hP hX hS) rfl rfl hl.1 rfl (lv_room (Nat.le_of_ble_eq_true rfl)) dX4_listed_1 ⟨Nat.le_of_ble_eq_true rfl, Nat.le_of_ble_eq_true rfl⟩) hK hS htab hlocks (Nat.le_of_ble_eq_true rfl) (Nat.le_of_ble_eq_true rfl)

set_option maxHeartbeats 4000000 in
set_option maxRecDepth 100000 in
/-- X4_listed throws -/
theorem x_X4_listed_2 (l : Launch) (hst : l.stackTraces = false) (nW : Nat) (D : va_G) (cA : Nat → ClassId) (ad : Nat → Nat) (hi : inj nW ad) (hNW : 102 ≤ nW) (I : SI) (J : SJ) (X : SX) (sz : Nat) (r : Nat) (hr4 : r < 4) (pl : Int32) (hp : pl < 0) : vx_Met l yX4_listed wsX4_listed ({ frames := 7, cells := 1, slots := 6, locals := 102 }) (va_Pc [.ref (ad 0), .int (nI (r)), .int (pl)] (wPreX nW D cA ad I J X sz)) (nInt nW ad sz) (xT nW D cA ad sz eI I J X) 1 6 (fr nW ad sz) := by
  refine vx_ofW (cc := cX4_listed) (maxL := 4) (ret := (some .int)) (by decide) rfl ?_
  intro p e s m args below meth c s₁ B hml htab hv
  obtain ⟨rfl, ⟨rfl, hP, hK⟩, hX⟩ := hv
  have hx := B.exec
  have hb := B.bytes
  have hr := B.returns
  have hts := atoms_spec (ws := wsX4_listed) B.pre
  have hown : s.vm.findClass RX4 = some m.cls := findClass_of_methodNamed B.named
  have hlocks := B.notSynchronized
  have hS : va_S (fr nW ad s.heap.size) s.heap s.heap [] := va_S.rf
  have hA : ∀ k, k < nW → fr nW ad s.heap.size (ad k) := fr_ad
  have hl := lv_entry ([.ref (ad 0), .int (nI (r)), .int (pl)]) (n := 4) (Nat.le_of_ble_eq_true rfl)
  rw [lg_entry_eq]
  generalize (lg_sl ([.ref (ad 0), .int (nI (r)), .int (pl)]) ++ List.replicate (4 - (lg_sl ([.ref (ad 0), .int (nI (r)), .int (pl)])).length) Slot.unset).toArray = ls at hl ⊢
  have hl : lv_has ls 4 [(0, .ref (ad 0)), (1, .int (nI (r))), (2, .int (pl))] := hl
  suffices K : ∀ (H : Heap) (locs : List Loc), WP nW D cA ad I J X H → va_S (fr nW ad s.heap.size) s.heap H locs → W p l e (headSpec wsX4_listed ({ frames := 7, cells := 1, slots := 6, locals := 102 })).room s m ([.ref (ad 0), .int (nI (r)), .int (pl)] : List Value).toArray below meth c H locs 0 0 (vx_MQ below (nInt nW ad s.heap.size) (xT nW D cA ad s.heap.size eI I J X) ([.ref (ad 0), .int (nI (r)), .int (pl)] : List Value).toArray s 1 6 (fr nW ad s.heap.size)) (F0 m 0 ls []) from K _ _ hP hS
  clear hP hS
  intro H locs hP hS
  refine lv_iload_n hx hb dX4_listed_0 rfl (lv_at hl 1 rfl) ?_
  refine w_callv (va_runS (As := [.int (nI (r))]) (rest := []) ⟨hx, hb, hml, hown, hts⟩ (c_X4_checkReader l nW D cA ad hi hNW I J X H.size r (by omega)) (va_cwS 1 hts gX4_listed_X4_checkReader rfl rfl rfl (by decide +kernel) ⟨Nat.le_of_ble_eq_true rfl, Nat.le_of_ble_eq_true rfl⟩) (w_preS hK hP) rfl rfl hl.1 rfl (lv_room (Nat.le_of_ble_eq_true rfl)) dX4_listed_1 ⟨Nat.le_of_ble_eq_true rfl, Nat.le_of_ble_eq_true rfl⟩) hS (fun H locs hP hS => ?_)
  refine lv_iload_n hx hb dX4_listed_4 rfl (lv_at hl 2 rfl) ?_
  exact w_callxV (vx_runS (As := [.int (pl)]) (rest := []) ⟨hx, hb, hml, hown, hts⟩ (x_X4_checkPlace l hst nW D cA ad hi hNW I J X H.size pl hp) (va_cwS 1 hts gX4_listed_X4_checkPlace rfl rfl rfl (by decide +kernel) ⟨Nat.le_of_ble_eq_true rfl, Nat.le_of_ble_eq_true rfl⟩) (w_preSX hK hP hX hS) rfl rfl hl.1 rfl (lv_room (Nat.le_of_ble_eq_true rfl)) dX4_listed_5 ⟨Nat.le_of_ble_eq_true rfl, Nat.le_of_ble_eq_true rfl⟩) hK hS htab hlocks (Nat.le_of_ble_eq_true rfl) (Nat.le_of_ble_eq_true rfl)

theorem inX4_way_X1 : ∀ w ∈ wsX10, w ∈ wsX4_way := by decide +kernel
theorem inX4_way_X2 : ∀ w ∈ wsX20, w ∈ wsX4_way := by decide +kernel
theorem inX4_way_X4 : ∀ w ∈ wsX40, w ∈ wsX4_way := by decide +kernel
set_option maxHeartbeats 4000000 in
set_option maxRecDepth 100000 in
/-- X4_way -/
theorem c_X4_way_no (l : Launch) (nW : Nat) (D : va_G) (cA : Nat → ClassId) (ad : Nat → Nat) (hi : inj nW ad) (hNW : 102 ≤ nW) (I : SI) (J : SJ) (X : SX) (sz : Nat) (r k : Nat) (hr4 : r < 4) (hk5 : k < 5) (pl w : Int32) (hpl : ¬ pl < 0) (hw : inF w 0 2 = 1) (hf : fiF (rwOut I J r k 5).2.1 (rwOut I J r k 5).2.2 pl (rwOut I J r k 5).2.2 0 = -1) : Met l yX4_way wsX4_way ({ frames := 4, cells := 0, slots := 0, locals := 97 }) (va_Pc [.ref (ad 0), .int (nI (r)), .int (nI (k)), .int (pl), .int (w)] (wPre nW D cA ad I J X sz)) (qI nW D cA ad sz (-1) ((rwOut I J r k 5).1) ((rwOut I J r k 5).2.1) X) 0 0 (fr nW ad sz) := by
  refine Met.ofW (cc := cX4_way) (maxL := 6) (ret := (some .int)) (by decide) rfl ?_
  intro p e s m args below meth c s₁ B hml hv
  obtain ⟨rfl, rfl, hP, hK⟩ := hv
  have hx := B.exec
  have hb := B.bytes
  have hr := B.returns
  have hts := atoms_spec (ws := wsX4_way) B.pre
  have hown : s.vm.findClass RX4 = some m.cls := findClass_of_methodNamed B.named
  have hlocks := B.notSynchronized
  have hS : va_S (fr nW ad s.heap.size) s.heap s.heap [] := va_S.rf
  have hA : ∀ k, k < nW → fr nW ad s.heap.size (ad k) := fr_ad
  have hl := lv_entry ([.ref (ad 0), .int (nI (r)), .int (nI (k)), .int (pl), .int (w)]) (n := 6) (Nat.le_of_ble_eq_true rfl)
  rw [lg_entry_eq]
  generalize (lg_sl ([.ref (ad 0), .int (nI (r)), .int (nI (k)), .int (pl), .int (w)]) ++ List.replicate (6 - (lg_sl ([.ref (ad 0), .int (nI (r)), .int (nI (k)), .int (pl), .int (w)])).length) Slot.unset).toArray = ls at hl ⊢
  have hl : lv_has ls 6 [(0, .ref (ad 0)), (1, .int (nI (r))), (2, .int (nI (k))), (3, .int (pl)), (4, .int (w))] := hl
  have hS0 := hS
  suffices K : ∀ (H : Heap) (locs : List Loc), WP nW D cA ad I J X H → va_S (fr nW ad s.heap.size) s.heap H locs → W p l e (headSpec wsX4_way ({ frames := 4, cells := 0, slots := 0, locals := 97 })).room s m ([.ref (ad 0), .int (nI (r)), .int (nI (k)), .int (pl), .int (w)] : List Value).toArray below meth c H locs 0 0 (MQ below (qI nW D cA ad s.heap.size (-1) ((rwOut I J r k 5).1) ((rwOut I J r k 5).2.1) X) ([.ref (ad 0), .int (nI (r)), .int (nI (k)), .int (pl), .int (w)] : List Value).toArray s 0 0 (fr nW ad s.heap.size)) (F0 m 0 ls []) from K _ _ hP hS
  clear hP hS hS0
  intro H locs hP hS
  refine lv_iload_n hx hb dX4_way_0 rfl (lv_at hl 1 rfl) ?_
  refine w_callv (va_runS (As := [.int (nI (r))]) (rest := []) ⟨hx, hb, hml, hown, hts⟩ (c_X4_checkReader l nW D cA ad hi hNW I J X H.size r (by omega)) (va_cwS 1 hts gX4_way_X4_checkReader rfl rfl rfl (by decide +kernel) ⟨Nat.le_of_ble_eq_true rfl, Nat.le_of_ble_eq_true rfl⟩) (w_preS hK hP) rfl rfl hl.1 rfl (lv_room (Nat.le_of_ble_eq_true rfl)) dX4_way_1 ⟨Nat.le_of_ble_eq_true rfl, Nat.le_of_ble_eq_true rfl⟩) hS (fun H locs hP hS => ?_)
  refine lv_iload_n hx hb dX4_way_4 rfl (lv_at hl 2 rfl) ?_
  refine w_callv (va_runS (As := [.int (nI (k))]) (rest := []) ⟨hx, hb, hml, hown, hts⟩ (c_X4_checkBook l nW D cA ad hi hNW I J X H.size k (by omega)) (va_cwS 1 hts gX4_way_X4_checkBook rfl rfl rfl (by decide +kernel) ⟨Nat.le_of_ble_eq_true rfl, Nat.le_of_ble_eq_true rfl⟩) (w_preS hK hP) rfl rfl hl.1 rfl (lv_room (Nat.le_of_ble_eq_true rfl)) dX4_way_5 ⟨Nat.le_of_ble_eq_true rfl, Nat.le_of_ble_eq_true rfl⟩) hS (fun H locs hP hS => ?_)
  refine lv_iload_n hx hb dX4_way_8 rfl (lv_at hl 3 rfl) ?_
  refine w_callv (va_runS (As := [.int (pl)]) (rest := []) ⟨hx, hb, hml, hown, hts⟩ (c_X4_checkPlace l nW D cA ad hi hNW I J X H.size pl hpl) (va_cwS 1 hts gX4_way_X4_checkPlace rfl rfl rfl (by decide +kernel) ⟨Nat.le_of_ble_eq_true rfl, Nat.le_of_ble_eq_true rfl⟩) (w_preS hK hP) rfl rfl hl.1 rfl (lv_room (Nat.le_of_ble_eq_true rfl)) dX4_way_9 ⟨Nat.le_of_ble_eq_true rfl, Nat.le_of_ble_eq_true rfl⟩) hS (fun H locs hP hS => ?_)
  refine lv_iload hx hb dX4_way_12 (lv_at hl 4 rfl) ?_
  refine lv_iconst (v := 0) hx hb dX4_way_14 (by decide) ?_
  refine lv_iconst (v := 2) hx hb dX4_way_15 (by decide) ?_
  refine w_callv (va_runS (As := [.int (w), .int (0), .int (2)]) (rest := []) ⟨hx, hb, hml, hown, hts⟩ (c_X4_checkRange l nW D cA ad hi hNW I J X H.size w 0 2 hw) (va_cwS 3 hts gX4_way_X4_checkRange rfl rfl rfl (by decide +kernel) ⟨Nat.le_of_ble_eq_true rfl, Nat.le_of_ble_eq_true rfl⟩) (w_preS hK hP) rfl rfl hl.1 rfl (lv_room (Nat.le_of_ble_eq_true rfl)) dX4_way_16 ⟨Nat.le_of_ble_eq_true rfl, Nat.le_of_ble_eq_true rfl⟩) hS (fun H locs hP hS => ?_)
  refine lv_aload_n hx hb dX4_way_19 rfl (lv_at hl 0 rfl) ?_
  refine lv_iload_n hx hb dX4_way_20 rfl (lv_at hl 1 rfl) ?_
  refine lv_iload_n hx hb dX4_way_21 rfl (lv_at hl 2 rfl) ?_
  refine w_callv (va_runV (As := [.int (nI (r)), .int (nI (k))]) (rest := []) ⟨hx, hb, hml, hown, hts⟩ (c_X4_rankWays l nW D cA ad hi hNW I J X H.size r k (by omega) (by omega)) (cwV 2 hts gX4_way_X4_rankWays rfl rfl rfl (by decide +kernel) ⟨Nat.le_of_ble_eq_true rfl, Nat.le_of_ble_eq_true rfl⟩) (w_preV hK hP 0 (by omega) ⟨rfl, rfl⟩ rfl) rfl rfl hl.1 rfl (lv_room (Nat.le_of_ble_eq_true rfl)) dX4_way_22 ⟨Nat.le_of_ble_eq_true rfl, Nat.le_of_ble_eq_true rfl⟩) hS (fun H locs hP hS => ?_)
  refine lv_aload_n hx hb dX4_way_25 rfl (lv_at hl 0 rfl) ?_
  refine w_get (C := RX4) (T := TX4) (N := 7) (v := .ref (ad 83)) (index := 25) hx hb hts inX4_way_X4 hown hK hP 0 2 ⟨rfl, rfl, by decide⟩ (by omega) rfl (List.mem_of_getElem? (i := 1) rfl) (fun _ h9 => h9) dX4_way_26 ?_
  refine lv_iload_n hx hb dX4_way_29 rfl (lv_at hl 3 rfl) ?_
  refine w_calli (va_runV (As := [.int (pl)]) (rest := []) ⟨hx, hb, hml, hown, hts⟩ (c_X2_find l nW D cA ad hi hNW ((rwOut I J r k 5).1) ((rwOut I J r k 5).2.1) X H.size (rwOut I J r k 5).2.2 pl ⟨(rwOut_sz 5).1, (rwOut_sz 5).2⟩) (cwV 1 hts gX4_way_X2_find rfl rfl rfl (by decide +kernel) ⟨Nat.le_of_ble_eq_true rfl, Nat.le_of_ble_eq_true rfl⟩) (w_preV hK hP 83 (by omega) ⟨rfl, rfl⟩ rfl) rfl rfl hl.1 rfl (lv_room (Nat.le_of_ble_eq_true rfl)) dX4_way_30 ⟨Nat.le_of_ble_eq_true rfl, Nat.le_of_ble_eq_true rfl⟩) hS (fun H locs hP hS => ?_)
  refine lv_topi (fun fd efd => ?_)
  refine lv_istore (lv' := [(5, .int (fd)), (0, .ref (ad 0)), (1, .int (nI (r))), (2, .int (nI (k))), (3, .int (pl)), (4, .int (w))]) hx hb dX4_way_33 hl (by decide) rfl (fun ls hl => ?_)
  refine lv_iload hx hb dX4_way_35 (lv_at hl 0 rfl) ?_
  refine lv_iconst (v := (-1)) hx hb dX4_way_37 (by decide) ?_
  refine lv_icmp_ne (tgt := 43) hx hb dX4_way_38 (by decide) (fun c38 => ?_) (fun c38 => ?_)
  · exact absurd (by subst_vars; exact hf) c38
  · refine lv_iconst (v := (-1)) hx hb dX4_way_41 (by decide) ?_
    exact w_iret hx hb hr hlocks hK hP hS ⟨by subst_vars; rfl, by subst_vars; rfl, by subst_vars; rfl, by subst_vars; rfl⟩ dX4_way_42

set_option maxHeartbeats 4000000 in
set_option maxRecDepth 100000 in
/-- X4_way -/
theorem c_X4_way_0 (l : Launch) (nW : Nat) (D : va_G) (cA : Nat → ClassId) (ad : Nat → Nat) (hi : inj nW ad) (hNW : 102 ≤ nW) (I : SI) (J : SJ) (X : SX) (sz : Nat) (r k : Nat) (hr4 : r < 4) (hk5 : k < 5) (pl : Int32) (hpl : ¬ pl < 0) (f : Nat) (hf20 : f < 20) (hf : fiF (rwOut I J r k 5).2.1 (rwOut I J r k 5).2.2 pl (rwOut I J r k 5).2.2 0 = nI f) : Met l yX4_way wsX4_way ({ frames := 4, cells := 0, slots := 0, locals := 97 }) (va_Pc [.ref (ad 0), .int (nI (r)), .int (nI (k)), .int (pl), .int (0)] (wPre nW D cA ad I J X sz)) (qI nW D cA ad sz ((rwOut I J r k 5).1 85 f) ((rwOut I J r k 5).1) ((rwOut I J r k 5).2.1) X) 0 0 (fr nW ad sz) := by
  refine Met.ofW (cc := cX4_way) (maxL := 6) (ret := (some .int)) (by decide) rfl ?_
  intro p e s m args below meth c s₁ B hml hv
  obtain ⟨rfl, rfl, hP, hK⟩ := hv
  have hx := B.exec
  have hb := B.bytes
  have hr := B.returns
  have hts := atoms_spec (ws := wsX4_way) B.pre
  have hown : s.vm.findClass RX4 = some m.cls := findClass_of_methodNamed B.named
  have hlocks := B.notSynchronized
  have hS : va_S (fr nW ad s.heap.size) s.heap s.heap [] := va_S.rf
  have hA : ∀ k, k < nW → fr nW ad s.heap.size (ad k) := fr_ad
  have hl := lv_entry ([.ref (ad 0), .int (nI (r)), .int (nI (k)), .int (pl), .int (0)]) (n := 6) (Nat.le_of_ble_eq_true rfl)
  rw [lg_entry_eq]
  generalize (lg_sl ([.ref (ad 0), .int (nI (r)), .int (nI (k)), .int (pl), .int (0)]) ++ List.replicate (6 - (lg_sl ([.ref (ad 0), .int (nI (r)), .int (nI (k)), .int (pl), .int (0)])).length) Slot.unset).toArray = ls at hl ⊢
  have hl : lv_has ls 6 [(0, .ref (ad 0)), (1, .int (nI (r))), (2, .int (nI (k))), (3, .int (pl)), (4, .int (0))] := hl
  have hS0 := hS
  suffices K : ∀ (H : Heap) (locs : List Loc), WP nW D cA ad I J X H → va_S (fr nW ad s.heap.size) s.heap H locs → W p l e (headSpec wsX4_way ({ frames := 4, cells := 0, slots := 0, locals := 97 })).room s m ([.ref (ad 0), .int (nI (r)), .int (nI (k)), .int (pl), .int (0)] : List Value).toArray below meth c H locs 0 0 (MQ below (qI nW D cA ad s.heap.size ((rwOut I J r k 5).1 85 f) ((rwOut I J r k 5).1) ((rwOut I J r k 5).2.1) X) ([.ref (ad 0), .int (nI (r)), .int (nI (k)), .int (pl), .int (0)] : List Value).toArray s 0 0 (fr nW ad s.heap.size)) (F0 m 0 ls []) from K _ _ hP hS
  clear hP hS hS0
  intro H locs hP hS
  refine lv_iload_n hx hb dX4_way_0 rfl (lv_at hl 1 rfl) ?_
  refine w_callv (va_runS (As := [.int (nI (r))]) (rest := []) ⟨hx, hb, hml, hown, hts⟩ (c_X4_checkReader l nW D cA ad hi hNW I J X H.size r (by omega)) (va_cwS 1 hts gX4_way_X4_checkReader rfl rfl rfl (by decide +kernel) ⟨Nat.le_of_ble_eq_true rfl, Nat.le_of_ble_eq_true rfl⟩) (w_preS hK hP) rfl rfl hl.1 rfl (lv_room (Nat.le_of_ble_eq_true rfl)) dX4_way_1 ⟨Nat.le_of_ble_eq_true rfl, Nat.le_of_ble_eq_true rfl⟩) hS (fun H locs hP hS => ?_)
  refine lv_iload_n hx hb dX4_way_4 rfl (lv_at hl 2 rfl) ?_
  refine w_callv (va_runS (As := [.int (nI (k))]) (rest := []) ⟨hx, hb, hml, hown, hts⟩ (c_X4_checkBook l nW D cA ad hi hNW I J X H.size k (by omega)) (va_cwS 1 hts gX4_way_X4_checkBook rfl rfl rfl (by decide +kernel) ⟨Nat.le_of_ble_eq_true rfl, Nat.le_of_ble_eq_true rfl⟩) (w_preS hK hP) rfl rfl hl.1 rfl (lv_room (Nat.le_of_ble_eq_true rfl)) dX4_way_5 ⟨Nat.le_of_ble_eq_true rfl, Nat.le_of_ble_eq_true rfl⟩) hS (fun H locs hP hS => ?_)
  refine lv_iload_n hx hb dX4_way_8 rfl (lv_at hl 3 rfl) ?_
  refine w_callv (va_runS (As := [.int (pl)]) (rest := []) ⟨hx, hb, hml, hown, hts⟩ (c_X4_checkPlace l nW D cA ad hi hNW I J X H.size pl hpl) (va_cwS 1 hts gX4_way_X4_checkPlace rfl rfl rfl (by decide +kernel) ⟨Nat.le_of_ble_eq_true rfl, Nat.le_of_ble_eq_true rfl⟩) (w_preS hK hP) rfl rfl hl.1 rfl (lv_room (Nat.le_of_ble_eq_true rfl)) dX4_way_9 ⟨Nat.le_of_ble_eq_true rfl, Nat.le_of_ble_eq_true rfl⟩) hS (fun H locs hP hS => ?_)
  refine lv_iload hx hb dX4_way_12 (lv_at hl 4 rfl) ?_
  refine lv_iconst (v := 0) hx hb dX4_way_14 (by decide) ?_
  refine lv_iconst (v := 2) hx hb dX4_way_15 (by decide) ?_
  refine w_callv (va_runS (As := [.int (0), .int (0), .int (2)]) (rest := []) ⟨hx, hb, hml, hown, hts⟩ (c_X4_checkRange l nW D cA ad hi hNW I J X H.size 0 0 2 (by decide)) (va_cwS 3 hts gX4_way_X4_checkRange rfl rfl rfl (by decide +kernel) ⟨Nat.le_of_ble_eq_true rfl, Nat.le_of_ble_eq_true rfl⟩) (w_preS hK hP) rfl rfl hl.1 rfl (lv_room (Nat.le_of_ble_eq_true rfl)) dX4_way_16 ⟨Nat.le_of_ble_eq_true rfl, Nat.le_of_ble_eq_true rfl⟩) hS (fun H locs hP hS => ?_)
  refine lv_aload_n hx hb dX4_way_19 rfl (lv_at hl 0 rfl) ?_
  refine lv_iload_n hx hb dX4_way_20 rfl (lv_at hl 1 rfl) ?_
  refine lv_iload_n hx hb dX4_way_21 rfl (lv_at hl 2 rfl) ?_
  refine w_callv (va_runV (As := [.int (nI (r)), .int (nI (k))]) (rest := []) ⟨hx, hb, hml, hown, hts⟩ (c_X4_rankWays l nW D cA ad hi hNW I J X H.size r k (by omega) (by omega)) (cwV 2 hts gX4_way_X4_rankWays rfl rfl rfl (by decide +kernel) ⟨Nat.le_of_ble_eq_true rfl, Nat.le_of_ble_eq_true rfl⟩) (w_preV hK hP 0 (by omega) ⟨rfl, rfl⟩ rfl) rfl rfl hl.1 rfl (lv_room (Nat.le_of_ble_eq_true rfl)) dX4_way_22 ⟨Nat.le_of_ble_eq_true rfl, Nat.le_of_ble_eq_true rfl⟩) hS (fun H locs hP hS => ?_)
  refine lv_aload_n hx hb dX4_way_25 rfl (lv_at hl 0 rfl) ?_
  refine w_get (C := RX4) (T := TX4) (N := 7) (v := .ref (ad 83)) (index := 25) hx hb hts inX4_way_X4 hown hK hP 0 2 ⟨rfl, rfl, by decide⟩ (by omega) rfl (List.mem_of_getElem? (i := 1) rfl) (fun _ h9 => h9) dX4_way_26 ?_
  refine lv_iload_n hx hb dX4_way_29 rfl (lv_at hl 3 rfl) ?_
  refine w_calli (va_runV (As := [.int (pl)]) (rest := []) ⟨hx, hb, hml, hown, hts⟩ (c_X2_find l nW D cA ad hi hNW ((rwOut I J r k 5).1) ((rwOut I J r k 5).2.1) X H.size (rwOut I J r k 5).2.2 pl ⟨(rwOut_sz 5).1, (rwOut_sz 5).2⟩) (cwV 1 hts gX4_way_X2_find rfl rfl rfl (by decide +kernel) ⟨Nat.le_of_ble_eq_true rfl, Nat.le_of_ble_eq_true rfl⟩) (w_preV hK hP 83 (by omega) ⟨rfl, rfl⟩ rfl) rfl rfl hl.1 rfl (lv_room (Nat.le_of_ble_eq_true rfl)) dX4_way_30 ⟨Nat.le_of_ble_eq_true rfl, Nat.le_of_ble_eq_true rfl⟩) hS (fun H locs hP hS => ?_)
  refine w_topN (a := f) hf ?_
  refine lv_istore (lv' := [(5, .int (nI (f))), (0, .ref (ad 0)), (1, .int (nI (r))), (2, .int (nI (k))), (3, .int (pl)), (4, .int (0))]) hx hb dX4_way_33 hl (by decide) rfl (fun ls hl => ?_)
  refine lv_iload hx hb dX4_way_35 (lv_at hl 0 rfl) ?_
  refine lv_iconst (v := (-1)) hx hb dX4_way_37 (by decide) ?_
  refine lv_icmp_ne (tgt := 43) hx hb dX4_way_38 (by decide) (fun c38 => ?_) (fun c38 => ?_)
  · refine lv_iload hx hb dX4_way_43 (lv_at hl 5 rfl) ?_
    refine lv_if_ne (tgt := 58) hx hb dX4_way_45 (by decide) (fun c45 => ?_) (fun c45 => ?_)
    · exact absurd c45 (by decide)
    · refine lv_aload_n hx hb dX4_way_48 rfl (lv_at hl 1 rfl) ?_
      refine w_get (C := RX4) (T := TX4) (N := 7) (v := .ref (ad 83)) (index := 25) hx hb hts inX4_way_X4 hown hK hP 0 2 ⟨rfl, rfl, by decide⟩ (by omega) rfl (List.mem_of_getElem? (i := 1) rfl) (fun _ h9 => h9) dX4_way_49 ?_
      refine lv_iload hx hb dX4_way_52 (lv_at hl 0 rfl) ?_
      refine w_calli (va_runV (As := [.int (nI (f))]) (rest := []) ⟨hx, hb, hml, hown, hts⟩ (c_X2_bookAt l nW D cA ad hi hNW ((rwOut I J r k 5).1) ((rwOut I J r k 5).2.1) X H.size f (by omega)) (cwV 1 hts gX4_way_X2_bookAt rfl rfl rfl (by decide +kernel) ⟨Nat.le_of_ble_eq_true rfl, Nat.le_of_ble_eq_true rfl⟩) (w_preV hK hP 83 (by omega) ⟨rfl, rfl⟩ rfl) rfl rfl hl.1 rfl (lv_room (Nat.le_of_ble_eq_true rfl)) dX4_way_54 ⟨Nat.le_of_ble_eq_true rfl, Nat.le_of_ble_eq_true rfl⟩) hS (fun H locs hP hS => ?_)
      exact w_iret hx hb hr hlocks hK hP hS ⟨by subst_vars; rfl, by subst_vars; rfl, by subst_vars; rfl, by subst_vars; rfl⟩ dX4_way_57
  · exact absurd c38 (nI_n1 f hf20)

set_option maxHeartbeats 4000000 in
set_option maxRecDepth 100000 in
/-- X4_way -/
theorem c_X4_way_1 (l : Launch) (nW : Nat) (D : va_G) (cA : Nat → ClassId) (ad : Nat → Nat) (hi : inj nW ad) (hNW : 102 ≤ nW) (I : SI) (J : SJ) (X : SX) (sz : Nat) (r k : Nat) (hr4 : r < 4) (hk5 : k < 5) (pl : Int32) (hpl : ¬ pl < 0) (f : Nat) (hf20 : f < 20) (hf : fiF (rwOut I J r k 5).2.1 (rwOut I J r k 5).2.2 pl (rwOut I J r k 5).2.2 0 = nI f) : Met l yX4_way wsX4_way ({ frames := 4, cells := 0, slots := 0, locals := 97 }) (va_Pc [.ref (ad 0), .int (nI (r)), .int (nI (k)), .int (pl), .int (1)] (wPre nW D cA ad I J X sz)) (qI nW D cA ad sz ((rwOut I J r k 5).1 86 f) ((rwOut I J r k 5).1) ((rwOut I J r k 5).2.1) X) 0 0 (fr nW ad sz) := by
  refine Met.ofW (cc := cX4_way) (maxL := 6) (ret := (some .int)) (by decide) rfl ?_
  intro p e s m args below meth c s₁ B hml hv
  obtain ⟨rfl, rfl, hP, hK⟩ := hv
  have hx := B.exec
  have hb := B.bytes
  have hr := B.returns
  have hts := atoms_spec (ws := wsX4_way) B.pre
  have hown : s.vm.findClass RX4 = some m.cls := findClass_of_methodNamed B.named
  have hlocks := B.notSynchronized
  have hS : va_S (fr nW ad s.heap.size) s.heap s.heap [] := va_S.rf
  have hA : ∀ k, k < nW → fr nW ad s.heap.size (ad k) := fr_ad
  have hl := lv_entry ([.ref (ad 0), .int (nI (r)), .int (nI (k)), .int (pl), .int (1)]) (n := 6) (Nat.le_of_ble_eq_true rfl)
  rw [lg_entry_eq]
  generalize (lg_sl ([.ref (ad 0), .int (nI (r)), .int (nI (k)), .int (pl), .int (1)]) ++ List.replicate (6 - (lg_sl ([.ref (ad 0), .int (nI (r)), .int (nI (k)), .int (pl), .int (1)])).length) Slot.unset).toArray = ls at hl ⊢
  have hl : lv_has ls 6 [(0, .ref (ad 0)), (1, .int (nI (r))), (2, .int (nI (k))), (3, .int (pl)), (4, .int (1))] := hl
  have hS0 := hS
  suffices K : ∀ (H : Heap) (locs : List Loc), WP nW D cA ad I J X H → va_S (fr nW ad s.heap.size) s.heap H locs → W p l e (headSpec wsX4_way ({ frames := 4, cells := 0, slots := 0, locals := 97 })).room s m ([.ref (ad 0), .int (nI (r)), .int (nI (k)), .int (pl), .int (1)] : List Value).toArray below meth c H locs 0 0 (MQ below (qI nW D cA ad s.heap.size ((rwOut I J r k 5).1 86 f) ((rwOut I J r k 5).1) ((rwOut I J r k 5).2.1) X) ([.ref (ad 0), .int (nI (r)), .int (nI (k)), .int (pl), .int (1)] : List Value).toArray s 0 0 (fr nW ad s.heap.size)) (F0 m 0 ls []) from K _ _ hP hS
  clear hP hS hS0
  intro H locs hP hS
  refine lv_iload_n hx hb dX4_way_0 rfl (lv_at hl 1 rfl) ?_
  refine w_callv (va_runS (As := [.int (nI (r))]) (rest := []) ⟨hx, hb, hml, hown, hts⟩ (c_X4_checkReader l nW D cA ad hi hNW I J X H.size r (by omega)) (va_cwS 1 hts gX4_way_X4_checkReader rfl rfl rfl (by decide +kernel) ⟨Nat.le_of_ble_eq_true rfl, Nat.le_of_ble_eq_true rfl⟩) (w_preS hK hP) rfl rfl hl.1 rfl (lv_room (Nat.le_of_ble_eq_true rfl)) dX4_way_1 ⟨Nat.le_of_ble_eq_true rfl, Nat.le_of_ble_eq_true rfl⟩) hS (fun H locs hP hS => ?_)
  refine lv_iload_n hx hb dX4_way_4 rfl (lv_at hl 2 rfl) ?_
  refine w_callv (va_runS (As := [.int (nI (k))]) (rest := []) ⟨hx, hb, hml, hown, hts⟩ (c_X4_checkBook l nW D cA ad hi hNW I J X H.size k (by omega)) (va_cwS 1 hts gX4_way_X4_checkBook rfl rfl rfl (by decide +kernel) ⟨Nat.le_of_ble_eq_true rfl, Nat.le_of_ble_eq_true rfl⟩) (w_preS hK hP) rfl rfl hl.1 rfl (lv_room (Nat.le_of_ble_eq_true rfl)) dX4_way_5 ⟨Nat.le_of_ble_eq_true rfl, Nat.le_of_ble_eq_true rfl⟩) hS (fun H locs hP hS => ?_)
  refine lv_iload_n hx hb dX4_way_8 rfl (lv_at hl 3 rfl) ?_
  refine w_callv (va_runS (As := [.int (pl)]) (rest := []) ⟨hx, hb, hml, hown, hts⟩ (c_X4_checkPlace l nW D cA ad hi hNW I J X H.size pl hpl) (va_cwS 1 hts gX4_way_X4_checkPlace rfl rfl rfl (by decide +kernel) ⟨Nat.le_of_ble_eq_true rfl, Nat.le_of_ble_eq_true rfl⟩) (w_preS hK hP) rfl rfl hl.1 rfl (lv_room (Nat.le_of_ble_eq_true rfl)) dX4_way_9 ⟨Nat.le_of_ble_eq_true rfl, Nat.le_of_ble_eq_true rfl⟩) hS (fun H locs hP hS => ?_)
  refine lv_iload hx hb dX4_way_12 (lv_at hl 4 rfl) ?_
  refine lv_iconst (v := 0) hx hb dX4_way_14 (by decide) ?_
  refine lv_iconst (v := 2) hx hb dX4_way_15 (by decide) ?_
  refine w_callv (va_runS (As := [.int (1), .int (0), .int (2)]) (rest := []) ⟨hx, hb, hml, hown, hts⟩ (c_X4_checkRange l nW D cA ad hi hNW I J X H.size 1 0 2 (by decide)) (va_cwS 3 hts gX4_way_X4_checkRange rfl rfl rfl (by decide +kernel) ⟨Nat.le_of_ble_eq_true rfl, Nat.le_of_ble_eq_true rfl⟩) (w_preS hK hP) rfl rfl hl.1 rfl (lv_room (Nat.le_of_ble_eq_true rfl)) dX4_way_16 ⟨Nat.le_of_ble_eq_true rfl, Nat.le_of_ble_eq_true rfl⟩) hS (fun H locs hP hS => ?_)
  refine lv_aload_n hx hb dX4_way_19 rfl (lv_at hl 0 rfl) ?_
  refine lv_iload_n hx hb dX4_way_20 rfl (lv_at hl 1 rfl) ?_
  refine lv_iload_n hx hb dX4_way_21 rfl (lv_at hl 2 rfl) ?_
  refine w_callv (va_runV (As := [.int (nI (r)), .int (nI (k))]) (rest := []) ⟨hx, hb, hml, hown, hts⟩ (c_X4_rankWays l nW D cA ad hi hNW I J X H.size r k (by omega) (by omega)) (cwV 2 hts gX4_way_X4_rankWays rfl rfl rfl (by decide +kernel) ⟨Nat.le_of_ble_eq_true rfl, Nat.le_of_ble_eq_true rfl⟩) (w_preV hK hP 0 (by omega) ⟨rfl, rfl⟩ rfl) rfl rfl hl.1 rfl (lv_room (Nat.le_of_ble_eq_true rfl)) dX4_way_22 ⟨Nat.le_of_ble_eq_true rfl, Nat.le_of_ble_eq_true rfl⟩) hS (fun H locs hP hS => ?_)
  refine lv_aload_n hx hb dX4_way_25 rfl (lv_at hl 0 rfl) ?_
  refine w_get (C := RX4) (T := TX4) (N := 7) (v := .ref (ad 83)) (index := 25) hx hb hts inX4_way_X4 hown hK hP 0 2 ⟨rfl, rfl, by decide⟩ (by omega) rfl (List.mem_of_getElem? (i := 1) rfl) (fun _ h9 => h9) dX4_way_26 ?_
  refine lv_iload_n hx hb dX4_way_29 rfl (lv_at hl 3 rfl) ?_
  refine w_calli (va_runV (As := [.int (pl)]) (rest := []) ⟨hx, hb, hml, hown, hts⟩ (c_X2_find l nW D cA ad hi hNW ((rwOut I J r k 5).1) ((rwOut I J r k 5).2.1) X H.size (rwOut I J r k 5).2.2 pl ⟨(rwOut_sz 5).1, (rwOut_sz 5).2⟩) (cwV 1 hts gX4_way_X2_find rfl rfl rfl (by decide +kernel) ⟨Nat.le_of_ble_eq_true rfl, Nat.le_of_ble_eq_true rfl⟩) (w_preV hK hP 83 (by omega) ⟨rfl, rfl⟩ rfl) rfl rfl hl.1 rfl (lv_room (Nat.le_of_ble_eq_true rfl)) dX4_way_30 ⟨Nat.le_of_ble_eq_true rfl, Nat.le_of_ble_eq_true rfl⟩) hS (fun H locs hP hS => ?_)
  refine w_topN (a := f) hf ?_
  refine lv_istore (lv' := [(5, .int (nI (f))), (0, .ref (ad 0)), (1, .int (nI (r))), (2, .int (nI (k))), (3, .int (pl)), (4, .int (1))]) hx hb dX4_way_33 hl (by decide) rfl (fun ls hl => ?_)
  refine lv_iload hx hb dX4_way_35 (lv_at hl 0 rfl) ?_
  refine lv_iconst (v := (-1)) hx hb dX4_way_37 (by decide) ?_
  refine lv_icmp_ne (tgt := 43) hx hb dX4_way_38 (by decide) (fun c38 => ?_) (fun c38 => ?_)
  · refine lv_iload hx hb dX4_way_43 (lv_at hl 5 rfl) ?_
    refine lv_if_ne (tgt := 58) hx hb dX4_way_45 (by decide) (fun c45 => ?_) (fun c45 => ?_)
    · refine lv_iload hx hb dX4_way_58 (lv_at hl 5 rfl) ?_
      refine lv_iconst (v := 1) hx hb dX4_way_60 (by decide) ?_
      refine lv_icmp_ne (tgt := 76) hx hb dX4_way_61 (by decide) (fun c61 => ?_) (fun c61 => ?_)
      · exact absurd c61 (by decide)
      · refine lv_aload_n hx hb dX4_way_64 rfl (lv_at hl 1 rfl) ?_
        refine w_get (C := RX4) (T := TX4) (N := 7) (v := .ref (ad 83)) (index := 25) hx hb hts inX4_way_X4 hown hK hP 0 2 ⟨rfl, rfl, by decide⟩ (by omega) rfl (List.mem_of_getElem? (i := 1) rfl) (fun _ h9 => h9) dX4_way_65 ?_
        refine lv_iload hx hb dX4_way_68 (lv_at hl 0 rfl) ?_
        refine w_calli (va_runV (As := [.int (nI (f))]) (rest := []) ⟨hx, hb, hml, hown, hts⟩ (c_X2_readerAt l nW D cA ad hi hNW ((rwOut I J r k 5).1) ((rwOut I J r k 5).2.1) X H.size f (by omega)) (cwV 1 hts gX4_way_X2_readerAt rfl rfl rfl (by decide +kernel) ⟨Nat.le_of_ble_eq_true rfl, Nat.le_of_ble_eq_true rfl⟩) (w_preV hK hP 83 (by omega) ⟨rfl, rfl⟩ rfl) rfl rfl hl.1 rfl (lv_room (Nat.le_of_ble_eq_true rfl)) dX4_way_70 ⟨Nat.le_of_ble_eq_true rfl, Nat.le_of_ble_eq_true rfl⟩) hS (fun H locs hP hS => ?_)
        refine lv_goto (tgt := 86) hx hb dX4_way_73 (by decide) ?_
        exact w_iret hx hb hr hlocks hK hP hS ⟨by subst_vars; rfl, by subst_vars; rfl, by subst_vars; rfl, by subst_vars; rfl⟩ dX4_way_86
    · exact absurd c45 (by decide)
  · exact absurd c38 (nI_n1 f hf20)

set_option maxHeartbeats 4000000 in
set_option maxRecDepth 100000 in
/-- X4_way -/
theorem c_X4_way_2 (l : Launch) (nW : Nat) (D : va_G) (cA : Nat → ClassId) (ad : Nat → Nat) (hi : inj nW ad) (hNW : 102 ≤ nW) (I : SI) (J : SJ) (X : SX) (sz : Nat) (r k : Nat) (hr4 : r < 4) (hk5 : k < 5) (pl : Int32) (hpl : ¬ pl < 0) (f : Nat) (hf20 : f < 20) (hf : fiF (rwOut I J r k 5).2.1 (rwOut I J r k 5).2.2 pl (rwOut I J r k 5).2.2 0 = nI f) : Met l yX4_way wsX4_way ({ frames := 4, cells := 0, slots := 0, locals := 97 }) (va_Pc [.ref (ad 0), .int (nI (r)), .int (nI (k)), .int (pl), .int (2)] (wPre nW D cA ad I J X sz)) (qI nW D cA ad sz (((rwOut I J r k 5).2.1 84 f).toInt32) ((rwOut I J r k 5).1) ((rwOut I J r k 5).2.1) X) 0 0 (fr nW ad sz) := by
  refine Met.ofW (cc := cX4_way) (maxL := 6) (ret := (some .int)) (by decide) rfl ?_
  intro p e s m args below meth c s₁ B hml hv
  obtain ⟨rfl, rfl, hP, hK⟩ := hv
  have hx := B.exec
  have hb := B.bytes
  have hr := B.returns
  have hts := atoms_spec (ws := wsX4_way) B.pre
  have hown : s.vm.findClass RX4 = some m.cls := findClass_of_methodNamed B.named
  have hlocks := B.notSynchronized
  have hS : va_S (fr nW ad s.heap.size) s.heap s.heap [] := va_S.rf
  have hA : ∀ k, k < nW → fr nW ad s.heap.size (ad k) := fr_ad
  have hl := lv_entry ([.ref (ad 0), .int (nI (r)), .int (nI (k)), .int (pl), .int (2)]) (n := 6) (Nat.le_of_ble_eq_true rfl)
  rw [lg_entry_eq]
  generalize (lg_sl ([.ref (ad 0), .int (nI (r)), .int (nI (k)), .int (pl), .int (2)]) ++ List.replicate (6 - (lg_sl ([.ref (ad 0), .int (nI (r)), .int (nI (k)), .int (pl), .int (2)])).length) Slot.unset).toArray = ls at hl ⊢
  have hl : lv_has ls 6 [(0, .ref (ad 0)), (1, .int (nI (r))), (2, .int (nI (k))), (3, .int (pl)), (4, .int (2))] := hl
  have hS0 := hS
  suffices K : ∀ (H : Heap) (locs : List Loc), WP nW D cA ad I J X H → va_S (fr nW ad s.heap.size) s.heap H locs → W p l e (headSpec wsX4_way ({ frames := 4, cells := 0, slots := 0, locals := 97 })).room s m ([.ref (ad 0), .int (nI (r)), .int (nI (k)), .int (pl), .int (2)] : List Value).toArray below meth c H locs 0 0 (MQ below (qI nW D cA ad s.heap.size (((rwOut I J r k 5).2.1 84 f).toInt32) ((rwOut I J r k 5).1) ((rwOut I J r k 5).2.1) X) ([.ref (ad 0), .int (nI (r)), .int (nI (k)), .int (pl), .int (2)] : List Value).toArray s 0 0 (fr nW ad s.heap.size)) (F0 m 0 ls []) from K _ _ hP hS
  clear hP hS hS0
  intro H locs hP hS
  refine lv_iload_n hx hb dX4_way_0 rfl (lv_at hl 1 rfl) ?_
  refine w_callv (va_runS (As := [.int (nI (r))]) (rest := []) ⟨hx, hb, hml, hown, hts⟩ (c_X4_checkReader l nW D cA ad hi hNW I J X H.size r (by omega)) (va_cwS 1 hts gX4_way_X4_checkReader rfl rfl rfl (by decide +kernel) ⟨Nat.le_of_ble_eq_true rfl, Nat.le_of_ble_eq_true rfl⟩) (w_preS hK hP) rfl rfl hl.1 rfl (lv_room (Nat.le_of_ble_eq_true rfl)) dX4_way_1 ⟨Nat.le_of_ble_eq_true rfl, Nat.le_of_ble_eq_true rfl⟩) hS (fun H locs hP hS => ?_)
  refine lv_iload_n hx hb dX4_way_4 rfl (lv_at hl 2 rfl) ?_
  refine w_callv (va_runS (As := [.int (nI (k))]) (rest := []) ⟨hx, hb, hml, hown, hts⟩ (c_X4_checkBook l nW D cA ad hi hNW I J X H.size k (by omega)) (va_cwS 1 hts gX4_way_X4_checkBook rfl rfl rfl (by decide +kernel) ⟨Nat.le_of_ble_eq_true rfl, Nat.le_of_ble_eq_true rfl⟩) (w_preS hK hP) rfl rfl hl.1 rfl (lv_room (Nat.le_of_ble_eq_true rfl)) dX4_way_5 ⟨Nat.le_of_ble_eq_true rfl, Nat.le_of_ble_eq_true rfl⟩) hS (fun H locs hP hS => ?_)
  refine lv_iload_n hx hb dX4_way_8 rfl (lv_at hl 3 rfl) ?_
  refine w_callv (va_runS (As := [.int (pl)]) (rest := []) ⟨hx, hb, hml, hown, hts⟩ (c_X4_checkPlace l nW D cA ad hi hNW I J X H.size pl hpl) (va_cwS 1 hts gX4_way_X4_checkPlace rfl rfl rfl (by decide +kernel) ⟨Nat.le_of_ble_eq_true rfl, Nat.le_of_ble_eq_true rfl⟩) (w_preS hK hP) rfl rfl hl.1 rfl (lv_room (Nat.le_of_ble_eq_true rfl)) dX4_way_9 ⟨Nat.le_of_ble_eq_true rfl, Nat.le_of_ble_eq_true rfl⟩) hS (fun H locs hP hS => ?_)
  refine lv_iload hx hb dX4_way_12 (lv_at hl 4 rfl) ?_
  refine lv_iconst (v := 0) hx hb dX4_way_14 (by decide) ?_
  refine lv_iconst (v := 2) hx hb dX4_way_15 (by decide) ?_
  refine w_callv (va_runS (As := [.int (2), .int (0), .int (2)]) (rest := []) ⟨hx, hb, hml, hown, hts⟩ (c_X4_checkRange l nW D cA ad hi hNW I J X H.size 2 0 2 (by decide)) (va_cwS 3 hts gX4_way_X4_checkRange rfl rfl rfl (by decide +kernel) ⟨Nat.le_of_ble_eq_true rfl, Nat.le_of_ble_eq_true rfl⟩) (w_preS hK hP) rfl rfl hl.1 rfl (lv_room (Nat.le_of_ble_eq_true rfl)) dX4_way_16 ⟨Nat.le_of_ble_eq_true rfl, Nat.le_of_ble_eq_true rfl⟩) hS (fun H locs hP hS => ?_)
  refine lv_aload_n hx hb dX4_way_19 rfl (lv_at hl 0 rfl) ?_
  refine lv_iload_n hx hb dX4_way_20 rfl (lv_at hl 1 rfl) ?_
  refine lv_iload_n hx hb dX4_way_21 rfl (lv_at hl 2 rfl) ?_
  refine w_callv (va_runV (As := [.int (nI (r)), .int (nI (k))]) (rest := []) ⟨hx, hb, hml, hown, hts⟩ (c_X4_rankWays l nW D cA ad hi hNW I J X H.size r k (by omega) (by omega)) (cwV 2 hts gX4_way_X4_rankWays rfl rfl rfl (by decide +kernel) ⟨Nat.le_of_ble_eq_true rfl, Nat.le_of_ble_eq_true rfl⟩) (w_preV hK hP 0 (by omega) ⟨rfl, rfl⟩ rfl) rfl rfl hl.1 rfl (lv_room (Nat.le_of_ble_eq_true rfl)) dX4_way_22 ⟨Nat.le_of_ble_eq_true rfl, Nat.le_of_ble_eq_true rfl⟩) hS (fun H locs hP hS => ?_)
  refine lv_aload_n hx hb dX4_way_25 rfl (lv_at hl 0 rfl) ?_
  refine w_get (C := RX4) (T := TX4) (N := 7) (v := .ref (ad 83)) (index := 25) hx hb hts inX4_way_X4 hown hK hP 0 2 ⟨rfl, rfl, by decide⟩ (by omega) rfl (List.mem_of_getElem? (i := 1) rfl) (fun _ h9 => h9) dX4_way_26 ?_
  refine lv_iload_n hx hb dX4_way_29 rfl (lv_at hl 3 rfl) ?_
  refine w_calli (va_runV (As := [.int (pl)]) (rest := []) ⟨hx, hb, hml, hown, hts⟩ (c_X2_find l nW D cA ad hi hNW ((rwOut I J r k 5).1) ((rwOut I J r k 5).2.1) X H.size (rwOut I J r k 5).2.2 pl ⟨(rwOut_sz 5).1, (rwOut_sz 5).2⟩) (cwV 1 hts gX4_way_X2_find rfl rfl rfl (by decide +kernel) ⟨Nat.le_of_ble_eq_true rfl, Nat.le_of_ble_eq_true rfl⟩) (w_preV hK hP 83 (by omega) ⟨rfl, rfl⟩ rfl) rfl rfl hl.1 rfl (lv_room (Nat.le_of_ble_eq_true rfl)) dX4_way_30 ⟨Nat.le_of_ble_eq_true rfl, Nat.le_of_ble_eq_true rfl⟩) hS (fun H locs hP hS => ?_)
  refine w_topN (a := f) hf ?_
  refine lv_istore (lv' := [(5, .int (nI (f))), (0, .ref (ad 0)), (1, .int (nI (r))), (2, .int (nI (k))), (3, .int (pl)), (4, .int (2))]) hx hb dX4_way_33 hl (by decide) rfl (fun ls hl => ?_)
  refine lv_iload hx hb dX4_way_35 (lv_at hl 0 rfl) ?_
  refine lv_iconst (v := (-1)) hx hb dX4_way_37 (by decide) ?_
  refine lv_icmp_ne (tgt := 43) hx hb dX4_way_38 (by decide) (fun c38 => ?_) (fun c38 => ?_)
  · refine lv_iload hx hb dX4_way_43 (lv_at hl 5 rfl) ?_
    refine lv_if_ne (tgt := 58) hx hb dX4_way_45 (by decide) (fun c45 => ?_) (fun c45 => ?_)
    · refine lv_iload hx hb dX4_way_58 (lv_at hl 5 rfl) ?_
      refine lv_iconst (v := 1) hx hb dX4_way_60 (by decide) ?_
      refine lv_icmp_ne (tgt := 76) hx hb dX4_way_61 (by decide) (fun c61 => ?_) (fun c61 => ?_)
      · refine lv_aload_n hx hb dX4_way_76 rfl (lv_at hl 1 rfl) ?_
        refine w_get (C := RX4) (T := TX4) (N := 7) (v := .ref (ad 83)) (index := 25) hx hb hts inX4_way_X4 hown hK hP 0 2 ⟨rfl, rfl, by decide⟩ (by omega) rfl (List.mem_of_getElem? (i := 1) rfl) (fun _ h9 => h9) dX4_way_77 ?_
        refine lv_iload hx hb dX4_way_80 (lv_at hl 0 rfl) ?_
        refine w_calll (va_runV (As := [.int (nI (f))]) (rest := []) ⟨hx, hb, hml, hown, hts⟩ (c_X2_worthAt l nW D cA ad hi hNW ((rwOut I J r k 5).1) ((rwOut I J r k 5).2.1) X H.size f (by omega)) (cwV 1 hts gX4_way_X2_worthAt rfl rfl rfl (by decide +kernel) ⟨Nat.le_of_ble_eq_true rfl, Nat.le_of_ble_eq_true rfl⟩) (w_preV hK hP 83 (by omega) ⟨rfl, rfl⟩ rfl) rfl rfl hl.1 rfl (lv_room (Nat.le_of_ble_eq_true rfl)) dX4_way_82 ⟨Nat.le_of_ble_eq_true rfl, Nat.le_of_ble_eq_true rfl⟩) hS (fun H locs hP hS => ?_)
        refine lv_l2i (v := (((rwOut I J r k 5).2.1) 84 f).toInt32) hx hb dX4_way_85 rfl ?_
        exact w_iret hx hb hr hlocks hK hP hS ⟨by subst_vars; rfl, by subst_vars; rfl, by subst_vars; rfl, by subst_vars; rfl⟩ dX4_way_86
      · exact absurd c61 (by decide)
    · exact absurd c45 (by decide)
  · exact absurd c38 (nI_n1 f hf20)

set_option maxHeartbeats 4000000 in
set_option maxRecDepth 100000 in
/-- X4_way throws -/
theorem x_X4_way_1 (l : Launch) (hst : l.stackTraces = false) (nW : Nat) (D : va_G) (cA : Nat → ClassId) (ad : Nat → Nat) (hi : inj nW ad) (hNW : 102 ≤ nW) (I : SI) (J : SJ) (X : SX) (sz : Nat) (r k pl w : Int32) (hp : inF r 0 3 = 0) : vx_Met l yX4_way wsX4_way ({ frames := 7, cells := 1, slots := 6, locals := 102 }) (va_Pc [.ref (ad 0), .int (r), .int (k), .int (pl), .int (w)] (wPreX nW D cA ad I J X sz)) (nInt nW ad sz) (xT nW D cA ad sz eI I J X) 1 6 (fr nW ad sz) := by
  refine vx_ofW (cc := cX4_way) (maxL := 6) (ret := (some .int)) (by decide) rfl ?_
  intro p e s m args below meth c s₁ B hml htab hv
  obtain ⟨rfl, ⟨rfl, hP, hK⟩, hX⟩ := hv
  have hx := B.exec
  have hb := B.bytes
  have hr := B.returns
  have hts := atoms_spec (ws := wsX4_way) B.pre
  have hown : s.vm.findClass RX4 = some m.cls := findClass_of_methodNamed B.named
  have hlocks := B.notSynchronized
  have hS : va_S (fr nW ad s.heap.size) s.heap s.heap [] := va_S.rf
  have hA : ∀ k, k < nW → fr nW ad s.heap.size (ad k) := fr_ad
  have hl := lv_entry ([.ref (ad 0), .int (r), .int (k), .int (pl), .int (w)]) (n := 6) (Nat.le_of_ble_eq_true rfl)
  rw [lg_entry_eq]
  generalize (lg_sl ([.ref (ad 0), .int (r), .int (k), .int (pl), .int (w)]) ++ List.replicate (6 - (lg_sl ([.ref (ad 0), .int (r), .int (k), .int (pl), .int (w)])).length) Slot.unset).toArray = ls at hl ⊢
  have hl : lv_has ls 6 [(0, .ref (ad 0)), (1, .int (r)), (2, .int (k)), (3, .int (pl)), (4, .int (w))] := hl
  suffices K : ∀ (H : Heap) (locs : List Loc), WP nW D cA ad I J X H → va_S (fr nW ad s.heap.size) s.heap H locs → W p l e (headSpec wsX4_way ({ frames := 7, cells := 1, slots := 6, locals := 102 })).room s m ([.ref (ad 0), .int (r), .int (k), .int (pl), .int (w)] : List Value).toArray below meth c H locs 0 0 (vx_MQ below (nInt nW ad s.heap.size) (xT nW D cA ad s.heap.size eI I J X) ([.ref (ad 0), .int (r), .int (k), .int (pl), .int (w)] : List Value).toArray s 1 6 (fr nW ad s.heap.size)) (F0 m 0 ls []) from K _ _ hP hS
  clear hP hS
  intro H locs hP hS
  refine lv_iload_n hx hb dX4_way_0 rfl (lv_at hl 1 rfl) ?_
  exact w_callxV (vx_runS (As := [.int (r)]) (rest := []) ⟨hx, hb, hml, hown, hts⟩ (x_X4_checkReader l hst nW D cA ad hi hNW I J X H.size r hp) (va_cwS 1 hts gX4_way_X4_checkReader rfl rfl rfl (by decide +kernel) ⟨Nat.le_of_ble_eq_true rfl, Nat.le_of_ble_eq_true rfl⟩) (w_preSX hK hP hX hS) rfl rfl hl.1 rfl (lv_room (Nat.le_of_ble_eq_true rfl)) dX4_way_1 ⟨Nat.le_of_ble_eq_true rfl, Nat.le_of_ble_eq_true rfl⟩) hK hS htab hlocks (Nat.le_of_ble_eq_true rfl) (Nat.le_of_ble_eq_true rfl)

set_option maxHeartbeats 4000000 in
set_option maxRecDepth 100000 in
/-- X4_way throws -/
theorem x_X4_way_2 (l : Launch) (hst : l.stackTraces = false) (nW : Nat) (D : va_G) (cA : Nat → ClassId) (ad : Nat → Nat) (hi : inj nW ad) (hNW : 102 ≤ nW) (I : SI) (J : SJ) (X : SX) (sz : Nat) (r : Nat) (hr4 : r < 4) (k pl w : Int32) (hp : inF k 0 4 = 0) : vx_Met l yX4_way wsX4_way ({ frames := 7, cells := 1, slots := 6, locals := 102 }) (va_Pc [.ref (ad 0), .int (nI (r)), .int (k), .int (pl), .int (w)] (wPreX nW D cA ad I J X sz)) (nInt nW ad sz) (xT nW D cA ad sz eI I J X) 1 6 (fr nW ad sz) := by
  refine vx_ofW (cc := cX4_way) (maxL := 6) (ret := (some .int)) (by decide) rfl ?_
  intro p e s m args below meth c s₁ B hml htab hv
  obtain ⟨rfl, ⟨rfl, hP, hK⟩, hX⟩ := hv
  have hx := B.exec
  have hb := B.bytes
  have hr := B.returns
  have hts := atoms_spec (ws := wsX4_way) B.pre
  have hown : s.vm.findClass RX4 = some m.cls := findClass_of_methodNamed B.named
  have hlocks := B.notSynchronized
  have hS : va_S (fr nW ad s.heap.size) s.heap s.heap [] := va_S.rf
  have hA : ∀ k, k < nW → fr nW ad s.heap.size (ad k) := fr_ad
  have hl := lv_entry ([.ref (ad 0), .int (nI (r)), .int (k), .int (pl), .int (w)]) (n := 6) (Nat.le_of_ble_eq_true rfl)
  rw [lg_entry_eq]
  generalize (lg_sl ([.ref (ad 0), .int (nI (r)), .int (k), .int (pl), .int (w)]) ++ List.replicate (6 - (lg_sl ([.ref (ad 0), .int (nI (r)), .int (k), .int (pl), .int (w)])).length) Slot.unset).toArray = ls at hl ⊢
  have hl : lv_has ls 6 [(0, .ref (ad 0)), (1, .int (nI (r))), (2, .int (k)), (3, .int (pl)), (4, .int (w))] := hl
  suffices K : ∀ (H : Heap) (locs : List Loc), WP nW D cA ad I J X H → va_S (fr nW ad s.heap.size) s.heap H locs → W p l e (headSpec wsX4_way ({ frames := 7, cells := 1, slots := 6, locals := 102 })).room s m ([.ref (ad 0), .int (nI (r)), .int (k), .int (pl), .int (w)] : List Value).toArray below meth c H locs 0 0 (vx_MQ below (nInt nW ad s.heap.size) (xT nW D cA ad s.heap.size eI I J X) ([.ref (ad 0), .int (nI (r)), .int (k), .int (pl), .int (w)] : List Value).toArray s 1 6 (fr nW ad s.heap.size)) (F0 m 0 ls []) from K _ _ hP hS
  clear hP hS
  intro H locs hP hS
  refine lv_iload_n hx hb dX4_way_0 rfl (lv_at hl 1 rfl) ?_
  refine w_callv (va_runS (As := [.int (nI (r))]) (rest := []) ⟨hx, hb, hml, hown, hts⟩ (c_X4_checkReader l nW D cA ad hi hNW I J X H.size r (by omega)) (va_cwS 1 hts gX4_way_X4_checkReader rfl rfl rfl (by decide +kernel) ⟨Nat.le_of_ble_eq_true rfl, Nat.le_of_ble_eq_true rfl⟩) (w_preS hK hP) rfl rfl hl.1 rfl (lv_room (Nat.le_of_ble_eq_true rfl)) dX4_way_1 ⟨Nat.le_of_ble_eq_true rfl, Nat.le_of_ble_eq_true rfl⟩) hS (fun H locs hP hS => ?_)
  refine lv_iload_n hx hb dX4_way_4 rfl (lv_at hl 2 rfl) ?_
  exact w_callxV (vx_runS (As := [.int (k)]) (rest := []) ⟨hx, hb, hml, hown, hts⟩ (x_X4_checkBook l hst nW D cA ad hi hNW I J X H.size k hp) (va_cwS 1 hts gX4_way_X4_checkBook rfl rfl rfl (by decide +kernel) ⟨Nat.le_of_ble_eq_true rfl, Nat.le_of_ble_eq_true rfl⟩) (w_preSX hK hP hX hS) rfl rfl hl.1 rfl (lv_room (Nat.le_of_ble_eq_true rfl)) dX4_way_5 ⟨Nat.le_of_ble_eq_true rfl, Nat.le_of_ble_eq_true rfl⟩) hK hS htab hlocks (Nat.le_of_ble_eq_true rfl) (Nat.le_of_ble_eq_true rfl)

set_option maxHeartbeats 4000000 in
set_option maxRecDepth 100000 in
/-- X4_way throws -/
theorem x_X4_way_3 (l : Launch) (hst : l.stackTraces = false) (nW : Nat) (D : va_G) (cA : Nat → ClassId) (ad : Nat → Nat) (hi : inj nW ad) (hNW : 102 ≤ nW) (I : SI) (J : SJ) (X : SX) (sz : Nat) (r k : Nat) (hr4 : r < 4) (hk5 : k < 5) (pl w : Int32) (hp : pl < 0) : vx_Met l yX4_way wsX4_way ({ frames := 7, cells := 1, slots := 6, locals := 102 }) (va_Pc [.ref (ad 0), .int (nI (r)), .int (nI (k)), .int (pl), .int (w)] (wPreX nW D cA ad I J X sz)) (nInt nW ad sz) (xT nW D cA ad sz eI I J X) 1 6 (fr nW ad sz) := by
  refine vx_ofW (cc := cX4_way) (maxL := 6) (ret := (some .int)) (by decide) rfl ?_
  intro p e s m args below meth c s₁ B hml htab hv
  obtain ⟨rfl, ⟨rfl, hP, hK⟩, hX⟩ := hv
  have hx := B.exec
  have hb := B.bytes
  have hr := B.returns
  have hts := atoms_spec (ws := wsX4_way) B.pre
  have hown : s.vm.findClass RX4 = some m.cls := findClass_of_methodNamed B.named
  have hlocks := B.notSynchronized
  have hS : va_S (fr nW ad s.heap.size) s.heap s.heap [] := va_S.rf
  have hA : ∀ k, k < nW → fr nW ad s.heap.size (ad k) := fr_ad
  have hl := lv_entry ([.ref (ad 0), .int (nI (r)), .int (nI (k)), .int (pl), .int (w)]) (n := 6) (Nat.le_of_ble_eq_true rfl)
  rw [lg_entry_eq]
  generalize (lg_sl ([.ref (ad 0), .int (nI (r)), .int (nI (k)), .int (pl), .int (w)]) ++ List.replicate (6 - (lg_sl ([.ref (ad 0), .int (nI (r)), .int (nI (k)), .int (pl), .int (w)])).length) Slot.unset).toArray = ls at hl ⊢
  have hl : lv_has ls 6 [(0, .ref (ad 0)), (1, .int (nI (r))), (2, .int (nI (k))), (3, .int (pl)), (4, .int (w))] := hl
  suffices K : ∀ (H : Heap) (locs : List Loc), WP nW D cA ad I J X H → va_S (fr nW ad s.heap.size) s.heap H locs → W p l e (headSpec wsX4_way ({ frames := 7, cells := 1, slots := 6, locals := 102 })).room s m ([.ref (ad 0), .int (nI (r)), .int (nI (k)), .int (pl), .int (w)] : List Value).toArray below meth c H locs 0 0 (vx_MQ below (nInt nW ad s.heap.size) (xT nW D cA ad s.heap.size eI I J X) ([.ref (ad 0), .int (nI (r)), .int (nI (k)), .int (pl), .int (w)] : List Value).toArray s 1 6 (fr nW ad s.heap.size)) (F0 m 0 ls []) from K _ _ hP hS
  clear hP hS
  intro H locs hP hS
  refine lv_iload_n hx hb dX4_way_0 rfl (lv_at hl 1 rfl) ?_
  refine w_callv (va_runS (As := [.int (nI (r))]) (rest := []) ⟨hx, hb, hml, hown, hts⟩ (c_X4_checkReader l nW D cA ad hi hNW I J X H.size r (by omega)) (va_cwS 1 hts gX4_way_X4_checkReader rfl rfl rfl (by decide +kernel) ⟨Nat.le_of_ble_eq_true rfl, Nat.le_of_ble_eq_true rfl⟩) (w_preS hK hP) rfl rfl hl.1 rfl (lv_room (Nat.le_of_ble_eq_true rfl)) dX4_way_1 ⟨Nat.le_of_ble_eq_true rfl, Nat.le_of_ble_eq_true rfl⟩) hS (fun H locs hP hS => ?_)
  refine lv_iload_n hx hb dX4_way_4 rfl (lv_at hl 2 rfl) ?_
  refine w_callv (va_runS (As := [.int (nI (k))]) (rest := []) ⟨hx, hb, hml, hown, hts⟩ (c_X4_checkBook l nW D cA ad hi hNW I J X H.size k (by omega)) (va_cwS 1 hts gX4_way_X4_checkBook rfl rfl rfl (by decide +kernel) ⟨Nat.le_of_ble_eq_true rfl, Nat.le_of_ble_eq_true rfl⟩) (w_preS hK hP) rfl rfl hl.1 rfl (lv_room (Nat.le_of_ble_eq_true rfl)) dX4_way_5 ⟨Nat.le_of_ble_eq_true rfl, Nat.le_of_ble_eq_true rfl⟩) hS (fun H locs hP hS => ?_)
  refine lv_iload_n hx hb dX4_way_8 rfl (lv_at hl 3 rfl) ?_
  exact w_callxV (vx_runS (As := [.int (pl)]) (rest := []) ⟨hx, hb, hml, hown, hts⟩ (x_X4_checkPlace l hst nW D cA ad hi hNW I J X H.size pl hp) (va_cwS 1 hts gX4_way_X4_checkPlace rfl rfl rfl (by decide +kernel) ⟨Nat.le_of_ble_eq_true rfl, Nat.le_of_ble_eq_true rfl⟩) (w_preSX hK hP hX hS) rfl rfl hl.1 rfl (lv_room (Nat.le_of_ble_eq_true rfl)) dX4_way_9 ⟨Nat.le_of_ble_eq_true rfl, Nat.le_of_ble_eq_true rfl⟩) hK hS htab hlocks (Nat.le_of_ble_eq_true rfl) (Nat.le_of_ble_eq_true rfl)

set_option maxHeartbeats 4000000 in
set_option maxRecDepth 100000 in
/-- X4_way throws -/
theorem x_X4_way_4 (l : Launch) (hst : l.stackTraces = false) (nW : Nat) (D : va_G) (cA : Nat → ClassId) (ad : Nat → Nat) (hi : inj nW ad) (hNW : 102 ≤ nW) (I : SI) (J : SJ) (X : SX) (sz : Nat) (r k : Nat) (hr4 : r < 4) (hk5 : k < 5) (pl w : Int32) (hpl : ¬ pl < 0) (hp : inF w 0 2 = 0) : vx_Met l yX4_way wsX4_way ({ frames := 7, cells := 1, slots := 6, locals := 104 }) (va_Pc [.ref (ad 0), .int (nI (r)), .int (nI (k)), .int (pl), .int (w)] (wPreX nW D cA ad I J X sz)) (nInt nW ad sz) (xT nW D cA ad sz eA I J X) 1 6 (fr nW ad sz) := by
  refine vx_ofW (cc := cX4_way) (maxL := 6) (ret := (some .int)) (by decide) rfl ?_
  intro p e s m args below meth c s₁ B hml htab hv
  obtain ⟨rfl, ⟨rfl, hP, hK⟩, hX⟩ := hv
  have hx := B.exec
  have hb := B.bytes
  have hr := B.returns
  have hts := atoms_spec (ws := wsX4_way) B.pre
  have hown : s.vm.findClass RX4 = some m.cls := findClass_of_methodNamed B.named
  have hlocks := B.notSynchronized
  have hS : va_S (fr nW ad s.heap.size) s.heap s.heap [] := va_S.rf
  have hA : ∀ k, k < nW → fr nW ad s.heap.size (ad k) := fr_ad
  have hl := lv_entry ([.ref (ad 0), .int (nI (r)), .int (nI (k)), .int (pl), .int (w)]) (n := 6) (Nat.le_of_ble_eq_true rfl)
  rw [lg_entry_eq]
  generalize (lg_sl ([.ref (ad 0), .int (nI (r)), .int (nI (k)), .int (pl), .int (w)]) ++ List.replicate (6 - (lg_sl ([.ref (ad 0), .int (nI (r)), .int (nI (k)), .int (pl), .int (w)])).length) Slot.unset).toArray = ls at hl ⊢
  have hl : lv_has ls 6 [(0, .ref (ad 0)), (1, .int (nI (r))), (2, .int (nI (k))), (3, .int (pl)), (4, .int (w))] := hl
  suffices K : ∀ (H : Heap) (locs : List Loc), WP nW D cA ad I J X H → va_S (fr nW ad s.heap.size) s.heap H locs → W p l e (headSpec wsX4_way ({ frames := 7, cells := 1, slots := 6, locals := 104 })).room s m ([.ref (ad 0), .int (nI (r)), .int (nI (k)), .int (pl), .int (w)] : List Value).toArray below meth c H locs 0 0 (vx_MQ below (nInt nW ad s.heap.size) (xT nW D cA ad s.heap.size eA I J X) ([.ref (ad 0), .int (nI (r)), .int (nI (k)), .int (pl), .int (w)] : List Value).toArray s 1 6 (fr nW ad s.heap.size)) (F0 m 0 ls []) from K _ _ hP hS
  clear hP hS
  intro H locs hP hS
  refine lv_iload_n hx hb dX4_way_0 rfl (lv_at hl 1 rfl) ?_
  refine w_callv (va_runS (As := [.int (nI (r))]) (rest := []) ⟨hx, hb, hml, hown, hts⟩ (c_X4_checkReader l nW D cA ad hi hNW I J X H.size r (by omega)) (va_cwS 1 hts gX4_way_X4_checkReader rfl rfl rfl (by decide +kernel) ⟨Nat.le_of_ble_eq_true rfl, Nat.le_of_ble_eq_true rfl⟩) (w_preS hK hP) rfl rfl hl.1 rfl (lv_room (Nat.le_of_ble_eq_true rfl)) dX4_way_1 ⟨Nat.le_of_ble_eq_true rfl, Nat.le_of_ble_eq_true rfl⟩) hS (fun H locs hP hS => ?_)
  refine lv_iload_n hx hb dX4_way_4 rfl (lv_at hl 2 rfl) ?_
  refine w_callv (va_runS (As := [.int (nI (k))]) (rest := []) ⟨hx, hb, hml, hown, hts⟩ (c_X4_checkBook l nW D cA ad hi hNW I J X H.size k (by omega)) (va_cwS 1 hts gX4_way_X4_checkBook rfl rfl rfl (by decide +kernel) ⟨Nat.le_of_ble_eq_true rfl, Nat.le_of_ble_eq_true rfl⟩) (w_preS hK hP) rfl rfl hl.1 rfl (lv_room (Nat.le_of_ble_eq_true rfl)) dX4_way_5 ⟨Nat.le_of_ble_eq_true rfl, Nat.le_of_ble_eq_true rfl⟩) hS (fun H locs hP hS => ?_)
  refine lv_iload_n hx hb dX4_way_8 rfl (lv_at hl 3 rfl) ?_
  refine w_callv (va_runS (As := [.int (pl)]) (rest := []) ⟨hx, hb, hml, hown, hts⟩ (c_X4_checkPlace l nW D cA ad hi hNW I J X H.size pl hpl) (va_cwS 1 hts gX4_way_X4_checkPlace rfl rfl rfl (by decide +kernel) ⟨Nat.le_of_ble_eq_true rfl, Nat.le_of_ble_eq_true rfl⟩) (w_preS hK hP) rfl rfl hl.1 rfl (lv_room (Nat.le_of_ble_eq_true rfl)) dX4_way_9 ⟨Nat.le_of_ble_eq_true rfl, Nat.le_of_ble_eq_true rfl⟩) hS (fun H locs hP hS => ?_)
  refine lv_iload hx hb dX4_way_12 (lv_at hl 4 rfl) ?_
  refine lv_iconst (v := 0) hx hb dX4_way_14 (by decide) ?_
  refine lv_iconst (v := 2) hx hb dX4_way_15 (by decide) ?_
  exact w_callxV (vx_runS (As := [.int (w), .int (0), .int (2)]) (rest := []) ⟨hx, hb, hml, hown, hts⟩ (x_X4_checkRange l hst nW D cA ad hi hNW I J X H.size w 0 2 hp) (va_cwS 3 hts gX4_way_X4_checkRange rfl rfl rfl (by decide +kernel) ⟨Nat.le_of_ble_eq_true rfl, Nat.le_of_ble_eq_true rfl⟩) (w_preSX hK hP hX hS) rfl rfl hl.1 rfl (lv_room (Nat.le_of_ble_eq_true rfl)) dX4_way_16 ⟨Nat.le_of_ble_eq_true rfl, Nat.le_of_ble_eq_true rfl⟩) hK hS htab hlocks (Nat.le_of_ble_eq_true rfl) (Nat.le_of_ble_eq_true rfl)
