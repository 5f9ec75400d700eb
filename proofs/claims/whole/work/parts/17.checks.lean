/-! the class's checks, and what they throw -/
theorem inF_0 {x a b : Int32} (h : inF x a b = 0) (h1 : ¬ x < a) (h2 : ¬ b < x) : False := by
  unfold inF at h
  rw [if_neg h1, if_neg h2] at h
  exact absurd h (by decide)
theorem i32_n3 {x : Int32} (h : x < 4) : ¬ 3 < x := fun g => by rw [Int32.lt_iff_toInt_lt] at h g; have a : (4 : Int32).toInt = 4 := rfl; have b : (3 : Int32).toInt = 3 := rfl; omega
theorem i32_n4 {x : Int32} (h : x < 5) : ¬ 4 < x := fun g => by rw [Int32.lt_iff_toInt_lt] at h g; have a : (5 : Int32).toInt = 5 := rfl; have b : (4 : Int32).toInt = 4 := rfl; omega
theorem i32_n8 {x : Int32} (h : x < 9) : ¬ 8 < x := fun g => by rw [Int32.lt_iff_toInt_lt] at h g; have a : (9 : Int32).toInt = 9 := rfl; have b : (8 : Int32).toInt = 8 := rfl; omega

set_option maxHeartbeats 4000000 in
set_option maxRecDepth 100000 in
/-- X4_checkReader -/
theorem c_X4_checkReader (l : Launch) (nW : Nat) (D : va_G) (cA : Nat → ClassId) (ad : Nat → Nat) (hi : inj nW ad) (hNW : 102 ≤ nW) (I : SI) (J : SJ) (X : SX) (sz : Nat) (r : Nat) (hr4 : r < 4) : Met l yX4_checkReader wsX4_checkReader ({ frames := 0, cells := 0, slots := 0, locals := 0 }) (va_Pc [.int (nI (r))] (wPre nW D cA ad I J X sz)) (qV nW D cA ad sz I J X) 0 0 (fr nW ad sz) := by
  refine Met.ofW (cc := cX4_checkReader) (maxL := 1) (ret := none) (by decide) rfl ?_
  intro p e s m args below meth c s₁ B hml hv
  obtain ⟨rfl, rfl, hP, hK⟩ := hv
  have hx := B.exec
  have hb := B.bytes
  have hr := B.returns
  have hts := atoms_spec (ws := wsX4_checkReader) B.pre
  have hown : s.vm.findClass RX4 = some m.cls := findClass_of_methodNamed B.named
  have hlocks := B.notSynchronized
  have hS : va_S (fr nW ad s.heap.size) s.heap s.heap [] := va_S.rf
  have hA : ∀ k, k < nW → fr nW ad s.heap.size (ad k) := fr_ad
  have hl := lv_entry ([.int (nI (r))]) (n := 1) (Nat.le_of_ble_eq_true rfl)
  rw [lg_entry_eq]
  generalize (lg_sl ([.int (nI (r))]) ++ List.replicate (1 - (lg_sl ([.int (nI (r))])).length) Slot.unset).toArray = ls at hl ⊢
  have hl : lv_has ls 1 [(0, .int (nI (r)))] := hl
  have hS0 := hS
  suffices K : ∀ (H : Heap) (locs : List Loc), WP nW D cA ad I J X H → va_S (fr nW ad s.heap.size) s.heap H locs → W p l e (headSpec wsX4_checkReader ({ frames := 0, cells := 0, slots := 0, locals := 0 })).room s m ([.int (nI (r))] : List Value).toArray below meth c H locs 0 0 (MQ below (qV nW D cA ad s.heap.size I J X) ([.int (nI (r))] : List Value).toArray s 0 0 (fr nW ad s.heap.size)) (F0 m 0 ls []) from K _ _ hP hS
  clear hP hS hS0
  intro H locs hP hS
  refine lv_iload_n hx hb dX4_checkReader_0 rfl (lv_at hl 0 rfl) ?_
  refine lv_if_lt (tgt := 9) hx hb dX4_checkReader_1 (by decide) (fun c1 => ?_) (fun c1 => ?_)
  · have qc1 : r < 0 := (wn_lt (a := r) (b := 0) rfl rfl (by omega) (by omega)).mp c1
    exact absurd qc1 (by omega)
  · have qc1 : ¬ r < 0 := fun z => c1 ((wn_lt (a := r) (b := 0) rfl rfl (by omega) (by omega)).mpr z)
    refine lv_iload_n hx hb dX4_checkReader_4 rfl (lv_at hl 0 rfl) ?_
    refine lv_iconst (v := 4) hx hb dX4_checkReader_5 (by decide) ?_
    refine lv_icmp_lt (tgt := 19) hx hb dX4_checkReader_6 (by decide) (fun c6 => ?_) (fun c6 => ?_)
    · have qc6 : r < 4 := (wn_lt (a := r) (b := 4) rfl rfl (by omega) (by omega)).mp c6
      exact w_vret hx hb hr hlocks hK hP hS ⟨by subst_vars; rfl, by subst_vars; rfl, by subst_vars; rfl⟩ dX4_checkReader_19
    · have qc6 : ¬ r < 4 := fun z => c6 ((wn_lt (a := r) (b := 4) rfl rfl (by omega) (by omega)).mpr z)
      exact absurd qc6 (by omega)

set_option maxHeartbeats 4000000 in
set_option maxRecDepth 100000 in
/-- X4_checkReader throws -/
theorem x_X4_checkReader (l : Launch) (hst : l.stackTraces = false) (nW : Nat) (D : va_G) (cA : Nat → ClassId) (ad : Nat → Nat) (hi : inj nW ad) (hNW : 102 ≤ nW) (I : SI) (J : SJ) (X : SX) (sz : Nat) (r : Int32) (hp : inF r 0 3 = 0) : vx_Met l yX4_checkReader wsX4_checkReader ({ frames := 6, cells := 1, slots := 6, locals := 82 }) (va_Pc [.int (r)] (wPreX nW D cA ad I J X sz)) (nV nW ad sz) (xT nW D cA ad sz eI I J X) 1 6 (fr nW ad sz) := by
  refine vx_ofW (cc := cX4_checkReader) (maxL := 1) (ret := none) (by decide) rfl ?_
  intro p e s m args below meth c s₁ B hml htab hv
  obtain ⟨rfl, ⟨rfl, hP, hK⟩, hX⟩ := hv
  have hx := B.exec
  have hb := B.bytes
  have hr := B.returns
  have hts := atoms_spec (ws := wsX4_checkReader) B.pre
  have hown : s.vm.findClass RX4 = some m.cls := findClass_of_methodNamed B.named
  have hlocks := B.notSynchronized
  have hS : va_S (fr nW ad s.heap.size) s.heap s.heap [] := va_S.rf
  have hA : ∀ k, k < nW → fr nW ad s.heap.size (ad k) := fr_ad
  have hl := lv_entry ([.int (r)]) (n := 1) (Nat.le_of_ble_eq_true rfl)
  rw [lg_entry_eq]
  generalize (lg_sl ([.int (r)]) ++ List.replicate (1 - (lg_sl ([.int (r)])).length) Slot.unset).toArray = ls at hl ⊢
  have hl : lv_has ls 1 [(0, .int (r))] := hl
  suffices K : ∀ (H : Heap) (locs : List Loc), WP nW D cA ad I J X H → va_S (fr nW ad s.heap.size) s.heap H locs → W p l e (headSpec wsX4_checkReader ({ frames := 6, cells := 1, slots := 6, locals := 82 })).room s m ([.int (r)] : List Value).toArray below meth c H locs 0 0 (vx_MQ below (nV nW ad s.heap.size) (xT nW D cA ad s.heap.size eI I J X) ([.int (r)] : List Value).toArray s 1 6 (fr nW ad s.heap.size)) (F0 m 0 ls []) from K _ _ hP hS
  clear hP hS
  intro H locs hP hS
  refine lv_iload_n hx hb dX4_checkReader_0 rfl (lv_at hl 0 rfl) ?_
  refine lv_if_lt (tgt := 9) hx hb dX4_checkReader_1 (by decide) (fun c1 => ?_) (fun c1 => ?_)
  · obtain ⟨sa, hsa⟩ := hX.2.2.2.2.1
    exact w_throw (cls := eI) (ik := 157) (is := 159) (ic := 161) (sa := sa) hx hb hst hts hown hml hl.1 (by decide +kernel) (List.mem_of_getElem? (i := 1) rfl) (List.mem_of_getElem? (i := 2) rfl) hsa (fun w hw => List.mem_cons_of_mem _ (List.mem_append_right _ hw)) hX.2.2.1.2.2.2.1 (by decide +kernel) (by decide +kernel) hK hP hX hS dX4_checkReader_9 dX4_checkReader_12 dX4_checkReader_13 dX4_checkReader_15 dX4_checkReader_18 htab (Nat.le_of_ble_eq_true rfl) (Nat.le_of_ble_eq_true rfl) (Nat.le_of_ble_eq_true rfl) (Nat.le_of_ble_eq_true rfl) hlocks (Nat.le_of_ble_eq_true rfl) (Nat.le_of_ble_eq_true rfl)
  · refine lv_iload_n hx hb dX4_checkReader_4 rfl (lv_at hl 0 rfl) ?_
    refine lv_iconst (v := 4) hx hb dX4_checkReader_5 (by decide) ?_
    refine lv_icmp_lt (tgt := 19) hx hb dX4_checkReader_6 (by decide) (fun c6 => ?_) (fun c6 => ?_)
    · exact (inF_0 hp c1 (i32_n3 c6)).elim
    · obtain ⟨sa, hsa⟩ := hX.2.2.2.2.1
      exact w_throw (cls := eI) (ik := 157) (is := 159) (ic := 161) (sa := sa) hx hb hst hts hown hml hl.1 (by decide +kernel) (List.mem_of_getElem? (i := 1) rfl) (List.mem_of_getElem? (i := 2) rfl) hsa (fun w hw => List.mem_cons_of_mem _ (List.mem_append_right _ hw)) hX.2.2.1.2.2.2.1 (by decide +kernel) (by decide +kernel) hK hP hX hS dX4_checkReader_9 dX4_checkReader_12 dX4_checkReader_13 dX4_checkReader_15 dX4_checkReader_18 htab (Nat.le_of_ble_eq_true rfl) (Nat.le_of_ble_eq_true rfl) (Nat.le_of_ble_eq_true rfl) (Nat.le_of_ble_eq_true rfl) hlocks (Nat.le_of_ble_eq_true rfl) (Nat.le_of_ble_eq_true rfl)

set_option maxHeartbeats 4000000 in
set_option maxRecDepth 100000 in
/-- X4_checkBook -/
theorem c_X4_checkBook (l : Launch) (nW : Nat) (D : va_G) (cA : Nat → ClassId) (ad : Nat → Nat) (hi : inj nW ad) (hNW : 102 ≤ nW) (I : SI) (J : SJ) (X : SX) (sz : Nat) (r : Nat) (hr4 : r < 5) : Met l yX4_checkBook wsX4_checkBook ({ frames := 0, cells := 0, slots := 0, locals := 0 }) (va_Pc [.int (nI (r))] (wPre nW D cA ad I J X sz)) (qV nW D cA ad sz I J X) 0 0 (fr nW ad sz) := by
  refine Met.ofW (cc := cX4_checkBook) (maxL := 1) (ret := none) (by decide) rfl ?_
  intro p e s m args below meth c s₁ B hml hv
  obtain ⟨rfl, rfl, hP, hK⟩ := hv
  have hx := B.exec
  have hb := B.bytes
  have hr := B.returns
  have hts := atoms_spec (ws := wsX4_checkBook) B.pre
  have hown : s.vm.findClass RX4 = some m.cls := findClass_of_methodNamed B.named
  have hlocks := B.notSynchronized
  have hS : va_S (fr nW ad s.heap.size) s.heap s.heap [] := va_S.rf
  have hA : ∀ k, k < nW → fr nW ad s.heap.size (ad k) := fr_ad
  have hl := lv_entry ([.int (nI (r))]) (n := 1) (Nat.le_of_ble_eq_true rfl)
  rw [lg_entry_eq]
  generalize (lg_sl ([.int (nI (r))]) ++ List.replicate (1 - (lg_sl ([.int (nI (r))])).length) Slot.unset).toArray = ls at hl ⊢
  have hl : lv_has ls 1 [(0, .int (nI (r)))] := hl
  have hS0 := hS
  suffices K : ∀ (H : Heap) (locs : List Loc), WP nW D cA ad I J X H → va_S (fr nW ad s.heap.size) s.heap H locs → W p l e (headSpec wsX4_checkBook ({ frames := 0, cells := 0, slots := 0, locals := 0 })).room s m ([.int (nI (r))] : List Value).toArray below meth c H locs 0 0 (MQ below (qV nW D cA ad s.heap.size I J X) ([.int (nI (r))] : List Value).toArray s 0 0 (fr nW ad s.heap.size)) (F0 m 0 ls []) from K _ _ hP hS
  clear hP hS hS0
  intro H locs hP hS
  refine lv_iload_n hx hb dX4_checkBook_0 rfl (lv_at hl 0 rfl) ?_
  refine lv_if_lt (tgt := 9) hx hb dX4_checkBook_1 (by decide) (fun c1 => ?_) (fun c1 => ?_)
  · have qc1 : r < 0 := (wn_lt (a := r) (b := 0) rfl rfl (by omega) (by omega)).mp c1
    exact absurd qc1 (by omega)
  · have qc1 : ¬ r < 0 := fun z => c1 ((wn_lt (a := r) (b := 0) rfl rfl (by omega) (by omega)).mpr z)
    refine lv_iload_n hx hb dX4_checkBook_4 rfl (lv_at hl 0 rfl) ?_
    refine lv_iconst (v := 5) hx hb dX4_checkBook_5 (by decide) ?_
    refine lv_icmp_lt (tgt := 19) hx hb dX4_checkBook_6 (by decide) (fun c6 => ?_) (fun c6 => ?_)
    · have qc6 : r < 5 := (wn_lt (a := r) (b := 5) rfl rfl (by omega) (by omega)).mp c6
      exact w_vret hx hb hr hlocks hK hP hS ⟨by subst_vars; rfl, by subst_vars; rfl, by subst_vars; rfl⟩ dX4_checkBook_19
    · have qc6 : ¬ r < 5 := fun z => c6 ((wn_lt (a := r) (b := 5) rfl rfl (by omega) (by omega)).mpr z)
      exact absurd qc6 (by omega)

set_option maxHeartbeats 4000000 in
set_option maxRecDepth 100000 in
/-- X4_checkBook throws -/
theorem x_X4_checkBook (l : Launch) (hst : l.stackTraces = false) (nW : Nat) (D : va_G) (cA : Nat → ClassId) (ad : Nat → Nat) (hi : inj nW ad) (hNW : 102 ≤ nW) (I : SI) (J : SJ) (X : SX) (sz : Nat) (r : Int32) (hp : inF r 0 4 = 0) : vx_Met l yX4_checkBook wsX4_checkBook ({ frames := 6, cells := 1, slots := 6, locals := 82 }) (va_Pc [.int (r)] (wPreX nW D cA ad I J X sz)) (nV nW ad sz) (xT nW D cA ad sz eI I J X) 1 6 (fr nW ad sz) := by
  refine vx_ofW (cc := cX4_checkBook) (maxL := 1) (ret := none) (by decide) rfl ?_
  intro p e s m args below meth c s₁ B hml htab hv
  obtain ⟨rfl, ⟨rfl, hP, hK⟩, hX⟩ := hv
  have hx := B.exec
  have hb := B.bytes
  have hr := B.returns
  have hts := atoms_spec (ws := wsX4_checkBook) B.pre
  have hown : s.vm.findClass RX4 = some m.cls := findClass_of_methodNamed B.named
  have hlocks := B.notSynchronized
  have hS : va_S (fr nW ad s.heap.size) s.heap s.heap [] := va_S.rf
  have hA : ∀ k, k < nW → fr nW ad s.heap.size (ad k) := fr_ad
  have hl := lv_entry ([.int (r)]) (n := 1) (Nat.le_of_ble_eq_true rfl)
  rw [lg_entry_eq]
  generalize (lg_sl ([.int (r)]) ++ List.replicate (1 - (lg_sl ([.int (r)])).length) Slot.unset).toArray = ls at hl ⊢
  have hl : lv_has ls 1 [(0, .int (r))] := hl
  suffices K : ∀ (H : Heap) (locs : List Loc), WP nW D cA ad I J X H → va_S (fr nW ad s.heap.size) s.heap H locs → W p l e (headSpec wsX4_checkBook ({ frames := 6, cells := 1, slots := 6, locals := 82 })).room s m ([.int (r)] : List Value).toArray below meth c H locs 0 0 (vx_MQ below (nV nW ad s.heap.size) (xT nW D cA ad s.heap.size eI I J X) ([.int (r)] : List Value).toArray s 1 6 (fr nW ad s.heap.size)) (F0 m 0 ls []) from K _ _ hP hS
  clear hP hS
  intro H locs hP hS
  refine lv_iload_n hx hb dX4_checkBook_0 rfl (lv_at hl 0 rfl) ?_
  refine lv_if_lt (tgt := 9) hx hb dX4_checkBook_1 (by decide) (fun c1 => ?_) (fun c1 => ?_)
  · obtain ⟨sa, hsa⟩ := hX.2.2.2.2.2.1
    exact w_throw (cls := eI) (ik := 157) (is := 162) (ic := 161) (sa := sa) hx hb hst hts hown hml hl.1 (by decide +kernel) (List.mem_of_getElem? (i := 1) rfl) (List.mem_of_getElem? (i := 2) rfl) hsa (fun w hw => List.mem_cons_of_mem _ (List.mem_append_right _ hw)) hX.2.2.1.2.2.2.1 (by decide +kernel) (by decide +kernel) hK hP hX hS dX4_checkBook_9 dX4_checkBook_12 dX4_checkBook_13 dX4_checkBook_15 dX4_checkBook_18 htab (Nat.le_of_ble_eq_true rfl) (Nat.le_of_ble_eq_true rfl) (Nat.le_of_ble_eq_true rfl) (Nat.le_of_ble_eq_true rfl) hlocks (Nat.le_of_ble_eq_true rfl) (Nat.le_of_ble_eq_true rfl)
  · refine lv_iload_n hx hb dX4_checkBook_4 rfl (lv_at hl 0 rfl) ?_
    refine lv_iconst (v := 5) hx hb dX4_checkBook_5 (by decide) ?_
    refine lv_icmp_lt (tgt := 19) hx hb dX4_checkBook_6 (by decide) (fun c6 => ?_) (fun c6 => ?_)
    · exact (inF_0 hp c1 (i32_n4 c6)).elim
    · obtain ⟨sa, hsa⟩ := hX.2.2.2.2.2.1
      exact w_throw (cls := eI) (ik := 157) (is := 162) (ic := 161) (sa := sa) hx hb hst hts hown hml hl.1 (by decide +kernel) (List.mem_of_getElem? (i := 1) rfl) (List.mem_of_getElem? (i := 2) rfl) hsa (fun w hw => List.mem_cons_of_mem _ (List.mem_append_right _ hw)) hX.2.2.1.2.2.2.1 (by decide +kernel) (by decide +kernel) hK hP hX hS dX4_checkBook_9 dX4_checkBook_12 dX4_checkBook_13 dX4_checkBook_15 dX4_checkBook_18 htab (Nat.le_of_ble_eq_true rfl) (Nat.le_of_ble_eq_true rfl) (Nat.le_of_ble_eq_true rfl) (Nat.le_of_ble_eq_true rfl) hlocks (Nat.le_of_ble_eq_true rfl) (Nat.le_of_ble_eq_true rfl)

set_option maxHeartbeats 4000000 in
set_option maxRecDepth 100000 in
/-- X4_checkNode -/
theorem c_X4_checkNode (l : Launch) (nW : Nat) (D : va_G) (cA : Nat → ClassId) (ad : Nat → Nat) (hi : inj nW ad) (hNW : 102 ≤ nW) (I : SI) (J : SJ) (X : SX) (sz : Nat) (r : Nat) (hr4 : r < 9) : Met l yX4_checkNode wsX4_checkNode ({ frames := 0, cells := 0, slots := 0, locals := 0 }) (va_Pc [.int (nI (r))] (wPre nW D cA ad I J X sz)) (qV nW D cA ad sz I J X) 0 0 (fr nW ad sz) := by
  refine Met.ofW (cc := cX4_checkNode) (maxL := 1) (ret := none) (by decide) rfl ?_
  intro p e s m args below meth c s₁ B hml hv
  obtain ⟨rfl, rfl, hP, hK⟩ := hv
  have hx := B.exec
  have hb := B.bytes
  have hr := B.returns
  have hts := atoms_spec (ws := wsX4_checkNode) B.pre
  have hown : s.vm.findClass RX4 = some m.cls := findClass_of_methodNamed B.named
  have hlocks := B.notSynchronized
  have hS : va_S (fr nW ad s.heap.size) s.heap s.heap [] := va_S.rf
  have hA : ∀ k, k < nW → fr nW ad s.heap.size (ad k) := fr_ad
  have hl := lv_entry ([.int (nI (r))]) (n := 1) (Nat.le_of_ble_eq_true rfl)
  rw [lg_entry_eq]
  generalize (lg_sl ([.int (nI (r))]) ++ List.replicate (1 - (lg_sl ([.int (nI (r))])).length) Slot.unset).toArray = ls at hl ⊢
  have hl : lv_has ls 1 [(0, .int (nI (r)))] := hl
  have hS0 := hS
  suffices K : ∀ (H : Heap) (locs : List Loc), WP nW D cA ad I J X H → va_S (fr nW ad s.heap.size) s.heap H locs → W p l e (headSpec wsX4_checkNode ({ frames := 0, cells := 0, slots := 0, locals := 0 })).room s m ([.int (nI (r))] : List Value).toArray below meth c H locs 0 0 (MQ below (qV nW D cA ad s.heap.size I J X) ([.int (nI (r))] : List Value).toArray s 0 0 (fr nW ad s.heap.size)) (F0 m 0 ls []) from K _ _ hP hS
  clear hP hS hS0
  intro H locs hP hS
  refine lv_iload_n hx hb dX4_checkNode_0 rfl (lv_at hl 0 rfl) ?_
  refine lv_if_lt (tgt := 10) hx hb dX4_checkNode_1 (by decide) (fun c1 => ?_) (fun c1 => ?_)
  · have qc1 : r < 0 := (wn_lt (a := r) (b := 0) rfl rfl (by omega) (by omega)).mp c1
    exact absurd qc1 (by omega)
  · have qc1 : ¬ r < 0 := fun z => c1 ((wn_lt (a := r) (b := 0) rfl rfl (by omega) (by omega)).mpr z)
    refine lv_iload_n hx hb dX4_checkNode_4 rfl (lv_at hl 0 rfl) ?_
    refine lv_bipush (v := 9) hx hb dX4_checkNode_5 (by decide) ?_
    refine lv_icmp_lt (tgt := 20) hx hb dX4_checkNode_7 (by decide) (fun c6 => ?_) (fun c6 => ?_)
    · have qc6 : r < 9 := (wn_lt (a := r) (b := 9) rfl rfl (by omega) (by omega)).mp c6
      exact w_vret hx hb hr hlocks hK hP hS ⟨by subst_vars; rfl, by subst_vars; rfl, by subst_vars; rfl⟩ dX4_checkNode_20
    · have qc6 : ¬ r < 9 := fun z => c6 ((wn_lt (a := r) (b := 9) rfl rfl (by omega) (by omega)).mpr z)
      exact absurd qc6 (by omega)

set_option maxHeartbeats 4000000 in
set_option maxRecDepth 100000 in
/-- X4_checkNode throws -/
theorem x_X4_checkNode (l : Launch) (hst : l.stackTraces = false) (nW : Nat) (D : va_G) (cA : Nat → ClassId) (ad : Nat → Nat) (hi : inj nW ad) (hNW : 102 ≤ nW) (I : SI) (J : SJ) (X : SX) (sz : Nat) (r : Int32) (hp : inF r 0 8 = 0) : vx_Met l yX4_checkNode wsX4_checkNode ({ frames := 6, cells := 1, slots := 6, locals := 82 }) (va_Pc [.int (r)] (wPreX nW D cA ad I J X sz)) (nV nW ad sz) (xT nW D cA ad sz eI I J X) 1 6 (fr nW ad sz) := by
  refine vx_ofW (cc := cX4_checkNode) (maxL := 1) (ret := none) (by decide) rfl ?_
  intro p e s m args below meth c s₁ B hml htab hv
  obtain ⟨rfl, ⟨rfl, hP, hK⟩, hX⟩ := hv
  have hx := B.exec
  have hb := B.bytes
  have hr := B.returns
  have hts := atoms_spec (ws := wsX4_checkNode) B.pre
  have hown : s.vm.findClass RX4 = some m.cls := findClass_of_methodNamed B.named
  have hlocks := B.notSynchronized
  have hS : va_S (fr nW ad s.heap.size) s.heap s.heap [] := va_S.rf
  have hA : ∀ k, k < nW → fr nW ad s.heap.size (ad k) := fr_ad
  have hl := lv_entry ([.int (r)]) (n := 1) (Nat.le_of_ble_eq_true rfl)
  rw [lg_entry_eq]
  generalize (lg_sl ([.int (r)]) ++ List.replicate (1 - (lg_sl ([.int (r)])).length) Slot.unset).toArray = ls at hl ⊢
  have hl : lv_has ls 1 [(0, .int (r))] := hl
  suffices K : ∀ (H : Heap) (locs : List Loc), WP nW D cA ad I J X H → va_S (fr nW ad s.heap.size) s.heap H locs → W p l e (headSpec wsX4_checkNode ({ frames := 6, cells := 1, slots := 6, locals := 82 })).room s m ([.int (r)] : List Value).toArray below meth c H locs 0 0 (vx_MQ below (nV nW ad s.heap.size) (xT nW D cA ad s.heap.size eI I J X) ([.int (r)] : List Value).toArray s 1 6 (fr nW ad s.heap.size)) (F0 m 0 ls []) from K _ _ hP hS
  clear hP hS
  intro H locs hP hS
  refine lv_iload_n hx hb dX4_checkNode_0 rfl (lv_at hl 0 rfl) ?_
  refine lv_if_lt (tgt := 10) hx hb dX4_checkNode_1 (by decide) (fun c1 => ?_) (fun c1 => ?_)
  · obtain ⟨sa, hsa⟩ := hX.2.2.2.2.2.2.1
    exact w_throw (cls := eI) (ik := 157) (is := 164) (ic := 161) (sa := sa) hx hb hst hts hown hml hl.1 (by decide +kernel) (List.mem_of_getElem? (i := 1) rfl) (List.mem_of_getElem? (i := 2) rfl) hsa (fun w hw => List.mem_cons_of_mem _ (List.mem_append_right _ hw)) hX.2.2.1.2.2.2.1 (by decide +kernel) (by decide +kernel) hK hP hX hS dX4_checkNode_10 dX4_checkNode_13 dX4_checkNode_14 dX4_checkNode_16 dX4_checkNode_19 htab (Nat.le_of_ble_eq_true rfl) (Nat.le_of_ble_eq_true rfl) (Nat.le_of_ble_eq_true rfl) (Nat.le_of_ble_eq_true rfl) hlocks (Nat.le_of_ble_eq_true rfl) (Nat.le_of_ble_eq_true rfl)
  · refine lv_iload_n hx hb dX4_checkNode_4 rfl (lv_at hl 0 rfl) ?_
    refine lv_bipush (v := 9) hx hb dX4_checkNode_5 (by decide) ?_
    refine lv_icmp_lt (tgt := 20) hx hb dX4_checkNode_7 (by decide) (fun c6 => ?_) (fun c6 => ?_)
    · exact (inF_0 hp c1 (i32_n8 c6)).elim
    · obtain ⟨sa, hsa⟩ := hX.2.2.2.2.2.2.1
      exact w_throw (cls := eI) (ik := 157) (is := 164) (ic := 161) (sa := sa) hx hb hst hts hown hml hl.1 (by decide +kernel) (List.mem_of_getElem? (i := 1) rfl) (List.mem_of_getElem? (i := 2) rfl) hsa (fun w hw => List.mem_cons_of_mem _ (List.mem_append_right _ hw)) hX.2.2.1.2.2.2.1 (by decide +kernel) (by decide +kernel) hK hP hX hS dX4_checkNode_10 dX4_checkNode_13 dX4_checkNode_14 dX4_checkNode_16 dX4_checkNode_19 htab (Nat.le_of_ble_eq_true rfl) (Nat.le_of_ble_eq_true rfl) (Nat.le_of_ble_eq_true rfl) (Nat.le_of_ble_eq_true rfl) hlocks (Nat.le_of_ble_eq_true rfl) (Nat.le_of_ble_eq_true rfl)

set_option maxHeartbeats 4000000 in
set_option maxRecDepth 100000 in
/-- X4_checkPlace -/
theorem c_X4_checkPlace (l : Launch) (nW : Nat) (D : va_G) (cA : Nat → ClassId) (ad : Nat → Nat) (hi : inj nW ad) (hNW : 102 ≤ nW) (I : SI) (J : SJ) (X : SX) (sz : Nat) (x : Int32) (hp : ¬ x < 0) : Met l yX4_checkPlace wsX4_checkPlace ({ frames := 0, cells := 0, slots := 0, locals := 0 }) (va_Pc [.int (x)] (wPre nW D cA ad I J X sz)) (qV nW D cA ad sz I J X) 0 0 (fr nW ad sz) := by
  refine Met.ofW (cc := cX4_checkPlace) (maxL := 1) (ret := none) (by decide) rfl ?_
  intro p e s m args below meth c s₁ B hml hv
  obtain ⟨rfl, rfl, hP, hK⟩ := hv
  have hx := B.exec
  have hb := B.bytes
  have hr := B.returns
  have hts := atoms_spec (ws := wsX4_checkPlace) B.pre
  have hown : s.vm.findClass RX4 = some m.cls := findClass_of_methodNamed B.named
  have hlocks := B.notSynchronized
  have hS : va_S (fr nW ad s.heap.size) s.heap s.heap [] := va_S.rf
  have hA : ∀ k, k < nW → fr nW ad s.heap.size (ad k) := fr_ad
  have hl := lv_entry ([.int (x)]) (n := 1) (Nat.le_of_ble_eq_true rfl)
  rw [lg_entry_eq]
  generalize (lg_sl ([.int (x)]) ++ List.replicate (1 - (lg_sl ([.int (x)])).length) Slot.unset).toArray = ls at hl ⊢
  have hl : lv_has ls 1 [(0, .int (x))] := hl
  have hS0 := hS
  suffices K : ∀ (H : Heap) (locs : List Loc), WP nW D cA ad I J X H → va_S (fr nW ad s.heap.size) s.heap H locs → W p l e (headSpec wsX4_checkPlace ({ frames := 0, cells := 0, slots := 0, locals := 0 })).room s m ([.int (x)] : List Value).toArray below meth c H locs 0 0 (MQ below (qV nW D cA ad s.heap.size I J X) ([.int (x)] : List Value).toArray s 0 0 (fr nW ad s.heap.size)) (F0 m 0 ls []) from K _ _ hP hS
  clear hP hS hS0
  intro H locs hP hS
  refine lv_iload_n hx hb dX4_checkPlace_0 rfl (lv_at hl 0 rfl) ?_
  refine lv_if_ge (tgt := 14) hx hb dX4_checkPlace_1 (by decide) (fun c1 => ?_) (fun c1 => ?_)
  · exact w_vret hx hb hr hlocks hK hP hS ⟨by subst_vars; rfl, by subst_vars; rfl, by subst_vars; rfl⟩ dX4_checkPlace_14
  · exact absurd (i32_lt c1) hp

set_option maxHeartbeats 4000000 in
set_option maxRecDepth 100000 in
/-- X4_checkPlace throws -/
theorem x_X4_checkPlace (l : Launch) (hst : l.stackTraces = false) (nW : Nat) (D : va_G) (cA : Nat → ClassId) (ad : Nat → Nat) (hi : inj nW ad) (hNW : 102 ≤ nW) (I : SI) (J : SJ) (X : SX) (sz : Nat) (x : Int32) (hp : x < 0) : vx_Met l yX4_checkPlace wsX4_checkPlace ({ frames := 6, cells := 1, slots := 6, locals := 82 }) (va_Pc [.int (x)] (wPreX nW D cA ad I J X sz)) (nV nW ad sz) (xT nW D cA ad sz eI I J X) 1 6 (fr nW ad sz) := by
  refine vx_ofW (cc := cX4_checkPlace) (maxL := 1) (ret := none) (by decide) rfl ?_
  intro p e s m args below meth c s₁ B hml htab hv
  obtain ⟨rfl, ⟨rfl, hP, hK⟩, hX⟩ := hv
  have hx := B.exec
  have hb := B.bytes
  have hr := B.returns
  have hts := atoms_spec (ws := wsX4_checkPlace) B.pre
  have hown : s.vm.findClass RX4 = some m.cls := findClass_of_methodNamed B.named
  have hlocks := B.notSynchronized
  have hS : va_S (fr nW ad s.heap.size) s.heap s.heap [] := va_S.rf
  have hA : ∀ k, k < nW → fr nW ad s.heap.size (ad k) := fr_ad
  have hl := lv_entry ([.int (x)]) (n := 1) (Nat.le_of_ble_eq_true rfl)
  rw [lg_entry_eq]
  generalize (lg_sl ([.int (x)]) ++ List.replicate (1 - (lg_sl ([.int (x)])).length) Slot.unset).toArray = ls at hl ⊢
  have hl : lv_has ls 1 [(0, .int (x))] := hl
  suffices K : ∀ (H : Heap) (locs : List Loc), WP nW D cA ad I J X H → va_S (fr nW ad s.heap.size) s.heap H locs → W p l e (headSpec wsX4_checkPlace ({ frames := 6, cells := 1, slots := 6, locals := 82 })).room s m ([.int (x)] : List Value).toArray below meth c H locs 0 0 (vx_MQ below (nV nW ad s.heap.size) (xT nW D cA ad s.heap.size eI I J X) ([.int (x)] : List Value).toArray s 1 6 (fr nW ad s.heap.size)) (F0 m 0 ls []) from K _ _ hP hS
  clear hP hS
  intro H locs hP hS
  refine lv_iload_n hx hb dX4_checkPlace_0 rfl (lv_at hl 0 rfl) ?_
  refine lv_if_ge (tgt := 14) hx hb dX4_checkPlace_1 (by decide) (fun c1 => ?_) (fun c1 => ?_)
  · exact absurd hp (i32_nlt c1)
  · obtain ⟨sa, hsa⟩ := hX.2.2.2.2.2.2.2.1
    exact w_throw (cls := eI) (ik := 157) (is := 166) (ic := 161) (sa := sa) hx hb hst hts hown hml hl.1 (by decide +kernel) (List.mem_of_getElem? (i := 1) rfl) (List.mem_of_getElem? (i := 2) rfl) hsa (fun w hw => List.mem_cons_of_mem _ (List.mem_append_right _ hw)) hX.2.2.1.2.2.2.1 (by decide +kernel) (by decide +kernel) hK hP hX hS dX4_checkPlace_4 dX4_checkPlace_7 dX4_checkPlace_8 dX4_checkPlace_10 dX4_checkPlace_13 htab (Nat.le_of_ble_eq_true rfl) (Nat.le_of_ble_eq_true rfl) (Nat.le_of_ble_eq_true rfl) (Nat.le_of_ble_eq_true rfl) hlocks (Nat.le_of_ble_eq_true rfl) (Nat.le_of_ble_eq_true rfl)

set_option maxHeartbeats 4000000 in
set_option maxRecDepth 100000 in
/-- X4_checkRange -/
theorem c_X4_checkRange (l : Launch) (nW : Nat) (D : va_G) (cA : Nat → ClassId) (ad : Nat → Nat) (hi : inj nW ad) (hNW : 102 ≤ nW) (I : SI) (J : SJ) (X : SX) (sz : Nat) (x a b : Int32) (hp : inF x a b = 1) : Met l yX4_checkRange wsX4_checkRange ({ frames := 0, cells := 0, slots := 0, locals := 0 }) (va_Pc [.int (x), .int (a), .int (b)] (wPre nW D cA ad I J X sz)) (qV nW D cA ad sz I J X) 0 0 (fr nW ad sz) := by
  refine Met.ofW (cc := cX4_checkRange) (maxL := 3) (ret := none) (by decide) rfl ?_
  intro p e s m args below meth c s₁ B hml hv
  obtain ⟨rfl, rfl, hP, hK⟩ := hv
  have hx := B.exec
  have hb := B.bytes
  have hr := B.returns
  have hts := atoms_spec (ws := wsX4_checkRange) B.pre
  have hown : s.vm.findClass RX4 = some m.cls := findClass_of_methodNamed B.named
  have hlocks := B.notSynchronized
  have hS : va_S (fr nW ad s.heap.size) s.heap s.heap [] := va_S.rf
  have hA : ∀ k, k < nW → fr nW ad s.heap.size (ad k) := fr_ad
  have hl := lv_entry ([.int (x), .int (a), .int (b)]) (n := 3) (Nat.le_of_ble_eq_true rfl)
  rw [lg_entry_eq]
  generalize (lg_sl ([.int (x), .int (a), .int (b)]) ++ List.replicate (3 - (lg_sl ([.int (x), .int (a), .int (b)])).length) Slot.unset).toArray = ls at hl ⊢
  have hl : lv_has ls 3 [(0, .int (x)), (1, .int (a)), (2, .int (b))] := hl
  have hS0 := hS
  suffices K : ∀ (H : Heap) (locs : List Loc), WP nW D cA ad I J X H → va_S (fr nW ad s.heap.size) s.heap H locs → W p l e (headSpec wsX4_checkRange ({ frames := 0, cells := 0, slots := 0, locals := 0 })).room s m ([.int (x), .int (a), .int (b)] : List Value).toArray below meth c H locs 0 0 (MQ below (qV nW D cA ad s.heap.size I J X) ([.int (x), .int (a), .int (b)] : List Value).toArray s 0 0 (fr nW ad s.heap.size)) (F0 m 0 ls []) from K _ _ hP hS
  clear hP hS hS0
  intro H locs hP hS
  refine lv_iload_n hx hb dX4_checkRange_0 rfl (lv_at hl 0 rfl) ?_
  refine lv_iload_n hx hb dX4_checkRange_1 rfl (lv_at hl 1 rfl) ?_
  refine lv_icmp_lt (tgt := 10) hx hb dX4_checkRange_2 (by decide) (fun c2 => ?_) (fun c2 => ?_)
  · exact absurd hp (by unfold inF; rw [if_pos c2]; decide)
  · refine lv_iload_n hx hb dX4_checkRange_5 rfl (lv_at hl 0 rfl) ?_
    refine lv_iload_n hx hb dX4_checkRange_6 rfl (lv_at hl 2 rfl) ?_
    refine lv_icmp_le (tgt := 20) hx hb dX4_checkRange_7 (by decide) (fun c7 => ?_) (fun c7 => ?_)
    · exact w_vret hx hb hr hlocks hK hP hS ⟨by subst_vars; rfl, by subst_vars; rfl, by subst_vars; rfl⟩ dX4_checkRange_20
    · exact absurd hp (by unfold inF; rw [if_neg c2, if_pos (i32_lt c7)]; decide)

set_option maxHeartbeats 4000000 in
set_option maxRecDepth 100000 in
/-- X4_checkRange throws -/
theorem x_X4_checkRange (l : Launch) (hst : l.stackTraces = false) (nW : Nat) (D : va_G) (cA : Nat → ClassId) (ad : Nat → Nat) (hi : inj nW ad) (hNW : 102 ≤ nW) (I : SI) (J : SJ) (X : SX) (sz : Nat) (x a b : Int32) (hp : inF x a b = 0) : vx_Met l yX4_checkRange wsX4_checkRange ({ frames := 6, cells := 1, slots := 6, locals := 82 }) (va_Pc [.int (x), .int (a), .int (b)] (wPreX nW D cA ad I J X sz)) (nV nW ad sz) (xT nW D cA ad sz eA I J X) 1 6 (fr nW ad sz) := by
  refine vx_ofW (cc := cX4_checkRange) (maxL := 3) (ret := none) (by decide) rfl ?_
  intro p e s m args below meth c s₁ B hml htab hv
  obtain ⟨rfl, ⟨rfl, hP, hK⟩, hX⟩ := hv
  have hx := B.exec
  have hb := B.bytes
  have hr := B.returns
  have hts := atoms_spec (ws := wsX4_checkRange) B.pre
  have hown : s.vm.findClass RX4 = some m.cls := findClass_of_methodNamed B.named
  have hlocks := B.notSynchronized
  have hS : va_S (fr nW ad s.heap.size) s.heap s.heap [] := va_S.rf
  have hA : ∀ k, k < nW → fr nW ad s.heap.size (ad k) := fr_ad
  have hl := lv_entry ([.int (x), .int (a), .int (b)]) (n := 3) (Nat.le_of_ble_eq_true rfl)
  rw [lg_entry_eq]
  generalize (lg_sl ([.int (x), .int (a), .int (b)]) ++ List.replicate (3 - (lg_sl ([.int (x), .int (a), .int (b)])).length) Slot.unset).toArray = ls at hl ⊢
  have hl : lv_has ls 3 [(0, .int (x)), (1, .int (a)), (2, .int (b))] := hl
  suffices K : ∀ (H : Heap) (locs : List Loc), WP nW D cA ad I J X H → va_S (fr nW ad s.heap.size) s.heap H locs → W p l e (headSpec wsX4_checkRange ({ frames := 6, cells := 1, slots := 6, locals := 82 })).room s m ([.int (x), .int (a), .int (b)] : List Value).toArray below meth c H locs 0 0 (vx_MQ below (nV nW ad s.heap.size) (xT nW D cA ad s.heap.size eA I J X) ([.int (x), .int (a), .int (b)] : List Value).toArray s 1 6 (fr nW ad s.heap.size)) (F0 m 0 ls []) from K _ _ hP hS
  clear hP hS
  intro H locs hP hS
  refine lv_iload_n hx hb dX4_checkRange_0 rfl (lv_at hl 0 rfl) ?_
  refine lv_iload_n hx hb dX4_checkRange_1 rfl (lv_at hl 1 rfl) ?_
  refine lv_icmp_lt (tgt := 10) hx hb dX4_checkRange_2 (by decide) (fun c2 => ?_) (fun c2 => ?_)
  · obtain ⟨sa, hsa⟩ := hX.2.2.2.2.2.2.2.2
    exact w_throw (cls := eA) (ik := 168) (is := 170) (ic := 172) (sa := sa) hx hb hst hts hown hml hl.1 (by decide +kernel) (List.mem_of_getElem? (i := 1) rfl) (List.mem_of_getElem? (i := 2) rfl) hsa (fun w hw => List.mem_cons_of_mem _ (List.mem_append_right _ hw)) hX.2.2.1.2.2.2.2.1 (by decide +kernel) (by decide +kernel) hK hP hX hS dX4_checkRange_10 dX4_checkRange_13 dX4_checkRange_14 dX4_checkRange_16 dX4_checkRange_19 htab (Nat.le_of_ble_eq_true rfl) (Nat.le_of_ble_eq_true rfl) (Nat.le_of_ble_eq_true rfl) (Nat.le_of_ble_eq_true rfl) hlocks (Nat.le_of_ble_eq_true rfl) (Nat.le_of_ble_eq_true rfl)
  · refine lv_iload_n hx hb dX4_checkRange_5 rfl (lv_at hl 0 rfl) ?_
    refine lv_iload_n hx hb dX4_checkRange_6 rfl (lv_at hl 2 rfl) ?_
    refine lv_icmp_le (tgt := 20) hx hb dX4_checkRange_7 (by decide) (fun c7 => ?_) (fun c7 => ?_)
    · exact (inF_0 hp c2 (i32_nlt c7)).elim
    · obtain ⟨sa, hsa⟩ := hX.2.2.2.2.2.2.2.2
      exact w_throw (cls := eA) (ik := 168) (is := 170) (ic := 172) (sa := sa) hx hb hst hts hown hml hl.1 (by decide +kernel) (List.mem_of_getElem? (i := 1) rfl) (List.mem_of_getElem? (i := 2) rfl) hsa (fun w hw => List.mem_cons_of_mem _ (List.mem_append_right _ hw)) hX.2.2.1.2.2.2.2.1 (by decide +kernel) (by decide +kernel) hK hP hX hS dX4_checkRange_10 dX4_checkRange_13 dX4_checkRange_14 dX4_checkRange_16 dX4_checkRange_19 htab (Nat.le_of_ble_eq_true rfl) (Nat.le_of_ble_eq_true rfl) (Nat.le_of_ble_eq_true rfl) (Nat.le_of_ble_eq_true rfl) hlocks (Nat.le_of_ble_eq_true rfl) (Nat.le_of_ble_eq_true rfl)
