theorem inX1_loanWeight_X1 : ∀ w ∈ wsX10, w ∈ wsX1_loanWeight := by decide +kernel
set_option maxHeartbeats 4000000 in
set_option maxRecDepth 100000 in
/-- X1_loanWeight -/
theorem c_X1_loanWeight (l : Launch) (nW : Nat) (D : va_G) (cA : Nat → ClassId) (ad : Nat → Nat) (hi : inj nW ad) (hNW : 102 ≤ nW) (I : SI) (J : SJ) (X : SX) (sz : Nat) (r b : Nat) (hr : r < 4) (hb : b < 5) : Met l yX1_loanWeight wsX1_loanWeight ({ frames := 0, cells := 0, slots := 0, locals := 0 }) (va_Pc [.ref (ad 1), .int (nI (r)), .int (nI (b))] (wPre nW D cA ad I J X sz)) (qI nW D cA ad sz (I (3 + r) b) I J X) 0 0 (fr nW ad sz) := by
  refine Met.ofW (cc := cX1_loanWeight) (maxL := 3) (ret := (some .int)) (by decide) rfl ?_
  intro p e s m args below meth c s₁ B hml hv
  obtain ⟨rfl, rfl, hP, hK⟩ := hv
  have hx := B.exec
  have hb := B.bytes
  have hr := B.returns
  have hts := atoms_spec (ws := wsX1_loanWeight) B.pre
  have hown : s.vm.findClass RX1 = some m.cls := findClass_of_methodNamed B.named
  have hlocks := B.notSynchronized
  have hS : va_S (fr nW ad s.heap.size) s.heap s.heap [] := va_S.rf
  have hA : ∀ k, k < nW → fr nW ad s.heap.size (ad k) := fr_ad
  have hl := lv_entry ([.ref (ad 1), .int (nI (r)), .int (nI (b))]) (n := 3) (Nat.le_of_ble_eq_true rfl)
  rw [lg_entry_eq]
  generalize (lg_sl ([.ref (ad 1), .int (nI (r)), .int (nI (b))]) ++ List.replicate (3 - (lg_sl ([.ref (ad 1), .int (nI (r)), .int (nI (b))])).length) Slot.unset).toArray = ls at hl ⊢
  have hl : lv_has ls 3 [(0, .ref (ad 1)), (1, .int (nI (r))), (2, .int (nI (b)))] := hl
  have hS0 := hS
  suffices K : ∀ (H : Heap) (locs : List Loc), WP nW D cA ad I J X H → va_S (fr nW ad s.heap.size) s.heap H locs → W p l e (headSpec wsX1_loanWeight ({ frames := 0, cells := 0, slots := 0, locals := 0 })).room s m ([.ref (ad 1), .int (nI (r)), .int (nI (b))] : List Value).toArray below meth c H locs 0 0 (MQ below (qI nW D cA ad s.heap.size (I (3 + r) b) I J X) ([.ref (ad 1), .int (nI (r)), .int (nI (b))] : List Value).toArray s 0 0 (fr nW ad s.heap.size)) (F0 m 0 ls []) from K _ _ hP hS
  clear hP hS hS0
  intro H locs hP hS
  refine lv_aload_n hx hb dX1_loanWeight_0 rfl (lv_at hl 0 rfl) ?_
  refine w_get (C := RX1) (T := TX1) (N := 6) (v := .ref (ad 2)) (index := 11) hx hb hts inX1_loanWeight_X1 hown hK hP 1 0 ⟨rfl, rfl, by decide⟩ (by omega) rfl (List.mem_of_getElem? (i := 1) rfl) (fun _ h9 => h9) dX1_loanWeight_1 ?_
  refine lv_iload_n hx hb dX1_loanWeight_4 rfl (lv_at hl 1 rfl) ?_
  refine w_aald hx hb hK hP 2 (r) 3 4 ⟨rfl, (by show r < 4; omega), rfl, rfl, by decide, by decide⟩ (by omega) rfl dX1_loanWeight_5 ?_
  refine lv_iload_n hx hb dX1_loanWeight_6 rfl (lv_at hl 2 rfl) ?_
  refine w_iald hx hb hK hP (3 + r) (b) (k_loanR (by omega) (by omega)) (by omega) rfl dX1_loanWeight_7 ?_
  exact w_iret hx hb hr hlocks hK hP hS ⟨by subst_vars; rfl, by subst_vars; rfl, by subst_vars; rfl, by subst_vars; rfl⟩ dX1_loanWeight_8

theorem inX1_barOf_X1 : ∀ w ∈ wsX10, w ∈ wsX1_barOf := by decide +kernel
set_option maxHeartbeats 4000000 in
set_option maxRecDepth 100000 in
/-- X1_barOf -/
theorem c_X1_barOf (l : Launch) (nW : Nat) (D : va_G) (cA : Nat → ClassId) (ad : Nat → Nat) (hi : inj nW ad) (hNW : 102 ≤ nW) (I : SI) (J : SJ) (X : SX) (sz : Nat) (b : Nat) (hb : b < 5) : Met l yX1_barOf wsX1_barOf ({ frames := 0, cells := 0, slots := 0, locals := 0 }) (va_Pc [.ref (ad 1), .int (nI (b))] (wPre nW D cA ad I J X sz)) (qI nW D cA ad sz (I 7 b) I J X) 0 0 (fr nW ad sz) := by
  refine Met.ofW (cc := cX1_barOf) (maxL := 2) (ret := (some .int)) (by decide) rfl ?_
  intro p e s m args below meth c s₁ B hml hv
  obtain ⟨rfl, rfl, hP, hK⟩ := hv
  have hx := B.exec
  have hb := B.bytes
  have hr := B.returns
  have hts := atoms_spec (ws := wsX1_barOf) B.pre
  have hown : s.vm.findClass RX1 = some m.cls := findClass_of_methodNamed B.named
  have hlocks := B.notSynchronized
  have hS : va_S (fr nW ad s.heap.size) s.heap s.heap [] := va_S.rf
  have hA : ∀ k, k < nW → fr nW ad s.heap.size (ad k) := fr_ad
  have hl := lv_entry ([.ref (ad 1), .int (nI (b))]) (n := 2) (Nat.le_of_ble_eq_true rfl)
  rw [lg_entry_eq]
  generalize (lg_sl ([.ref (ad 1), .int (nI (b))]) ++ List.replicate (2 - (lg_sl ([.ref (ad 1), .int (nI (b))])).length) Slot.unset).toArray = ls at hl ⊢
  have hl : lv_has ls 2 [(0, .ref (ad 1)), (1, .int (nI (b)))] := hl
  have hS0 := hS
  suffices K : ∀ (H : Heap) (locs : List Loc), WP nW D cA ad I J X H → va_S (fr nW ad s.heap.size) s.heap H locs → W p l e (headSpec wsX1_barOf ({ frames := 0, cells := 0, slots := 0, locals := 0 })).room s m ([.ref (ad 1), .int (nI (b))] : List Value).toArray below meth c H locs 0 0 (MQ below (qI nW D cA ad s.heap.size (I 7 b) I J X) ([.ref (ad 1), .int (nI (b))] : List Value).toArray s 0 0 (fr nW ad s.heap.size)) (F0 m 0 ls []) from K _ _ hP hS
  clear hP hS hS0
  intro H locs hP hS
  refine lv_aload_n hx hb dX1_barOf_0 rfl (lv_at hl 0 rfl) ?_
  refine w_get (C := RX1) (T := TX1) (N := 6) (v := .ref (ad 7)) (index := 16) hx hb hts inX1_barOf_X1 hown hK hP 1 1 ⟨rfl, rfl, by decide⟩ (by omega) rfl (List.mem_of_getElem? (i := 1) rfl) (fun _ h9 => h9) dX1_barOf_1 ?_
  refine lv_iload_n hx hb dX1_barOf_4 rfl (lv_at hl 1 rfl) ?_
  refine w_iald hx hb hK hP 7 (b) ⟨rfl, (by show b < 5; omega)⟩ (by omega) rfl dX1_barOf_5 ?_
  exact w_iret hx hb hr hlocks hK hP hS ⟨by subst_vars; rfl, by subst_vars; rfl, by subst_vars; rfl, by subst_vars; rfl⟩ dX1_barOf_6

theorem inX1_walkedWeight_X1 : ∀ w ∈ wsX10, w ∈ wsX1_walkedWeight := by decide +kernel
set_option maxHeartbeats 4000000 in
set_option maxRecDepth 100000 in
/-- X1_walkedWeight -/
theorem c_X1_walkedWeight (l : Launch) (nW : Nat) (D : va_G) (cA : Nat → ClassId) (ad : Nat → Nat) (hi : inj nW ad) (hNW : 102 ≤ nW) (I : SI) (J : SJ) (X : SX) (sz : Nat) (n o : Nat) (hn : n < 9) (ho : o < 9) : Met l yX1_walkedWeight wsX1_walkedWeight ({ frames := 0, cells := 0, slots := 0, locals := 0 }) (va_Pc [.ref (ad 1), .int (nI (n)), .int (nI (o))] (wPre nW D cA ad I J X sz)) (qI nW D cA ad sz (I (9 + n) o) I J X) 0 0 (fr nW ad sz) := by
  refine Met.ofW (cc := cX1_walkedWeight) (maxL := 3) (ret := (some .int)) (by decide) rfl ?_
  intro p e s m args below meth c s₁ B hml hv
  obtain ⟨rfl, rfl, hP, hK⟩ := hv
  have hx := B.exec
  have hb := B.bytes
  have hr := B.returns
  have hts := atoms_spec (ws := wsX1_walkedWeight) B.pre
  have hown : s.vm.findClass RX1 = some m.cls := findClass_of_methodNamed B.named
  have hlocks := B.notSynchronized
  have hS : va_S (fr nW ad s.heap.size) s.heap s.heap [] := va_S.rf
  have hA : ∀ k, k < nW → fr nW ad s.heap.size (ad k) := fr_ad
  have hl := lv_entry ([.ref (ad 1), .int (nI (n)), .int (nI (o))]) (n := 3) (Nat.le_of_ble_eq_true rfl)
  rw [lg_entry_eq]
  generalize (lg_sl ([.ref (ad 1), .int (nI (n)), .int (nI (o))]) ++ List.replicate (3 - (lg_sl ([.ref (ad 1), .int (nI (n)), .int (nI (o))])).length) Slot.unset).toArray = ls at hl ⊢
  have hl : lv_has ls 3 [(0, .ref (ad 1)), (1, .int (nI (n))), (2, .int (nI (o)))] := hl
  have hS0 := hS
  suffices K : ∀ (H : Heap) (locs : List Loc), WP nW D cA ad I J X H → va_S (fr nW ad s.heap.size) s.heap H locs → W p l e (headSpec wsX1_walkedWeight ({ frames := 0, cells := 0, slots := 0, locals := 0 })).room s m ([.ref (ad 1), .int (nI (n)), .int (nI (o))] : List Value).toArray below meth c H locs 0 0 (MQ below (qI nW D cA ad s.heap.size (I (9 + n) o) I J X) ([.ref (ad 1), .int (nI (n)), .int (nI (o))] : List Value).toArray s 0 0 (fr nW ad s.heap.size)) (F0 m 0 ls []) from K _ _ hP hS
  clear hP hS hS0
  intro H locs hP hS
  refine lv_aload_n hx hb dX1_walkedWeight_0 rfl (lv_at hl 0 rfl) ?_
  refine w_get (C := RX1) (T := TX1) (N := 6) (v := .ref (ad 8)) (index := 20) hx hb hts inX1_walkedWeight_X1 hown hK hP 1 2 ⟨rfl, rfl, by decide⟩ (by omega) rfl (List.mem_of_getElem? (i := 1) rfl) (fun _ h9 => h9) dX1_walkedWeight_1 ?_
  refine lv_iload_n hx hb dX1_walkedWeight_4 rfl (lv_at hl 1 rfl) ?_
  refine w_aald hx hb hK hP 8 (n) 9 4 ⟨rfl, (by show n < 9; omega), rfl, rfl, by decide, by decide⟩ (by omega) rfl dX1_walkedWeight_5 ?_
  refine lv_iload_n hx hb dX1_walkedWeight_6 rfl (lv_at hl 2 rfl) ?_
  refine w_iald hx hb hK hP (9 + n) (o) (k_walkedR (by omega) (by omega)) (by omega) rfl dX1_walkedWeight_7 ?_
  exact w_iret hx hb hr hlocks hK hP hS ⟨by subst_vars; rfl, by subst_vars; rfl, by subst_vars; rfl, by subst_vars; rfl⟩ dX1_walkedWeight_8

theorem inX1_neighbour_X1 : ∀ w ∈ wsX10, w ∈ wsX1_neighbour := by decide +kernel
set_option maxHeartbeats 4000000 in
set_option maxRecDepth 100000 in
/-- X1_neighbour -/
theorem c_X1_neighbour (l : Launch) (nW : Nat) (D : va_G) (cA : Nat → ClassId) (ad : Nat → Nat) (hi : inj nW ad) (hNW : 102 ≤ nW) (I : SI) (J : SJ) (X : SX) (sz : Nat) (n k : Nat) (hn : n < 9) (hk : k < 9) : Met l yX1_neighbour wsX1_neighbour ({ frames := 0, cells := 0, slots := 0, locals := 0 }) (va_Pc [.ref (ad 1), .int (nI (n)), .int (nI (k))] (wPre nW D cA ad I J X sz)) (qI nW D cA ad sz (I (19 + n) k) I J X) 0 0 (fr nW ad sz) := by
  refine Met.ofW (cc := cX1_neighbour) (maxL := 3) (ret := (some .int)) (by decide) rfl ?_
  intro p e s m args below meth c s₁ B hml hv
  obtain ⟨rfl, rfl, hP, hK⟩ := hv
  have hx := B.exec
  have hb := B.bytes
  have hr := B.returns
  have hts := atoms_spec (ws := wsX1_neighbour) B.pre
  have hown : s.vm.findClass RX1 = some m.cls := findClass_of_methodNamed B.named
  have hlocks := B.notSynchronized
  have hS : va_S (fr nW ad s.heap.size) s.heap s.heap [] := va_S.rf
  have hA : ∀ k, k < nW → fr nW ad s.heap.size (ad k) := fr_ad
  have hl := lv_entry ([.ref (ad 1), .int (nI (n)), .int (nI (k))]) (n := 3) (Nat.le_of_ble_eq_true rfl)
  rw [lg_entry_eq]
  generalize (lg_sl ([.ref (ad 1), .int (nI (n)), .int (nI (k))]) ++ List.replicate (3 - (lg_sl ([.ref (ad 1), .int (nI (n)), .int (nI (k))])).length) Slot.unset).toArray = ls at hl ⊢
  have hl : lv_has ls 3 [(0, .ref (ad 1)), (1, .int (nI (n))), (2, .int (nI (k)))] := hl
  have hS0 := hS
  suffices K : ∀ (H : Heap) (locs : List Loc), WP nW D cA ad I J X H → va_S (fr nW ad s.heap.size) s.heap H locs → W p l e (headSpec wsX1_neighbour ({ frames := 0, cells := 0, slots := 0, locals := 0 })).room s m ([.ref (ad 1), .int (nI (n)), .int (nI (k))] : List Value).toArray below meth c H locs 0 0 (MQ below (qI nW D cA ad s.heap.size (I (19 + n) k) I J X) ([.ref (ad 1), .int (nI (n)), .int (nI (k))] : List Value).toArray s 0 0 (fr nW ad s.heap.size)) (F0 m 0 ls []) from K _ _ hP hS
  clear hP hS hS0
  intro H locs hP hS
  refine lv_aload_n hx hb dX1_neighbour_0 rfl (lv_at hl 0 rfl) ?_
  refine w_get (C := RX1) (T := TX1) (N := 6) (v := .ref (ad 18)) (index := 23) hx hb hts inX1_neighbour_X1 hown hK hP 1 3 ⟨rfl, rfl, by decide⟩ (by omega) rfl (List.mem_of_getElem? (i := 1) rfl) (fun _ h9 => h9) dX1_neighbour_1 ?_
  refine lv_iload_n hx hb dX1_neighbour_4 rfl (lv_at hl 1 rfl) ?_
  refine w_aald hx hb hK hP 18 (n) 19 4 ⟨rfl, (by show n < 9; omega), rfl, rfl, by decide, by decide⟩ (by omega) rfl dX1_neighbour_5 ?_
  refine lv_iload_n hx hb dX1_neighbour_6 rfl (lv_at hl 2 rfl) ?_
  refine w_iald hx hb hK hP (19 + n) (k) (k_neighR (by omega) (by omega)) (by omega) rfl dX1_neighbour_7 ?_
  exact w_iret hx hb hr hlocks hK hP hS ⟨by subst_vars; rfl, by subst_vars; rfl, by subst_vars; rfl, by subst_vars; rfl⟩ dX1_neighbour_8

theorem inX1_neighbourCount_X1 : ∀ w ∈ wsX10, w ∈ wsX1_neighbourCount := by decide +kernel
set_option maxHeartbeats 4000000 in
set_option maxRecDepth 100000 in
/-- X1_neighbourCount -/
theorem c_X1_neighbourCount (l : Launch) (nW : Nat) (D : va_G) (cA : Nat → ClassId) (ad : Nat → Nat) (hi : inj nW ad) (hNW : 102 ≤ nW) (I : SI) (J : SJ) (X : SX) (sz : Nat) (n : Nat) (hn : n < 9) : Met l yX1_neighbourCount wsX1_neighbourCount ({ frames := 0, cells := 0, slots := 0, locals := 0 }) (va_Pc [.ref (ad 1), .int (nI (n))] (wPre nW D cA ad I J X sz)) (qI nW D cA ad sz (I 28 n) I J X) 0 0 (fr nW ad sz) := by
  refine Met.ofW (cc := cX1_neighbourCount) (maxL := 2) (ret := (some .int)) (by decide) rfl ?_
  intro p e s m args below meth c s₁ B hml hv
  obtain ⟨rfl, rfl, hP, hK⟩ := hv
  have hx := B.exec
  have hb := B.bytes
  have hr := B.returns
  have hts := atoms_spec (ws := wsX1_neighbourCount) B.pre
  have hown : s.vm.findClass RX1 = some m.cls := findClass_of_methodNamed B.named
  have hlocks := B.notSynchronized
  have hS : va_S (fr nW ad s.heap.size) s.heap s.heap [] := va_S.rf
  have hA : ∀ k, k < nW → fr nW ad s.heap.size (ad k) := fr_ad
  have hl := lv_entry ([.ref (ad 1), .int (nI (n))]) (n := 2) (Nat.le_of_ble_eq_true rfl)
  rw [lg_entry_eq]
  generalize (lg_sl ([.ref (ad 1), .int (nI (n))]) ++ List.replicate (2 - (lg_sl ([.ref (ad 1), .int (nI (n))])).length) Slot.unset).toArray = ls at hl ⊢
  have hl : lv_has ls 2 [(0, .ref (ad 1)), (1, .int (nI (n)))] := hl
  have hS0 := hS
  suffices K : ∀ (H : Heap) (locs : List Loc), WP nW D cA ad I J X H → va_S (fr nW ad s.heap.size) s.heap H locs → W p l e (headSpec wsX1_neighbourCount ({ frames := 0, cells := 0, slots := 0, locals := 0 })).room s m ([.ref (ad 1), .int (nI (n))] : List Value).toArray below meth c H locs 0 0 (MQ below (qI nW D cA ad s.heap.size (I 28 n) I J X) ([.ref (ad 1), .int (nI (n))] : List Value).toArray s 0 0 (fr nW ad s.heap.size)) (F0 m 0 ls []) from K _ _ hP hS
  clear hP hS hS0
  intro H locs hP hS
  refine lv_aload_n hx hb dX1_neighbourCount_0 rfl (lv_at hl 0 rfl) ?_
  refine w_get (C := RX1) (T := TX1) (N := 6) (v := .ref (ad 28)) (index := 26) hx hb hts inX1_neighbourCount_X1 hown hK hP 1 4 ⟨rfl, rfl, by decide⟩ (by omega) rfl (List.mem_of_getElem? (i := 1) rfl) (fun _ h9 => h9) dX1_neighbourCount_1 ?_
  refine lv_iload_n hx hb dX1_neighbourCount_4 rfl (lv_at hl 1 rfl) ?_
  refine w_iald hx hb hK hP 28 (n) ⟨rfl, (by show n < 9; omega)⟩ (by omega) rfl dX1_neighbourCount_5 ?_
  exact w_iret hx hb hr hlocks hK hP hS ⟨by subst_vars; rfl, by subst_vars; rfl, by subst_vars; rfl, by subst_vars; rfl⟩ dX1_neighbourCount_6

theorem inX1_weightOfAll_X1 : ∀ w ∈ wsX10, w ∈ wsX1_weightOfAll := by decide +kernel
set_option maxHeartbeats 4000000 in
set_option maxRecDepth 100000 in
/-- X1_weightOfAll -/
theorem c_X1_weightOfAll (l : Launch) (nW : Nat) (D : va_G) (cA : Nat → ClassId) (ad : Nat → Nat) (hi : inj nW ad) (hNW : 102 ≤ nW) (I : SI) (J : SJ) (X : SX) (sz : Nat) (n : Nat) (hn : n < 9) : Met l yX1_weightOfAll wsX1_weightOfAll ({ frames := 0, cells := 0, slots := 0, locals := 0 }) (va_Pc [.ref (ad 1), .int (nI (n))] (wPre nW D cA ad I J X sz)) (qI nW D cA ad sz (I 29 n) I J X) 0 0 (fr nW ad sz) := by
  refine Met.ofW (cc := cX1_weightOfAll) (maxL := 2) (ret := (some .int)) (by decide) rfl ?_
  intro p e s m args below meth c s₁ B hml hv
  obtain ⟨rfl, rfl, hP, hK⟩ := hv
  have hx := B.exec
  have hb := B.bytes
  have hr := B.returns
  have hts := atoms_spec (ws := wsX1_weightOfAll) B.pre
  have hown : s.vm.findClass RX1 = some m.cls := findClass_of_methodNamed B.named
  have hlocks := B.notSynchronized
  have hS : va_S (fr nW ad s.heap.size) s.heap s.heap [] := va_S.rf
  have hA : ∀ k, k < nW → fr nW ad s.heap.size (ad k) := fr_ad
  have hl := lv_entry ([.ref (ad 1), .int (nI (n))]) (n := 2) (Nat.le_of_ble_eq_true rfl)
  rw [lg_entry_eq]
  generalize (lg_sl ([.ref (ad 1), .int (nI (n))]) ++ List.replicate (2 - (lg_sl ([.ref (ad 1), .int (nI (n))])).length) Slot.unset).toArray = ls at hl ⊢
  have hl : lv_has ls 2 [(0, .ref (ad 1)), (1, .int (nI (n)))] := hl
  have hS0 := hS
  suffices K : ∀ (H : Heap) (locs : List Loc), WP nW D cA ad I J X H → va_S (fr nW ad s.heap.size) s.heap H locs → W p l e (headSpec wsX1_weightOfAll ({ frames := 0, cells := 0, slots := 0, locals := 0 })).room s m ([.ref (ad 1), .int (nI (n))] : List Value).toArray below meth c H locs 0 0 (MQ below (qI nW D cA ad s.heap.size (I 29 n) I J X) ([.ref (ad 1), .int (nI (n))] : List Value).toArray s 0 0 (fr nW ad s.heap.size)) (F0 m 0 ls []) from K _ _ hP hS
  clear hP hS hS0
  intro H locs hP hS
  refine lv_aload_n hx hb dX1_weightOfAll_0 rfl (lv_at hl 0 rfl) ?_
  refine w_get (C := RX1) (T := TX1) (N := 6) (v := .ref (ad 29)) (index := 29) hx hb hts inX1_weightOfAll_X1 hown hK hP 1 5 ⟨rfl, rfl, by decide⟩ (by omega) rfl (List.mem_of_getElem? (i := 1) rfl) (fun _ h9 => h9) dX1_weightOfAll_1 ?_
  refine lv_iload_n hx hb dX1_weightOfAll_4 rfl (lv_at hl 1 rfl) ?_
  refine w_iald hx hb hK hP 29 (n) ⟨rfl, (by show n < 9; omega)⟩ (by omega) rfl dX1_weightOfAll_5 ?_
  exact w_iret hx hb hr hlocks hK hP hS ⟨by subst_vars; rfl, by subst_vars; rfl, by subst_vars; rfl, by subst_vars; rfl⟩ dX1_weightOfAll_6

theorem inX3_landedAt_X3 : ∀ w ∈ wsX30, w ∈ wsX3_landedAt := by decide +kernel
set_option maxHeartbeats 4000000 in
set_option maxRecDepth 100000 in
/-- X3_landedAt -/
theorem c_X3_landedAt (l : Launch) (nW : Nat) (D : va_G) (cA : Nat → ClassId) (ad : Nat → Nat) (hi : inj nW ad) (hNW : 102 ≤ nW) (I : SI) (J : SJ) (X : SX) (sz : Nat) (w n : Nat) (hw : w < 4) (hn : n < 9) : Met l yX3_landedAt wsX3_landedAt ({ frames := 0, cells := 0, slots := 0, locals := 0 }) (va_Pc [.ref (ad (31 + w)), .int (nI (n))] (wPre nW D cA ad I J X sz)) (qL nW D cA ad sz (J (35 + w) n) I J X) 0 0 (fr nW ad sz) := by
  refine Met.ofW (cc := cX3_landedAt) (maxL := 2) (ret := (some .long)) (by decide) rfl ?_
  intro p e s m args below meth c s₁ B hml hv
  obtain ⟨rfl, rfl, hP, hK⟩ := hv
  have hx := B.exec
  have hb := B.bytes
  have hr := B.returns
  have hts := atoms_spec (ws := wsX3_landedAt) B.pre
  have hown : s.vm.findClass RX3 = some m.cls := findClass_of_methodNamed B.named
  have hlocks := B.notSynchronized
  have hS : va_S (fr nW ad s.heap.size) s.heap s.heap [] := va_S.rf
  have hA : ∀ k, k < nW → fr nW ad s.heap.size (ad k) := fr_ad
  have hl := lv_entry ([.ref (ad (31 + w)), .int (nI (n))]) (n := 2) (Nat.le_of_ble_eq_true rfl)
  rw [lg_entry_eq]
  generalize (lg_sl ([.ref (ad (31 + w)), .int (nI (n))]) ++ List.replicate (2 - (lg_sl ([.ref (ad (31 + w)), .int (nI (n))])).length) Slot.unset).toArray = ls at hl ⊢
  have hl : lv_has ls 2 [(0, .ref (ad (31 + w))), (1, .int (nI (n)))] := hl
  have hS0 := hS
  suffices K : ∀ (H : Heap) (locs : List Loc), WP nW D cA ad I J X H → va_S (fr nW ad s.heap.size) s.heap H locs → W p l e (headSpec wsX3_landedAt ({ frames := 0, cells := 0, slots := 0, locals := 0 })).room s m ([.ref (ad (31 + w)), .int (nI (n))] : List Value).toArray below meth c H locs 0 0 (MQ below (qL nW D cA ad s.heap.size (J (35 + w) n) I J X) ([.ref (ad (31 + w)), .int (nI (n))] : List Value).toArray s 0 0 (fr nW ad s.heap.size)) (F0 m 0 ls []) from K _ _ hP hS
  clear hP hS hS0
  intro H locs hP hS
  refine lv_aload_n hx hb dX3_landedAt_0 rfl (lv_at hl 0 rfl) ?_
  refine w_get (C := RX3) (T := TX3) (N := 5) (v := .ref (ad (35 + w))) (index := 9) hx hb hts inX3_landedAt_X3 hown hK hP (31 + w) 1 (k_walkf (by omega) (by decide)) (by omega) (fl_walk1 (by omega)) (List.mem_of_getElem? (i := 1) rfl) (fun _ h9 => h9) dX3_landedAt_1 ?_
  refine lv_iload_n hx hb dX3_landedAt_4 rfl (lv_at hl 1 rfl) ?_
  refine w_lald hx hb hK hP (35 + w) (n) (k_land (by omega) (by omega)) (by omega) rfl dX3_landedAt_5 ?_
  exact w_lret hx hb hr hlocks hK hP hS ⟨by subst_vars; rfl, by subst_vars; rfl, by subst_vars; rfl, by subst_vars; rfl⟩ dX3_landedAt_6

theorem inX3_restOf_X3 : ∀ w ∈ wsX30, w ∈ wsX3_restOf := by decide +kernel
set_option maxHeartbeats 4000000 in
set_option maxRecDepth 100000 in
/-- X3_restOf -/
theorem c_X3_restOf (l : Launch) (nW : Nat) (D : va_G) (cA : Nat → ClassId) (ad : Nat → Nat) (hi : inj nW ad) (hNW : 102 ≤ nW) (I : SI) (J : SJ) (X : SX) (sz : Nat) (w n : Nat) (hw : w < 4) (hn : n < 9) : Met l yX3_restOf wsX3_restOf ({ frames := 0, cells := 0, slots := 0, locals := 0 }) (va_Pc [.ref (ad (31 + w)), .int (nI (n))] (wPre nW D cA ad I J X sz)) (qL nW D cA ad sz (J (39 + w) n) I J X) 0 0 (fr nW ad sz) := by
  refine Met.ofW (cc := cX3_restOf) (maxL := 2) (ret := (some .long)) (by decide) rfl ?_
  intro p e s m args below meth c s₁ B hml hv
  obtain ⟨rfl, rfl, hP, hK⟩ := hv
  have hx := B.exec
  have hb := B.bytes
  have hr := B.returns
  have hts := atoms_spec (ws := wsX3_restOf) B.pre
  have hown : s.vm.findClass RX3 = some m.cls := findClass_of_methodNamed B.named
  have hlocks := B.notSynchronized
  have hS : va_S (fr nW ad s.heap.size) s.heap s.heap [] := va_S.rf
  have hA : ∀ k, k < nW → fr nW ad s.heap.size (ad k) := fr_ad
  have hl := lv_entry ([.ref (ad (31 + w)), .int (nI (n))]) (n := 2) (Nat.le_of_ble_eq_true rfl)
  rw [lg_entry_eq]
  generalize (lg_sl ([.ref (ad (31 + w)), .int (nI (n))]) ++ List.replicate (2 - (lg_sl ([.ref (ad (31 + w)), .int (nI (n))])).length) Slot.unset).toArray = ls at hl ⊢
  have hl : lv_has ls 2 [(0, .ref (ad (31 + w))), (1, .int (nI (n)))] := hl
  have hS0 := hS
  suffices K : ∀ (H : Heap) (locs : List Loc), WP nW D cA ad I J X H → va_S (fr nW ad s.heap.size) s.heap H locs → W p l e (headSpec wsX3_restOf ({ frames := 0, cells := 0, slots := 0, locals := 0 })).room s m ([.ref (ad (31 + w)), .int (nI (n))] : List Value).toArray below meth c H locs 0 0 (MQ below (qL nW D cA ad s.heap.size (J (39 + w) n) I J X) ([.ref (ad (31 + w)), .int (nI (n))] : List Value).toArray s 0 0 (fr nW ad s.heap.size)) (F0 m 0 ls []) from K _ _ hP hS
  clear hP hS hS0
  intro H locs hP hS
  refine lv_aload_n hx hb dX3_restOf_0 rfl (lv_at hl 0 rfl) ?_
  refine w_get (C := RX3) (T := TX3) (N := 5) (v := .ref (ad (39 + w))) (index := 15) hx hb hts inX3_restOf_X3 hown hK hP (31 + w) 2 (k_walkf (by omega) (by decide)) (by omega) (fl_walk2 (by omega)) (List.mem_of_getElem? (i := 1) rfl) (fun _ h9 => h9) dX3_restOf_1 ?_
  refine lv_iload_n hx hb dX3_restOf_4 rfl (lv_at hl 1 rfl) ?_
  refine w_lald hx hb hK hP (39 + w) (n) (k_rest (by omega) (by omega)) (by omega) rfl dX3_restOf_5 ?_
  exact w_lret hx hb hr hlocks hK hP hS ⟨by subst_vars; rfl, by subst_vars; rfl, by subst_vars; rfl, by subst_vars; rfl⟩ dX3_restOf_6

theorem inX3_sentTo_X3 : ∀ w ∈ wsX30, w ∈ wsX3_sentTo := by decide +kernel
set_option maxHeartbeats 4000000 in
set_option maxRecDepth 100000 in
/-- X3_sentTo -/
theorem c_X3_sentTo (l : Launch) (nW : Nat) (D : va_G) (cA : Nat → ClassId) (ad : Nat → Nat) (hi : inj nW ad) (hNW : 102 ≤ nW) (I : SI) (J : SJ) (X : SX) (sz : Nat) (w n o : Nat) (hw : w < 4) (hn : n < 9) (ho : o < 9) : Met l yX3_sentTo wsX3_sentTo ({ frames := 0, cells := 0, slots := 0, locals := 0 }) (va_Pc [.ref (ad (31 + w)), .int (nI (n)), .int (nI (o))] (wPre nW D cA ad I J X sz)) (qL nW D cA ad sz (J (47 + 9 * w + n) o) I J X) 0 0 (fr nW ad sz) := by
  refine Met.ofW (cc := cX3_sentTo) (maxL := 3) (ret := (some .long)) (by decide) rfl ?_
  intro p e s m args below meth c s₁ B hml hv
  obtain ⟨rfl, rfl, hP, hK⟩ := hv
  have hx := B.exec
  have hb := B.bytes
  have hr := B.returns
  have hts := atoms_spec (ws := wsX3_sentTo) B.pre
  have hown : s.vm.findClass RX3 = some m.cls := findClass_of_methodNamed B.named
  have hlocks := B.notSynchronized
  have hS : va_S (fr nW ad s.heap.size) s.heap s.heap [] := va_S.rf
  have hA : ∀ k, k < nW → fr nW ad s.heap.size (ad k) := fr_ad
  have hl := lv_entry ([.ref (ad (31 + w)), .int (nI (n)), .int (nI (o))]) (n := 3) (Nat.le_of_ble_eq_true rfl)
  rw [lg_entry_eq]
  generalize (lg_sl ([.ref (ad (31 + w)), .int (nI (n)), .int (nI (o))]) ++ List.replicate (3 - (lg_sl ([.ref (ad (31 + w)), .int (nI (n)), .int (nI (o))])).length) Slot.unset).toArray = ls at hl ⊢
  have hl : lv_has ls 3 [(0, .ref (ad (31 + w))), (1, .int (nI (n))), (2, .int (nI (o)))] := hl
  have hS0 := hS
  suffices K : ∀ (H : Heap) (locs : List Loc), WP nW D cA ad I J X H → va_S (fr nW ad s.heap.size) s.heap H locs → W p l e (headSpec wsX3_sentTo ({ frames := 0, cells := 0, slots := 0, locals := 0 })).room s m ([.ref (ad (31 + w)), .int (nI (n)), .int (nI (o))] : List Value).toArray below meth c H locs 0 0 (MQ below (qL nW D cA ad s.heap.size (J (47 + 9 * w + n) o) I J X) ([.ref (ad (31 + w)), .int (nI (n)), .int (nI (o))] : List Value).toArray s 0 0 (fr nW ad s.heap.size)) (F0 m 0 ls []) from K _ _ hP hS
  clear hP hS hS0
  intro H locs hP hS
  refine lv_aload_n hx hb dX3_sentTo_0 rfl (lv_at hl 0 rfl) ?_
  refine w_get (C := RX3) (T := TX3) (N := 5) (v := .ref (ad (43 + w))) (index := 20) hx hb hts inX3_sentTo_X3 hown hK hP (31 + w) 3 (k_walkf (by omega) (by decide)) (by omega) (fl_walk3 (by omega)) (List.mem_of_getElem? (i := 1) rfl) (fun _ h9 => h9) dX3_sentTo_1 ?_
  refine lv_iload_n hx hb dX3_sentTo_4 rfl (lv_at hl 1 rfl) ?_
  refine w_aald hx hb hK hP (43 + w) (n) (47 + 9 * w) 5 (k_sendO (by omega) (by omega)) (by omega) rfl dX3_sentTo_5 ?_
  refine lv_iload_n hx hb dX3_sentTo_6 rfl (lv_at hl 2 rfl) ?_
  refine w_lald hx hb hK hP (47 + 9 * w + n) (o) (k_send (by omega) (by omega) (by omega)) (by omega) rfl dX3_sentTo_7 ?_
  exact w_lret hx hb hr hlocks hK hP hS ⟨by subst_vars; rfl, by subst_vars; rfl, by subst_vars; rfl, by subst_vars; rfl⟩ dX3_sentTo_8

theorem inX3_pushCount_X3 : ∀ w ∈ wsX30, w ∈ wsX3_pushCount := by decide +kernel
set_option maxHeartbeats 4000000 in
set_option maxRecDepth 100000 in
/-- X3_pushCount -/
theorem c_X3_pushCount (l : Launch) (nW : Nat) (D : va_G) (cA : Nat → ClassId) (ad : Nat → Nat) (hi : inj nW ad) (hNW : 102 ≤ nW) (I : SI) (J : SJ) (X : SX) (sz : Nat) (w : Nat) (hw : w < 4)  : Met l yX3_pushCount wsX3_pushCount ({ frames := 0, cells := 0, slots := 0, locals := 0 }) (va_Pc [.ref (ad (31 + w))] (wPre nW D cA ad I J X sz)) (qI nW D cA ad sz (I (31 + w) 5) I J X) 0 0 (fr nW ad sz) := by
  refine Met.ofW (cc := cX3_pushCount) (maxL := 1) (ret := (some .int)) (by decide) rfl ?_
  intro p e s m args below meth c s₁ B hml hv
  obtain ⟨rfl, rfl, hP, hK⟩ := hv
  have hx := B.exec
  have hb := B.bytes
  have hr := B.returns
  have hts := atoms_spec (ws := wsX3_pushCount) B.pre
  have hown : s.vm.findClass RX3 = some m.cls := findClass_of_methodNamed B.named
  have hlocks := B.notSynchronized
  have hS : va_S (fr nW ad s.heap.size) s.heap s.heap [] := va_S.rf
  have hA : ∀ k, k < nW → fr nW ad s.heap.size (ad k) := fr_ad
  have hl := lv_entry ([.ref (ad (31 + w))]) (n := 1) (Nat.le_of_ble_eq_true rfl)
  rw [lg_entry_eq]
  generalize (lg_sl ([.ref (ad (31 + w))]) ++ List.replicate (1 - (lg_sl ([.ref (ad (31 + w))])).length) Slot.unset).toArray = ls at hl ⊢
  have hl : lv_has ls 1 [(0, .ref (ad (31 + w)))] := hl
  have hS0 := hS
  suffices K : ∀ (H : Heap) (locs : List Loc), WP nW D cA ad I J X H → va_S (fr nW ad s.heap.size) s.heap H locs → W p l e (headSpec wsX3_pushCount ({ frames := 0, cells := 0, slots := 0, locals := 0 })).room s m ([.ref (ad (31 + w))] : List Value).toArray below meth c H locs 0 0 (MQ below (qI nW D cA ad s.heap.size (I (31 + w) 5) I J X) ([.ref (ad (31 + w))] : List Value).toArray s 0 0 (fr nW ad s.heap.size)) (F0 m 0 ls []) from K _ _ hP hS
  clear hP hS hS0
  intro H locs hP hS
  refine lv_aload_n hx hb dX3_pushCount_0 rfl (lv_at hl 0 rfl) ?_
  refine w_get (C := RX3) (T := TX3) (N := 5) (v := .int (I (31 + w) 5)) (index := 23) hx hb hts inX3_pushCount_X3 hown hK hP (31 + w) 4 (k_walkf (by omega) (by decide)) (by omega) (fl_walk4 (by omega)) (List.mem_of_getElem? (i := 1) rfl) (fun _ h9 => h9) dX3_pushCount_1 ?_
  exact w_iret hx hb hr hlocks hK hP hS ⟨by subst_vars; rfl, by subst_vars; rfl, by subst_vars; rfl, by subst_vars; rfl⟩ dX3_pushCount_4

/-- units come to a node's rest, and are noted as sent -/
def giveJ (J : SJ) (w n o : Nat) (u : Int64) : SJ := st2 (st2 J (39 + w) o (J (39 + w) o + u)) (47 + 9 * w + n) o ((st2 J (39 + w) o (J (39 + w) o + u)) (47 + 9 * w + n) o + u)

theorem inX3_give_X3 : ∀ w ∈ wsX30, w ∈ wsX3_give := by decide +kernel
set_option maxHeartbeats 4000000 in
set_option maxRecDepth 100000 in
/-- X3_give -/
theorem c_X3_give (l : Launch) (nW : Nat) (D : va_G) (cA : Nat → ClassId) (ad : Nat → Nat) (hi : inj nW ad) (hNW : 102 ≤ nW) (I : SI) (J : SJ) (X : SX) (sz : Nat) (w n o : Nat) (u : Int64) (hw : w < 4) (hn : n < 9) (ho : o < 9) : Met l yX3_give wsX3_give ({ frames := 0, cells := 0, slots := 0, locals := 0 }) (va_Pc [.ref (ad (31 + w)), .int (nI (n)), .int (nI (o)), .long (u)] (wPre nW D cA ad I J X sz)) (qV nW D cA ad sz I (giveJ J w n o u) X) 0 0 (fr nW ad sz) := by
  refine Met.ofW (cc := cX3_give) (maxL := 5) (ret := none) (by decide) rfl ?_
  intro p e s m args below meth c s₁ B hml hv
  obtain ⟨rfl, rfl, hP, hK⟩ := hv
  have hx := B.exec
  have hb := B.bytes
  have hr := B.returns
  have hts := atoms_spec (ws := wsX3_give) B.pre
  have hown : s.vm.findClass RX3 = some m.cls := findClass_of_methodNamed B.named
  have hlocks := B.notSynchronized
  have hS : va_S (fr nW ad s.heap.size) s.heap s.heap [] := va_S.rf
  have hA : ∀ k, k < nW → fr nW ad s.heap.size (ad k) := fr_ad
  have hl := lv_entry ([.ref (ad (31 + w)), .int (nI (n)), .int (nI (o)), .long (u)]) (n := 5) (Nat.le_of_ble_eq_true rfl)
  rw [lg_entry_eq]
  generalize (lg_sl ([.ref (ad (31 + w)), .int (nI (n)), .int (nI (o)), .long (u)]) ++ List.replicate (5 - (lg_sl ([.ref (ad (31 + w)), .int (nI (n)), .int (nI (o)), .long (u)])).length) Slot.unset).toArray = ls at hl ⊢
  have hl : lv_has ls 5 [(0, .ref (ad (31 + w))), (1, .int (nI (n))), (2, .int (nI (o))), (3, .long (u))] := hl
  have hS0 := hS
  suffices K : ∀ (H : Heap) (locs : List Loc), WP nW D cA ad I J X H → va_S (fr nW ad s.heap.size) s.heap H locs → W p l e (headSpec wsX3_give ({ frames := 0, cells := 0, slots := 0, locals := 0 })).room s m ([.ref (ad (31 + w)), .int (nI (n)), .int (nI (o)), .long (u)] : List Value).toArray below meth c H locs 0 0 (MQ below (qV nW D cA ad s.heap.size I (giveJ J w n o u) X) ([.ref (ad (31 + w)), .int (nI (n)), .int (nI (o)), .long (u)] : List Value).toArray s 0 0 (fr nW ad s.heap.size)) (F0 m 0 ls []) from K _ _ hP hS
  clear hP hS hS0
  intro H locs hP hS
  refine lv_aload_n hx hb dX3_give_0 rfl (lv_at hl 0 rfl) ?_
  refine w_get (C := RX3) (T := TX3) (N := 5) (v := .ref (ad (39 + w))) (index := 15) hx hb hts inX3_give_X3 hown hK hP (31 + w) 2 (k_walkf (by omega) (by decide)) (by omega) (fl_walk2 (by omega)) (List.mem_of_getElem? (i := 1) rfl) (fun _ h9 => h9) dX3_give_1 ?_
  refine lv_iload_n hx hb dX3_give_4 rfl (lv_at hl 2 rfl) ?_
  refine lv_dup2_11 hx hb dX3_give_5 rfl rfl ?_
  refine w_lald hx hb hK hP (39 + w) (o) (k_rest (by omega) (by omega)) (by omega) rfl dX3_give_6 ?_
  refine lv_lload_n hx hb dX3_give_7 rfl (lv_at hl 3 rfl) ?_
  refine lv_ladd hx hb dX3_give_8 ?_
  refine w_last (v := (J (39 + w) (o)) + u) hx hb hK hP hi hA hS (39 + w) (o) (k_rest (by omega) (by omega)) (by omega) rfl dX3_give_9 (fun H locs hP hS => ?_)
  obtain ⟨J_1, eJ_1⟩ : ∃ y, y = st2 J (39 + w) (o) ((J (39 + w) (o)) + u) := ⟨_, rfl⟩
  have hP : WP nW D cA ad I J_1 X H := by rw [eJ_1]; exact hP
  refine lv_aload_n hx hb dX3_give_10 rfl (lv_at hl 0 rfl) ?_
  refine w_get (C := RX3) (T := TX3) (N := 5) (v := .ref (ad (43 + w))) (index := 20) hx hb hts inX3_give_X3 hown hK hP (31 + w) 3 (k_walkf (by omega) (by decide)) (by omega) (fl_walk3 (by omega)) (List.mem_of_getElem? (i := 2) rfl) (fun _ h9 => h9) dX3_give_11 ?_
  refine lv_iload_n hx hb dX3_give_14 rfl (lv_at hl 1 rfl) ?_
  refine w_aald hx hb hK hP (43 + w) (n) (47 + 9 * w) 5 (k_sendO (by omega) (by omega)) (by omega) rfl dX3_give_15 ?_
  refine lv_iload_n hx hb dX3_give_16 rfl (lv_at hl 2 rfl) ?_
  refine lv_dup2_11 hx hb dX3_give_17 rfl rfl ?_
  refine w_lald hx hb hK hP (47 + 9 * w + n) (o) (k_send (by omega) (by omega) (by omega)) (by omega) rfl dX3_give_18 ?_
  refine lv_lload_n hx hb dX3_give_19 rfl (lv_at hl 3 rfl) ?_
  refine lv_ladd hx hb dX3_give_20 ?_
  refine w_last (v := (J_1 (47 + 9 * w + n) (o)) + u) hx hb hK hP hi hA hS (47 + 9 * w + n) (o) (k_send (by omega) (by omega) (by omega)) (by omega) rfl dX3_give_21 (fun H locs hP hS => ?_)
  obtain ⟨J_2, eJ_2⟩ : ∃ y, y = st2 J_1 (47 + 9 * w + n) (o) ((J_1 (47 + 9 * w + n) (o)) + u) := ⟨_, rfl⟩
  have hP : WP nW D cA ad I J_2 X H := by rw [eJ_2]; exact hP
  exact w_vret hx hb hr hlocks hK hP hS ⟨by subst_vars; rfl, by subst_vars; rfl, by subst_vars; rfl⟩ dX3_give_22
