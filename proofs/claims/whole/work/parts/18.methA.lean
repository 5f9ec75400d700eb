/-! the class's methods -/
theorem nI_n1 : ∀ f, f < 20 → ¬ nI f = -1 := by decide +kernel
def minW (x : Int32) : Int32 := if x < 99 then x else 99
theorem inF_r : ∀ r, r < 4 → inF (nI r) 0 3 = 1 := by decide +kernel
theorem inF_k : ∀ r, r < 5 → inF (nI r) 0 4 = 1 := by decide +kernel
theorem inF_n : ∀ r, r < 9 → inF (nI r) 0 8 = 1 := by decide +kernel

theorem inX4_loan_X1 : ∀ w ∈ wsX10, w ∈ wsX4_loan := by decide +kernel
theorem inX4_loan_X3 : ∀ w ∈ wsX30, w ∈ wsX4_loan := by decide +kernel
theorem inX4_loan_X4 : ∀ w ∈ wsX40, w ∈ wsX4_loan := by decide +kernel
set_option maxHeartbeats 4000000 in
set_option maxRecDepth 100000 in
/-- X4_loan -/
theorem c_X4_loan_ok (l : Launch) (nW : Nat) (D : va_G) (cA : Nat → ClassId) (ad : Nat → Nat) (hi : inj nW ad) (hNW : 102 ≤ nW) (I : SI) (J : SJ) (X : SX) (sz : Nat) (r k : Nat) (hr4 : r < 4) (hk5 : k < 5) (w : Int32) (hw : inF w 1 99 = 1) (cn : Nat → Nat) (nb : Nat → Nat → Nat) (Is : Nat → SI) (Js : Nat → SJ) (h0 : tellI (st2 I (3 + r) k (minW (I (3 + r) k + w))) = Is 0) (j0 : J = Js 0) (hM : MendOK cn nb Is Js) : Met l yX4_loan wsX4_loan ({ frames := 5, cells := 0, slots := 0, locals := 129 }) (va_Pc [.ref (ad 0), .int (nI (r)), .int (nI (k)), .int (w)] (wPre nW D cA ad I J X sz)) (qI nW D cA ad sz (minW (I (3 + r) k + w)) (Is 4) (Js 4) X) 0 0 (fr nW ad sz) := by
  refine Met.ofW (cc := cX4_loan) (maxL := 5) (ret := (some .int)) (by decide) rfl ?_
  intro p e s m args below meth c s₁ B hml hv
  obtain ⟨rfl, rfl, hP, hK⟩ := hv
  have hx := B.exec
  have hb := B.bytes
  have hr := B.returns
  have hts := atoms_spec (ws := wsX4_loan) B.pre
  have hown : s.vm.findClass RX4 = some m.cls := findClass_of_methodNamed B.named
  have hlocks := B.notSynchronized
  have hS : va_S (fr nW ad s.heap.size) s.heap s.heap [] := va_S.rf
  have hA : ∀ k, k < nW → fr nW ad s.heap.size (ad k) := fr_ad
  have hl := lv_entry ([.ref (ad 0), .int (nI (r)), .int (nI (k)), .int (w)]) (n := 5) (Nat.le_of_ble_eq_true rfl)
  rw [lg_entry_eq]
  generalize (lg_sl ([.ref (ad 0), .int (nI (r)), .int (nI (k)), .int (w)]) ++ List.replicate (5 - (lg_sl ([.ref (ad 0), .int (nI (r)), .int (nI (k)), .int (w)])).length) Slot.unset).toArray = ls at hl ⊢
  have hl : lv_has ls 5 [(0, .ref (ad 0)), (1, .int (nI (r))), (2, .int (nI (k))), (3, .int (w))] := hl
  have hS0 := hS
  suffices K : ∀ (H : Heap) (locs : List Loc), WP nW D cA ad I J X H → va_S (fr nW ad s.heap.size) s.heap H locs → W p l e (headSpec wsX4_loan ({ frames := 5, cells := 0, slots := 0, locals := 129 })).room s m ([.ref (ad 0), .int (nI (r)), .int (nI (k)), .int (w)] : List Value).toArray below meth c H locs 0 0 (MQ below (qI nW D cA ad s.heap.size (minW (I (3 + r) k + w)) (Is 4) (Js 4) X) ([.ref (ad 0), .int (nI (r)), .int (nI (k)), .int (w)] : List Value).toArray s 0 0 (fr nW ad s.heap.size)) (F0 m 0 ls []) from K _ _ hP hS
  clear hP hS hS0
  intro H locs hP hS
  refine lv_iload_n hx hb dX4_loan_0 rfl (lv_at hl 1 rfl) ?_
  refine w_callv (va_runS (As := [.int (nI (r))]) (rest := []) ⟨hx, hb, hml, hown, hts⟩ (c_X4_checkReader l nW D cA ad hi hNW I J X H.size r (by omega)) (va_cwS 1 hts gX4_loan_X4_checkReader rfl rfl rfl (by decide +kernel) ⟨Nat.le_of_ble_eq_true rfl, Nat.le_of_ble_eq_true rfl⟩) (w_preS hK hP) rfl rfl hl.1 rfl (lv_room (Nat.le_of_ble_eq_true rfl)) dX4_loan_1 ⟨Nat.le_of_ble_eq_true rfl, Nat.le_of_ble_eq_true rfl⟩) hS (fun H locs hP hS => ?_)
  refine lv_iload_n hx hb dX4_loan_4 rfl (lv_at hl 2 rfl) ?_
  refine w_callv (va_runS (As := [.int (nI (k))]) (rest := []) ⟨hx, hb, hml, hown, hts⟩ (c_X4_checkBook l nW D cA ad hi hNW I J X H.size k (by omega)) (va_cwS 1 hts gX4_loan_X4_checkBook rfl rfl rfl (by decide +kernel) ⟨Nat.le_of_ble_eq_true rfl, Nat.le_of_ble_eq_true rfl⟩) (w_preS hK hP) rfl rfl hl.1 rfl (lv_room (Nat.le_of_ble_eq_true rfl)) dX4_loan_5 ⟨Nat.le_of_ble_eq_true rfl, Nat.le_of_ble_eq_true rfl⟩) hS (fun H locs hP hS => ?_)
  refine lv_iload_n hx hb dX4_loan_8 rfl (lv_at hl 3 rfl) ?_
  refine lv_iconst (v := 1) hx hb dX4_loan_9 (by decide) ?_
  refine lv_bipush (v := 99) hx hb dX4_loan_10 (by decide) ?_
  refine w_callv (va_runS (As := [.int (w), .int (1), .int (99)]) (rest := []) ⟨hx, hb, hml, hown, hts⟩ (c_X4_checkRange l nW D cA ad hi hNW I J X H.size w 1 99 hw) (va_cwS 3 hts gX4_loan_X4_checkRange rfl rfl rfl (by decide +kernel) ⟨Nat.le_of_ble_eq_true rfl, Nat.le_of_ble_eq_true rfl⟩) (w_preS hK hP) rfl rfl hl.1 rfl (lv_room (Nat.le_of_ble_eq_true rfl)) dX4_loan_12 ⟨Nat.le_of_ble_eq_true rfl, Nat.le_of_ble_eq_true rfl⟩) hS (fun H locs hP hS => ?_)
  refine lv_bipush (v := 99) hx hb dX4_loan_15 (by decide) ?_
  refine lv_aload_n hx hb dX4_loan_17 rfl (lv_at hl 0 rfl) ?_
  refine w_get (C := RX4) (T := TX4) (N := 7) (v := .ref (ad 1)) (index := 12) hx hb hts inX4_loan_X4 hown hK hP 0 0 ⟨rfl, rfl, by decide⟩ (by omega) rfl (List.mem_of_getElem? (i := 1) rfl) (fun _ h9 => h9) dX4_loan_18 ?_
  refine lv_iload_n hx hb dX4_loan_21 rfl (lv_at hl 1 rfl) ?_
  refine lv_iload_n hx hb dX4_loan_22 rfl (lv_at hl 2 rfl) ?_
  refine w_calli (va_runV (As := [.int (nI (r)), .int (nI (k))]) (rest := [.int (99)]) ⟨hx, hb, hml, hown, hts⟩ (c_X1_loanWeight l nW D cA ad hi hNW I J X H.size r k (by omega) (by omega)) (cwV 2 hts gX4_loan_X1_loanWeight rfl rfl rfl (by decide +kernel) ⟨Nat.le_of_ble_eq_true rfl, Nat.le_of_ble_eq_true rfl⟩) (w_preV hK hP 1 (by omega) ⟨rfl, rfl⟩ rfl) rfl rfl hl.1 rfl (lv_room (Nat.le_of_ble_eq_true rfl)) dX4_loan_23 ⟨Nat.le_of_ble_eq_true rfl, Nat.le_of_ble_eq_true rfl⟩) hS (fun H locs hP hS => ?_)
  refine lv_iload_n hx hb dX4_loan_26 rfl (lv_at hl 3 rfl) ?_
  refine lv_iadd hx hb dX4_loan_27 ?_
  refine va_mmin hx hb (hml.trans hl.1.symm) hown (hts (.methodLink RX4 70 Lib.Math.min.name) (List.mem_of_getElem? (i := 2) rfl)) (hts (.static Lib.Math.min.name) (List.mem_of_getElem? (i := 3) rfl)) (hts (.initialized "java/lang/Math") (List.mem_of_getElem? (i := 4) rfl)) (hts (.code Lib.Math.min.name Lib.Math.min.code 2 (some .int)) (List.mem_of_getElem? (i := 5) rfl)) (Nat.le_of_ble_eq_true rfl) (Nat.le_of_ble_eq_true rfl) (Nat.le_of_ble_eq_true rfl) (Nat.le_of_ble_eq_true rfl) dX4_loan_28 ?_
  refine lv_topi (fun x_1 ex_1 => ?_)
  refine lv_istore (lv' := [(4, .int (x_1)), (0, .ref (ad 0)), (1, .int (nI (r))), (2, .int (nI (k))), (3, .int (w))]) hx hb dX4_loan_31 hl (by decide) rfl (fun ls hl => ?_)
  refine lv_aload_n hx hb dX4_loan_33 rfl (lv_at hl 1 rfl) ?_
  refine w_get (C := RX4) (T := TX4) (N := 7) (v := .ref (ad 1)) (index := 12) hx hb hts inX4_loan_X4 hown hK hP 0 0 ⟨rfl, rfl, by decide⟩ (by omega) rfl (List.mem_of_getElem? (i := 1) rfl) (fun _ h9 => h9) dX4_loan_34 ?_
  refine lv_iload_n hx hb dX4_loan_37 rfl (lv_at hl 2 rfl) ?_
  refine lv_iload_n hx hb dX4_loan_38 rfl (lv_at hl 3 rfl) ?_
  refine lv_iload hx hb dX4_loan_39 (lv_at hl 0 rfl) ?_
  refine w_callv (va_runV (As := [.int (nI (r)), .int (nI (k)), .int (x_1)]) (rest := []) ⟨hx, hb, hml, hown, hts⟩ (c_X1_setLoan l nW D cA ad hi hNW I J X H.size r k x_1 (by omega) (by omega)) (cwV 3 hts gX4_loan_X1_setLoan rfl rfl rfl (by decide +kernel) ⟨Nat.le_of_ble_eq_true rfl, Nat.le_of_ble_eq_true rfl⟩) (w_preV hK hP 1 (by omega) ⟨rfl, rfl⟩ rfl) rfl rfl hl.1 rfl (lv_room (Nat.le_of_ble_eq_true rfl)) dX4_loan_41 ⟨Nat.le_of_ble_eq_true rfl, Nat.le_of_ble_eq_true rfl⟩) hS (fun H locs hP hS => ?_)
  refine lv_aload_n hx hb dX4_loan_44 rfl (lv_at hl 1 rfl) ?_
  refine w_callv (va_runV (As := []) (rest := []) ⟨hx, hb, hml, hown, hts⟩ (c_X4_mendWalks l nW D cA ad hi hNW (tellI (st2 I (3 + r) k x_1)) J X H.size cn nb Is Js (by subst_vars; exact h0) j0 hM) (cwV 0 hts gX4_loan_X4_mendWalks rfl rfl rfl (by decide +kernel) ⟨Nat.le_of_ble_eq_true rfl, Nat.le_of_ble_eq_true rfl⟩) (w_preV hK hP 0 (by omega) ⟨rfl, rfl⟩ rfl) rfl rfl hl.1 rfl (lv_room (Nat.le_of_ble_eq_true rfl)) dX4_loan_45 ⟨Nat.le_of_ble_eq_true rfl, Nat.le_of_ble_eq_true rfl⟩) hS (fun H locs hP hS => ?_)
  refine lv_iload hx hb dX4_loan_48 (lv_at hl 0 rfl) ?_
  exact w_iret hx hb hr hlocks hK hP hS ⟨by subst_vars; rfl, by subst_vars; rfl, by subst_vars; rfl, by subst_vars; rfl⟩ dX4_loan_50

set_option maxHeartbeats 4000000 in
set_option maxRecDepth 100000 in
/-- X4_loan throws -/
theorem x_X4_loan_1 (l : Launch) (hst : l.stackTraces = false) (nW : Nat) (D : va_G) (cA : Nat → ClassId) (ad : Nat → Nat) (hi : inj nW ad) (hNW : 102 ≤ nW) (I : SI) (J : SJ) (X : SX) (sz : Nat) (r k w : Int32) (hp : inF r 0 3 = 0) : vx_Met l yX4_loan wsX4_loan ({ frames := 7, cells := 1, slots := 6, locals := 102 }) (va_Pc [.ref (ad 0), .int (r), .int (k), .int (w)] (wPreX nW D cA ad I J X sz)) (nInt nW ad sz) (xT nW D cA ad sz eI I J X) 1 6 (fr nW ad sz) := by
  refine vx_ofW (cc := cX4_loan) (maxL := 5) (ret := (some .int)) (by decide) rfl ?_
  intro p e s m args below meth c s₁ B hml htab hv
  obtain ⟨rfl, ⟨rfl, hP, hK⟩, hX⟩ := hv
  have hx := B.exec
  have hb := B.bytes
  have hr := B.returns
  have hts := atoms_spec (ws := wsX4_loan) B.pre
  have hown : s.vm.findClass RX4 = some m.cls := findClass_of_methodNamed B.named
  have hlocks := B.notSynchronized
  have hS : va_S (fr nW ad s.heap.size) s.heap s.heap [] := va_S.rf
  have hA : ∀ k, k < nW → fr nW ad s.heap.size (ad k) := fr_ad
  have hl := lv_entry ([.ref (ad 0), .int (r), .int (k), .int (w)]) (n := 5) (Nat.le_of_ble_eq_true rfl)
  rw [lg_entry_eq]
  generalize (lg_sl ([.ref (ad 0), .int (r), .int (k), .int (w)]) ++ List.replicate (5 - (lg_sl ([.ref (ad 0), .int (r), .int (k), .int (w)])).length) Slot.unset).toArray = ls at hl ⊢
  have hl : lv_has ls 5 [(0, .ref (ad 0)), (1, .int (r)), (2, .int (k)), (3, .int (w))] := hl
  suffices K : ∀ (H : Heap) (locs : List Loc), WP nW D cA ad I J X H → va_S (fr nW ad s.heap.size) s.heap H locs → W p l e (headSpec wsX4_loan ({ frames := 7, cells := 1, slots := 6, locals := 102 })).room s m ([.ref (ad 0), .int (r), .int (k), .int (w)] : List Value).toArray below meth c H locs 0 0 (vx_MQ below (nInt nW ad s.heap.size) (xT nW D cA ad s.heap.size eI I J X) ([.ref (ad 0), .int (r), .int (k), .int (w)] : List Value).toArray s 1 6 (fr nW ad s.heap.size)) (F0 m 0 ls []) from K _ _ hP hS
  clear hP hS
  intro H locs hP hS
  refine lv_iload_n hx hb dX4_loan_0 rfl (lv_at hl 1 rfl) ?_
  exact w_callxV (vx_runS (As := [.int (r)]) (rest := []) ⟨hx, hb, hml, hown, hts⟩ (x_X4_checkReader l hst nW D cA ad hi hNW I J X H.size r hp) (va_cwS 1 hts gX4_loan_X4_checkReader rfl rfl rfl (by decide +kernel) ⟨Nat.le_of_ble_eq_true rfl, Nat.le_of_ble_eq_true rfl⟩) (w_preSX hK hP hX hS) rfl rfl hl.1 rfl (lv_room (Nat.le_of_ble_eq_true rfl)) dX4_loan_1 ⟨Nat.le_of_ble_eq_true rfl, Nat.le_of_ble_eq_true rfl⟩) hK hS htab hlocks (Nat.le_of_ble_eq_true rfl) (Nat.le_of_ble_eq_true rfl)

set_option maxHeartbeats 4000000 in
set_option maxRecDepth 100000 in
/-- X4_loan throws -/
theorem x_X4_loan_2 (l : Launch) (hst : l.stackTraces = false) (nW : Nat) (D : va_G) (cA : Nat → ClassId) (ad : Nat → Nat) (hi : inj nW ad) (hNW : 102 ≤ nW) (I : SI) (J : SJ) (X : SX) (sz : Nat) (r : Nat) (hr4 : r < 4) (k w : Int32) (hp : inF k 0 4 = 0) : vx_Met l yX4_loan wsX4_loan ({ frames := 7, cells := 1, slots := 6, locals := 102 }) (va_Pc [.ref (ad 0), .int (nI (r)), .int (k), .int (w)] (wPreX nW D cA ad I J X sz)) (nInt nW ad sz) (xT nW D cA ad sz eI I J X) 1 6 (fr nW ad sz) := by
  refine vx_ofW (cc := cX4_loan) (maxL := 5) (ret := (some .int)) (by decide) rfl ?_
  intro p e s m args below meth c s₁ B hml htab hv
  obtain ⟨rfl, ⟨rfl, hP, hK⟩, hX⟩ := hv
  have hx := B.exec
  have hb := B.bytes
  have hr := B.returns
  have hts := atoms_spec (ws := wsX4_loan) B.pre
  have hown : s.vm.findClass RX4 = some m.cls := findClass_of_methodNamed B.named
  have hlocks := B.notSynchronized
  have hS : va_S (fr nW ad s.heap.size) s.heap s.heap [] := va_S.rf
  have hA : ∀ k, k < nW → fr nW ad s.heap.size (ad k) := fr_ad
  have hl := lv_entry ([.ref (ad 0), .int (nI (r)), .int (k), .int (w)]) (n := 5) (Nat.le_of_ble_eq_true rfl)
  rw [lg_entry_eq]
  generalize (lg_sl ([.ref (ad 0), .int (nI (r)), .int (k), .int (w)]) ++ List.replicate (5 - (lg_sl ([.ref (ad 0), .int (nI (r)), .int (k), .int (w)])).length) Slot.unset).toArray = ls at hl ⊢
  have hl : lv_has ls 5 [(0, .ref (ad 0)), (1, .int (nI (r))), (2, .int (k)), (3, .int (w))] := hl
  suffices K : ∀ (H : Heap) (locs : List Loc), WP nW D cA ad I J X H → va_S (fr nW ad s.heap.size) s.heap H locs → W p l e (headSpec wsX4_loan ({ frames := 7, cells := 1, slots := 6, locals := 102 })).room s m ([.ref (ad 0), .int (nI (r)), .int (k), .int (w)] : List Value).toArray below meth c H locs 0 0 (vx_MQ below (nInt nW ad s.heap.size) (xT nW D cA ad s.heap.size eI I J X) ([.ref (ad 0), .int (nI (r)), .int (k), .int (w)] : List Value).toArray s 1 6 (fr nW ad s.heap.size)) (F0 m 0 ls []) from K _ _ hP hS
  clear hP hS
  intro H locs hP hS
  refine lv_iload_n hx hb dX4_loan_0 rfl (lv_at hl 1 rfl) ?_
  refine w_callv (va_runS (As := [.int (nI (r))]) (rest := []) ⟨hx, hb, hml, hown, hts⟩ (c_X4_checkReader l nW D cA ad hi hNW I J X H.size r (by omega)) (va_cwS 1 hts gX4_loan_X4_checkReader rfl rfl rfl (by decide +kernel) ⟨Nat.le_of_ble_eq_true rfl, Nat.le_of_ble_eq_true rfl⟩) (w_preS hK hP) rfl rfl hl.1 rfl (lv_room (Nat.le_of_ble_eq_true rfl)) dX4_loan_1 ⟨Nat.le_of_ble_eq_true rfl, Nat.le_of_ble_eq_true rfl⟩) hS (fun H locs hP hS => ?_)
  refine lv_iload_n hx hb dX4_loan_4 rfl (lv_at hl 2 rfl) ?_
  exact w_callxV (vx_runS (As := [.int (k)]) (rest := []) ⟨hx, hb, hml, hown, hts⟩ (x_X4_checkBook l hst nW D cA ad hi hNW I J X H.size k hp) (va_cwS 1 hts gX4_loan_X4_checkBook rfl rfl rfl (by decide +kernel) ⟨Nat.le_of_ble_eq_true rfl, Nat.le_of_ble_eq_true rfl⟩) (w_preSX hK hP hX hS) rfl rfl hl.1 rfl (lv_room (Nat.le_of_ble_eq_true rfl)) dX4_loan_5 ⟨Nat.le_of_ble_eq_true rfl, Nat.le_of_ble_eq_true rfl⟩) hK hS htab hlocks (Nat.le_of_ble_eq_true rfl) (Nat.le_of_ble_eq_true rfl)

set_option maxHeartbeats 4000000 in
set_option maxRecDepth 100000 in
/-- X4_loan throws -/
theorem x_X4_loan_3 (l : Launch) (hst : l.stackTraces = false) (nW : Nat) (D : va_G) (cA : Nat → ClassId) (ad : Nat → Nat) (hi : inj nW ad) (hNW : 102 ≤ nW) (I : SI) (J : SJ) (X : SX) (sz : Nat) (r k : Nat) (hr4 : r < 4) (hk5 : k < 5) (w : Int32) (hp : inF w 1 99 = 0) : vx_Met l yX4_loan wsX4_loan ({ frames := 7, cells := 1, slots := 6, locals := 104 }) (va_Pc [.ref (ad 0), .int (nI (r)), .int (nI (k)), .int (w)] (wPreX nW D cA ad I J X sz)) (nInt nW ad sz) (xT nW D cA ad sz eA I J X) 1 6 (fr nW ad sz) := by
  refine vx_ofW (cc := cX4_loan) (maxL := 5) (ret := (some .int)) (by decide) rfl ?_
  intro p e s m args below meth c s₁ B hml htab hv
  obtain ⟨rfl, ⟨rfl, hP, hK⟩, hX⟩ := hv
  have hx := B.exec
  have hb := B.bytes
  have hr := B.returns
  have hts := atoms_spec (ws := wsX4_loan) B.pre
  have hown : s.vm.findClass RX4 = some m.cls := findClass_of_methodNamed B.named
  have hlocks := B.notSynchronized
  have hS : va_S (fr nW ad s.heap.size) s.heap s.heap [] := va_S.rf
  have hA : ∀ k, k < nW → fr nW ad s.heap.size (ad k) := fr_ad
  have hl := lv_entry ([.ref (ad 0), .int (nI (r)), .int (nI (k)), .int (w)]) (n := 5) (Nat.le_of_ble_eq_true rfl)
  rw [lg_entry_eq]
  generalize (lg_sl ([.ref (ad 0), .int (nI (r)), .int (nI (k)), .int (w)]) ++ List.replicate (5 - (lg_sl ([.ref (ad 0), .int (nI (r)), .int (nI (k)), .int (w)])).length) Slot.unset).toArray = ls at hl ⊢
  have hl : lv_has ls 5 [(0, .ref (ad 0)), (1, .int (nI (r))), (2, .int (nI (k))), (3, .int (w))] := hl
  suffices K : ∀ (H : Heap) (locs : List Loc), WP nW D cA ad I J X H → va_S (fr nW ad s.heap.size) s.heap H locs → W p l e (headSpec wsX4_loan ({ frames := 7, cells := 1, slots := 6, locals := 104 })).room s m ([.ref (ad 0), .int (nI (r)), .int (nI (k)), .int (w)] : List Value).toArray below meth c H locs 0 0 (vx_MQ below (nInt nW ad s.heap.size) (xT nW D cA ad s.heap.size eA I J X) ([.ref (ad 0), .int (nI (r)), .int (nI (k)), .int (w)] : List Value).toArray s 1 6 (fr nW ad s.heap.size)) (F0 m 0 ls []) from K _ _ hP hS
  clear hP hS
  intro H locs hP hS
  refine lv_iload_n hx hb dX4_loan_0 rfl (lv_at hl 1 rfl) ?_
  refine w_callv (va_runS (As := [.int (nI (r))]) (rest := []) ⟨hx, hb, hml, hown, hts⟩ (c_X4_checkReader l nW D cA ad hi hNW I J X H.size r (by omega)) (va_cwS 1 hts gX4_loan_X4_checkReader rfl rfl rfl (by decide +kernel) ⟨Nat.le_of_ble_eq_true rfl, Nat.le_of_ble_eq_true rfl⟩) (w_preS hK hP) rfl rfl hl.1 rfl (lv_room (Nat.le_of_ble_eq_true rfl)) dX4_loan_1 ⟨Nat.le_of_ble_eq_true rfl, Nat.le_of_ble_eq_true rfl⟩) hS (fun H locs hP hS => ?_)
  refine lv_iload_n hx hb dX4_loan_4 rfl (lv_at hl 2 rfl) ?_
  refine w_callv (va_runS (As := [.int (nI (k))]) (rest := []) ⟨hx, hb, hml, hown, hts⟩ (c_X4_checkBook l nW D cA ad hi hNW I J X H.size k (by omega)) (va_cwS 1 hts gX4_loan_X4_checkBook rfl rfl rfl (by decide +kernel) ⟨Nat.le_of_ble_eq_true rfl, Nat.le_of_ble_eq_true rfl⟩) (w_preS hK hP) rfl rfl hl.1 rfl (lv_room (Nat.le_of_ble_eq_true rfl)) dX4_loan_5 ⟨Nat.le_of_ble_eq_true rfl, Nat.le_of_ble_eq_true rfl⟩) hS (fun H locs hP hS => ?_)
  refine lv_iload_n hx hb dX4_loan_8 rfl (lv_at hl 3 rfl) ?_
  refine lv_iconst (v := 1) hx hb dX4_loan_9 (by decide) ?_
  refine lv_bipush (v := 99) hx hb dX4_loan_10 (by decide) ?_
  exact w_callxV (vx_runS (As := [.int (w), .int (1), .int (99)]) (rest := []) ⟨hx, hb, hml, hown, hts⟩ (x_X4_checkRange l hst nW D cA ad hi hNW I J X H.size w 1 99 hp) (va_cwS 3 hts gX4_loan_X4_checkRange rfl rfl rfl (by decide +kernel) ⟨Nat.le_of_ble_eq_true rfl, Nat.le_of_ble_eq_true rfl⟩) (w_preSX hK hP hX hS) rfl rfl hl.1 rfl (lv_room (Nat.le_of_ble_eq_true rfl)) dX4_loan_12 ⟨Nat.le_of_ble_eq_true rfl, Nat.le_of_ble_eq_true rfl⟩) hK hS htab hlocks (Nat.le_of_ble_eq_true rfl) (Nat.le_of_ble_eq_true rfl)

theorem inX4_strike_X1 : ∀ w ∈ wsX10, w ∈ wsX4_strike := by decide +kernel
theorem inX4_strike_X3 : ∀ w ∈ wsX30, w ∈ wsX4_strike := by decide +kernel
theorem inX4_strike_X4 : ∀ w ∈ wsX40, w ∈ wsX4_strike := by decide +kernel
set_option maxHeartbeats 4000000 in
set_option maxRecDepth 100000 in
/-- X4_strike -/
theorem c_X4_strike_ok (l : Launch) (nW : Nat) (D : va_G) (cA : Nat → ClassId) (ad : Nat → Nat) (hi : inj nW ad) (hNW : 102 ≤ nW) (I : SI) (J : SJ) (X : SX) (sz : Nat) (r k : Nat) (hr4 : r < 4) (hk5 : k < 5) (hz : ¬ I (3 + r) k = 0) (cn : Nat → Nat) (nb : Nat → Nat → Nat) (Is : Nat → SI) (Js : Nat → SJ) (h0 : tellI (st2 I (3 + r) k 0) = Is 0) (j0 : J = Js 0) (hM : MendOK cn nb Is Js) : Met l yX4_strike wsX4_strike ({ frames := 5, cells := 0, slots := 0, locals := 129 }) (va_Pc [.ref (ad 0), .int (nI (r)), .int (nI (k))] (wPre nW D cA ad I J X sz)) (qI nW D cA ad sz (I (3 + r) k) (Is 4) (Js 4) X) 0 0 (fr nW ad sz) := by
  refine Met.ofW (cc := cX4_strike) (maxL := 4) (ret := (some .int)) (by decide) rfl ?_
  intro p e s m args below meth c s₁ B hml hv
  obtain ⟨rfl, rfl, hP, hK⟩ := hv
  have hx := B.exec
  have hb := B.bytes
  have hr := B.returns
  have hts := atoms_spec (ws := wsX4_strike) B.pre
  have hown : s.vm.findClass RX4 = some m.cls := findClass_of_methodNamed B.named
  have hlocks := B.notSynchronized
  have hS : va_S (fr nW ad s.heap.size) s.heap s.heap [] := va_S.rf
  have hA : ∀ k, k < nW → fr nW ad s.heap.size (ad k) := fr_ad
  have hl := lv_entry ([.ref (ad 0), .int (nI (r)), .int (nI (k))]) (n := 4) (Nat.le_of_ble_eq_true rfl)
  rw [lg_entry_eq]
  generalize (lg_sl ([.ref (ad 0), .int (nI (r)), .int (nI (k))]) ++ List.replicate (4 - (lg_sl ([.ref (ad 0), .int (nI (r)), .int (nI (k))])).length) Slot.unset).toArray = ls at hl ⊢
  have hl : lv_has ls 4 [(0, .ref (ad 0)), (1, .int (nI (r))), (2, .int (nI (k)))] := hl
  have hS0 := hS
  suffices K : ∀ (H : Heap) (locs : List Loc), WP nW D cA ad I J X H → va_S (fr nW ad s.heap.size) s.heap H locs → W p l e (headSpec wsX4_strike ({ frames := 5, cells := 0, slots := 0, locals := 129 })).room s m ([.ref (ad 0), .int (nI (r)), .int (nI (k))] : List Value).toArray below meth c H locs 0 0 (MQ below (qI nW D cA ad s.heap.size (I (3 + r) k) (Is 4) (Js 4) X) ([.ref (ad 0), .int (nI (r)), .int (nI (k))] : List Value).toArray s 0 0 (fr nW ad s.heap.size)) (F0 m 0 ls []) from K _ _ hP hS
  clear hP hS hS0
  intro H locs hP hS
  refine lv_iload_n hx hb dX4_strike_0 rfl (lv_at hl 1 rfl) ?_
  refine w_callv (va_runS (As := [.int (nI (r))]) (rest := []) ⟨hx, hb, hml, hown, hts⟩ (c_X4_checkReader l nW D cA ad hi hNW I J X H.size r (by omega)) (va_cwS 1 hts gX4_strike_X4_checkReader rfl rfl rfl (by decide +kernel) ⟨Nat.le_of_ble_eq_true rfl, Nat.le_of_ble_eq_true rfl⟩) (w_preS hK hP) rfl rfl hl.1 rfl (lv_room (Nat.le_of_ble_eq_true rfl)) dX4_strike_1 ⟨Nat.le_of_ble_eq_true rfl, Nat.le_of_ble_eq_true rfl⟩) hS (fun H locs hP hS => ?_)
  refine lv_iload_n hx hb dX4_strike_4 rfl (lv_at hl 2 rfl) ?_
  refine w_callv (va_runS (As := [.int (nI (k))]) (rest := []) ⟨hx, hb, hml, hown, hts⟩ (c_X4_checkBook l nW D cA ad hi hNW I J X H.size k (by omega)) (va_cwS 1 hts gX4_strike_X4_checkBook rfl rfl rfl (by decide +kernel) ⟨Nat.le_of_ble_eq_true rfl, Nat.le_of_ble_eq_true rfl⟩) (w_preS hK hP) rfl rfl hl.1 rfl (lv_room (Nat.le_of_ble_eq_true rfl)) dX4_strike_5 ⟨Nat.le_of_ble_eq_true rfl, Nat.le_of_ble_eq_true rfl⟩) hS (fun H locs hP hS => ?_)
  refine lv_aload_n hx hb dX4_strike_8 rfl (lv_at hl 0 rfl) ?_
  refine w_get (C := RX4) (T := TX4) (N := 7) (v := .ref (ad 1)) (index := 12) hx hb hts inX4_strike_X4 hown hK hP 0 0 ⟨rfl, rfl, by decide⟩ (by omega) rfl (List.mem_of_getElem? (i := 3) rfl) (fun _ h9 => h9) dX4_strike_9 ?_
  refine lv_iload_n hx hb dX4_strike_12 rfl (lv_at hl 1 rfl) ?_
  refine lv_iload_n hx hb dX4_strike_13 rfl (lv_at hl 2 rfl) ?_
  refine w_calli (va_runV (As := [.int (nI (r)), .int (nI (k))]) (rest := []) ⟨hx, hb, hml, hown, hts⟩ (c_X1_loanWeight l nW D cA ad hi hNW I J X H.size r k (by omega) (by omega)) (cwV 2 hts gX4_strike_X1_loanWeight rfl rfl rfl (by decide +kernel) ⟨Nat.le_of_ble_eq_true rfl, Nat.le_of_ble_eq_true rfl⟩) (w_preV hK hP 1 (by omega) ⟨rfl, rfl⟩ rfl) rfl rfl hl.1 rfl (lv_room (Nat.le_of_ble_eq_true rfl)) dX4_strike_14 ⟨Nat.le_of_ble_eq_true rfl, Nat.le_of_ble_eq_true rfl⟩) hS (fun H locs hP hS => ?_)
  refine lv_istore_n (lv' := [(3, .int (I (3 + r) k)), (0, .ref (ad 0)), (1, .int (nI (r))), (2, .int (nI (k)))]) hx hb dX4_strike_17 rfl hl (by decide) rfl (fun ls hl => ?_)
  refine lv_iload_n hx hb dX4_strike_18 rfl (lv_at hl 0 rfl) ?_
  refine lv_if_ne (tgt := 32) hx hb dX4_strike_19 (by decide) (fun c19 => ?_) (fun c19 => ?_)
  · refine lv_aload_n hx hb dX4_strike_32 rfl (lv_at hl 1 rfl) ?_
    refine w_get (C := RX4) (T := TX4) (N := 7) (v := .ref (ad 1)) (index := 12) hx hb hts inX4_strike_X4 hown hK hP 0 0 ⟨rfl, rfl, by decide⟩ (by omega) rfl (List.mem_of_getElem? (i := 3) rfl) (fun _ h9 => h9) dX4_strike_33 ?_
    refine lv_iload_n hx hb dX4_strike_36 rfl (lv_at hl 2 rfl) ?_
    refine lv_iload_n hx hb dX4_strike_37 rfl (lv_at hl 3 rfl) ?_
    refine lv_iconst (v := 0) hx hb dX4_strike_38 (by decide) ?_
    refine w_callv (va_runV (As := [.int (nI (r)), .int (nI (k)), .int (0)]) (rest := []) ⟨hx, hb, hml, hown, hts⟩ (c_X1_setLoan l nW D cA ad hi hNW I J X H.size r k 0 (by omega) (by omega)) (cwV 3 hts gX4_strike_X1_setLoan rfl rfl rfl (by decide +kernel) ⟨Nat.le_of_ble_eq_true rfl, Nat.le_of_ble_eq_true rfl⟩) (w_preV hK hP 1 (by omega) ⟨rfl, rfl⟩ rfl) rfl rfl hl.1 rfl (lv_room (Nat.le_of_ble_eq_true rfl)) dX4_strike_39 ⟨Nat.le_of_ble_eq_true rfl, Nat.le_of_ble_eq_true rfl⟩) hS (fun H locs hP hS => ?_)
    refine lv_aload_n hx hb dX4_strike_42 rfl (lv_at hl 1 rfl) ?_
    refine w_callv (va_runV (As := []) (rest := []) ⟨hx, hb, hml, hown, hts⟩ (c_X4_mendWalks l nW D cA ad hi hNW (tellI (st2 I (3 + r) k 0)) J X H.size cn nb Is Js (by subst_vars; exact h0) j0 hM) (cwV 0 hts gX4_strike_X4_mendWalks rfl rfl rfl (by decide +kernel) ⟨Nat.le_of_ble_eq_true rfl, Nat.le_of_ble_eq_true rfl⟩) (w_preV hK hP 0 (by omega) ⟨rfl, rfl⟩ rfl) rfl rfl hl.1 rfl (lv_room (Nat.le_of_ble_eq_true rfl)) dX4_strike_43 ⟨Nat.le_of_ble_eq_true rfl, Nat.le_of_ble_eq_true rfl⟩) hS (fun H locs hP hS => ?_)
    refine lv_iload_n hx hb dX4_strike_46 rfl (lv_at hl 0 rfl) ?_
    exact w_iret hx hb hr hlocks hK hP hS ⟨by subst_vars; rfl, by subst_vars; rfl, by subst_vars; rfl, by subst_vars; rfl⟩ dX4_strike_47
  · exact absurd c19 hz

set_option maxHeartbeats 4000000 in
set_option maxRecDepth 100000 in
/-- X4_strike throws -/
theorem x_X4_strike_1 (l : Launch) (hst : l.stackTraces = false) (nW : Nat) (D : va_G) (cA : Nat → ClassId) (ad : Nat → Nat) (hi : inj nW ad) (hNW : 102 ≤ nW) (I : SI) (J : SJ) (X : SX) (sz : Nat) (r k : Int32) (hp : inF r 0 3 = 0) : vx_Met l yX4_strike wsX4_strike ({ frames := 7, cells := 1, slots := 6, locals := 102 }) (va_Pc [.ref (ad 0), .int (r), .int (k)] (wPreX nW D cA ad I J X sz)) (nInt nW ad sz) (xT nW D cA ad sz eI I J X) 1 6 (fr nW ad sz) := by
  refine vx_ofW (cc := cX4_strike) (maxL := 4) (ret := (some .int)) (by decide) rfl ?_
  intro p e s m args below meth c s₁ B hml htab hv
  obtain ⟨rfl, ⟨rfl, hP, hK⟩, hX⟩ := hv
  have hx := B.exec
  have hb := B.bytes
  have hr := B.returns
  have hts := atoms_spec (ws := wsX4_strike) B.pre
  have hown : s.vm.findClass RX4 = some m.cls := findClass_of_methodNamed B.named
  have hlocks := B.notSynchronized
  have hS : va_S (fr nW ad s.heap.size) s.heap s.heap [] := va_S.rf
  have hA : ∀ k, k < nW → fr nW ad s.heap.size (ad k) := fr_ad
  have hl := lv_entry ([.ref (ad 0), .int (r), .int (k)]) (n := 4) (Nat.le_of_ble_eq_true rfl)
  rw [lg_entry_eq]
  generalize (lg_sl ([.ref (ad 0), .int (r), .int (k)]) ++ List.replicate (4 - (lg_sl ([.ref (ad 0), .int (r), .int (k)])).length) Slot.unset).toArray = ls at hl ⊢
  have hl : lv_has ls 4 [(0, .ref (ad 0)), (1, .int (r)), (2, .int (k))] := hl
  suffices K : ∀ (H : Heap) (locs : List Loc), WP nW D cA ad I J X H → va_S (fr nW ad s.heap.size) s.heap H locs → W p l e (headSpec wsX4_strike ({ frames := 7, cells := 1, slots := 6, locals := 102 })).room s m ([.ref (ad 0), .int (r), .int (k)] : List Value).toArray below meth c H locs 0 0 (vx_MQ below (nInt nW ad s.heap.size) (xT nW D cA ad s.heap.size eI I J X) ([.ref (ad 0), .int (r), .int (k)] : List Value).toArray s 1 6 (fr nW ad s.heap.size)) (F0 m 0 ls []) from K _ _ hP hS
  clear hP hS
  intro H locs hP hS
  refine lv_iload_n hx hb dX4_strike_0 rfl (lv_at hl 1 rfl) ?_
  exact w_callxV (vx_runS (As := [.int (r)]) (rest := []) ⟨hx, hb, hml, hown, hts⟩ (x_X4_checkReader l hst nW D cA ad hi hNW I J X H.size r hp) (va_cwS 1 hts gX4_strike_X4_checkReader rfl rfl rfl (by decide +kernel) ⟨Nat.le_of_ble_eq_true rfl, Nat.le_of_ble_eq_true rfl⟩) (w_preSX hK hP hX hS) rfl rfl hl.1 rfl (lv_room (Nat.le_of_ble_eq_true rfl)) dX4_strike_1 ⟨Nat.le_of_ble_eq_true rfl, Nat.le_of_ble_eq_true rfl⟩) hK hS htab hlocks (Nat.le_of_ble_eq_true rfl) (Nat.le_of_ble_eq_true rfl)

set_option maxHeartbeats 4000000 in
set_option maxRecDepth 100000 in
/-- X4_strike throws -/
theorem x_X4_strike_2 (l : Launch) (hst : l.stackTraces = false) (nW : Nat) (D : va_G) (cA : Nat → ClassId) (ad : Nat → Nat) (hi : inj nW ad) (hNW : 102 ≤ nW) (I : SI) (J : SJ) (X : SX) (sz : Nat) (r : Nat) (hr4 : r < 4) (k : Int32) (hp : inF k 0 4 = 0) : vx_Met l yX4_strike wsX4_strike ({ frames := 7, cells := 1, slots := 6, locals := 102 }) (va_Pc [.ref (ad 0), .int (nI (r)), .int (k)] (wPreX nW D cA ad I J X sz)) (nInt nW ad sz) (xT nW D cA ad sz eI I J X) 1 6 (fr nW ad sz) := by
  refine vx_ofW (cc := cX4_strike) (maxL := 4) (ret := (some .int)) (by decide) rfl ?_
  intro p e s m args below meth c s₁ B hml htab hv
  obtain ⟨rfl, ⟨rfl, hP, hK⟩, hX⟩ := hv
  have hx := B.exec
  have hb := B.bytes
  have hr := B.returns
  have hts := atoms_spec (ws := wsX4_strike) B.pre
  have hown : s.vm.findClass RX4 = some m.cls := findClass_of_methodNamed B.named
  have hlocks := B.notSynchronized
  have hS : va_S (fr nW ad s.heap.size) s.heap s.heap [] := va_S.rf
  have hA : ∀ k, k < nW → fr nW ad s.heap.size (ad k) := fr_ad
  have hl := lv_entry ([.ref (ad 0), .int (nI (r)), .int (k)]) (n := 4) (Nat.le_of_ble_eq_true rfl)
  rw [lg_entry_eq]
  generalize (lg_sl ([.ref (ad 0), .int (nI (r)), .int (k)]) ++ List.replicate (4 - (lg_sl ([.ref (ad 0), .int (nI (r)), .int (k)])).length) Slot.unset).toArray = ls at hl ⊢
  have hl : lv_has ls 4 [(0, .ref (ad 0)), (1, .int (nI (r))), (2, .int (k))] := hl
  suffices K : ∀ (H : Heap) (locs : List Loc), WP nW D cA ad I J X H → va_S (fr nW ad s.heap.size) s.heap H locs → W p l e (headSpec wsX4_strike ({ frames := 7, cells := 1, slots := 6, locals := 102 })).room s m ([.ref (ad 0), .int (nI (r)), .int (k)] : List Value).toArray below meth c H locs 0 0 (vx_MQ below (nInt nW ad s.heap.size) (xT nW D cA ad s.heap.size eI I J X) ([.ref (ad 0), .int (nI (r)), .int (k)] : List Value).toArray s 1 6 (fr nW ad s.heap.size)) (F0 m 0 ls []) from K _ _ hP hS
  clear hP hS
  intro H locs hP hS
  refine lv_iload_n hx hb dX4_strike_0 rfl (lv_at hl 1 rfl) ?_
  refine w_callv (va_runS (As := [.int (nI (r))]) (rest := []) ⟨hx, hb, hml, hown, hts⟩ (c_X4_checkReader l nW D cA ad hi hNW I J X H.size r (by omega)) (va_cwS 1 hts gX4_strike_X4_checkReader rfl rfl rfl (by decide +kernel) ⟨Nat.le_of_ble_eq_true rfl, Nat.le_of_ble_eq_true rfl⟩) (w_preS hK hP) rfl rfl hl.1 rfl (lv_room (Nat.le_of_ble_eq_true rfl)) dX4_strike_1 ⟨Nat.le_of_ble_eq_true rfl, Nat.le_of_ble_eq_true rfl⟩) hS (fun H locs hP hS => ?_)
  refine lv_iload_n hx hb dX4_strike_4 rfl (lv_at hl 2 rfl) ?_
  exact w_callxV (vx_runS (As := [.int (k)]) (rest := []) ⟨hx, hb, hml, hown, hts⟩ (x_X4_checkBook l hst nW D cA ad hi hNW I J X H.size k hp) (va_cwS 1 hts gX4_strike_X4_checkBook rfl rfl rfl (by decide +kernel) ⟨Nat.le_of_ble_eq_true rfl, Nat.le_of_ble_eq_true rfl⟩) (w_preSX hK hP hX hS) rfl rfl hl.1 rfl (lv_room (Nat.le_of_ble_eq_true rfl)) dX4_strike_5 ⟨Nat.le_of_ble_eq_true rfl, Nat.le_of_ble_eq_true rfl⟩) hK hS htab hlocks (Nat.le_of_ble_eq_true rfl) (Nat.le_of_ble_eq_true rfl)

