
set_option maxHeartbeats 4000000 in
set_option maxRecDepth 100000 in
/-- X4_strike throws -/
theorem x_X4_strike_3 (l : Launch) (hst : l.stackTraces = false) (nW : Nat) (D : va_G) (cA : Nat → ClassId) (ad : Nat → Nat) (hi : inj nW ad) (hNW : 102 ≤ nW) (I : SI) (J : SJ) (X : SX) (sz : Nat) (r k : Nat) (hr4 : r < 4) (hk5 : k < 5) (hz : I (3 + r) k = 0) : vx_Met l yX4_strike wsX4_strike ({ frames := 6, cells := 1, slots := 6, locals := 82 }) (va_Pc [.ref (ad 0), .int (nI (r)), .int (nI (k))] (wPreX nW D cA ad I J X sz)) (nInt nW ad sz) (xT nW D cA ad sz eS I J X) 1 6 (fr nW ad sz) := by
  refine vx_ofW (cc := cX4_strike) (maxL := 4) (ret := (some .int)) (by decide) rfl ?_
  intro p e s m args below meth c s₁ B hml htab hv
  obtain ⟨rfl, ⟨rfl, hP, hK⟩, hX⟩ := hv
  have hx := B.exec
  have hb := B.bytes
  have hr := B.returns
  have hts := atoms_spec (ws := wsX4_strike) B.pre
  have hown : s.vm.findClass RX4 = some m.cls := findClass_of_methodNamed B.named
  have hlocks := B.notSynchronized
  have hS : va_S (fr nW ad s.heap.size) s.heap s.heap [] := va_S.rf
  have hA : ∀ k, k < nW → fr nW ad s.heap.size (ad k) := fr_ad
  have hl := lv_entry ([.ref (ad 0), .int (nI (r)), .int (nI (k))]) (n := 4) (Nat.le_of_ble_eq_true rfl)
  rw [lg_entry_eq]
  generalize (lg_sl ([.ref (ad 0), .int (nI (r)), .int (nI (k))]) ++ List.replicate (4 - (lg_sl ([.ref (ad 0), .int (nI (r)), .int (nI (k))])).length) Slot.unset).toArray = ls at hl ⊢
  have hl : lv_has ls 4 [(0, .ref (ad 0)), (1, .int (nI (r))), (2, .int (nI (k)))] := hl
  suffices K : ∀ (H : Heap) (locs : List Loc), WP nW D cA ad I J X H → va_S (fr nW ad s.heap.size) s.heap H locs → W p l e (headSpec wsX4_strike ({ frames := 6, cells := 1, slots := 6, locals := 82 })).room s m ([.ref (ad 0), .int (nI (r)), .int (nI (k))] : List Value).toArray below meth c H locs 0 0 (vx_MQ below (nInt nW ad s.heap.size) (xT nW D cA ad s.heap.size eS I J X) ([.ref (ad 0), .int (nI (r)), .int (nI (k))] : List Value).toArray s 1 6 (fr nW ad s.heap.size)) (F0 m 0 ls []) from K _ _ hP hS
  clear hP hS
  intro H locs hP hS
  refine lv_iload_n hx hb dX4_strike_0 rfl (lv_at hl 1 rfl) ?_
  refine w_callv (va_runS (As := [.int (nI (r))]) (rest := []) ⟨hx, hb, hml, hown, hts⟩ (c_X4_checkReader l nW D cA ad hi hNW I J X H.size r (by omega)) (va_cwS 1 hts gX4_strike_X4_checkReader rfl rfl rfl (by decide +kernel) ⟨Nat.le_of_ble_eq_true rfl, Nat.le_of_ble_eq_true rfl⟩) (w_preS hK hP) rfl rfl hl.1 rfl (lv_room (Nat.le_of_ble_eq_true rfl)) dX4_strike_1 ⟨Nat.le_of_ble_eq_true rfl, Nat.le_of_ble_eq_true rfl⟩) hS (fun H locs hP hS => ?_)
  refine lv_iload_n hx hb dX4_strike_4 rfl (lv_at hl 2 rfl) ?_
  refine w_callv (va_runS (As := [.int (nI (k))]) (rest := []) ⟨hx, hb, hml, hown, hts⟩ (c_X4_checkBook l nW D cA ad hi hNW I J X H.size k (by omega)) (va_cwS 1 hts gX4_strike_X4_checkBook rfl rfl rfl (by decide +kernel) ⟨Nat.le_of_ble_eq_true rfl, Nat.le_of_ble_eq_true rfl⟩) (w_preS hK hP) rfl rfl hl.1 rfl (lv_room (Nat.le_of_ble_eq_true rfl)) dX4_strike_5 ⟨Nat.le_of_ble_eq_true rfl, Nat.le_of_ble_eq_true rfl⟩) hS (fun H locs hP hS => ?_)
  refine lv_aload_n hx hb dX4_strike_8 rfl (lv_at hl 0 rfl) ?_
  refine w_get (C := RX4) (T := TX4) (N := 7) (v := .ref (ad 1)) (index := 12) hx hb hts inX4_strike_X4 hown hK hP 0 0 ⟨rfl, rfl, by decide⟩ (by omega) rfl (List.mem_of_getElem? (i := 3) rfl) (fun _ h9 => h9) dX4_strike_9 ?_
  refine lv_iload_n hx hb dX4_strike_12 rfl (lv_at hl 1 rfl) ?_
  refine lv_iload_n hx hb dX4_strike_13 rfl (lv_at hl 2 rfl) ?_
  refine w_calli (va_runV (As := [.int (nI (r)), .int (nI (k))]) (rest := []) ⟨hx, hb, hml, hown, hts⟩ (c_X1_loanWeight l nW D cA ad hi hNW I J X H.size r k (by omega) (by omega)) (cwV 2 hts gX4_strike_X1_loanWeight rfl rfl rfl (by decide +kernel) ⟨Nat.le_of_ble_eq_true rfl, Nat.le_of_ble_eq_true rfl⟩) (w_preV hK hP 1 (by omega) ⟨rfl, rfl⟩ rfl) rfl rfl hl.1 rfl (lv_room (Nat.le_of_ble_eq_true rfl)) dX4_strike_14 ⟨Nat.le_of_ble_eq_true rfl, Nat.le_of_ble_eq_true rfl⟩) hS (fun H locs hP hS => ?_)
  refine lv_istore_n (lv' := [(3, .int (I (3 + r) k)), (0, .ref (ad 0)), (1, .int (nI (r))), (2, .int (nI (k)))]) hx hb dX4_strike_17 rfl hl (by decide) rfl (fun ls hl => ?_)
  refine lv_iload_n hx hb dX4_strike_18 rfl (lv_at hl 0 rfl) ?_
  refine lv_if_ne (tgt := 32) hx hb dX4_strike_19 (by decide) (fun c19 => ?_) (fun c19 => ?_)
  · exact absurd hz c19
  · obtain ⟨sa, hsa⟩ := hX.2.2.2.1
    exact w_throw (cls := eS) (ik := 81) (is := 83) (ic := 85) (sa := sa) hx hb hst hts hown hml hl.1 (by decide +kernel) (List.mem_of_getElem? (i := 1) rfl) (List.mem_of_getElem? (i := 2) rfl) hsa (fun w hw => by simp only [wsX4_strike, List.mem_cons, List.mem_append]; simp only [hw, true_or, or_true]) hX.2.2.1.2.2.2.2.2 (by decide +kernel) (by decide +kernel) hK hP hX hS dX4_strike_22 dX4_strike_25 dX4_strike_26 dX4_strike_28 dX4_strike_31 htab (Nat.le_of_ble_eq_true rfl) (Nat.le_of_ble_eq_true rfl) (Nat.le_of_ble_eq_true rfl) (Nat.le_of_ble_eq_true rfl) hlocks (Nat.le_of_ble_eq_true rfl) (Nat.le_of_ble_eq_true rfl)

theorem inX4_fade_X1 : ∀ w ∈ wsX10, w ∈ wsX4_fade := by decide +kernel
theorem inX4_fade_X3 : ∀ w ∈ wsX30, w ∈ wsX4_fade := by decide +kernel
theorem inX4_fade_X4 : ∀ w ∈ wsX40, w ∈ wsX4_fade := by decide +kernel
set_option maxHeartbeats 4000000 in
set_option maxRecDepth 100000 in
/-- X4_fade -/
theorem c_X4_fade (l : Launch) (nW : Nat) (D : va_G) (cA : Nat → ClassId) (ad : Nat → Nat) (hi : inj nW ad) (hNW : 102 ≤ nW) (I : SI) (J : SJ) (X : SX) (sz : Nat) (cn : Nat → Nat) (nb : Nat → Nat → Nat) (Is : Nat → SI) (Js : Nat → SJ) (h0 : tellI (hvOut I 4).1 = Is 0) (j0 : J = Js 0) (hM : MendOK cn nb Is Js) : Met l yX4_fade wsX4_fade ({ frames := 5, cells := 0, slots := 0, locals := 129 }) (va_Pc [.ref (ad 0)] (wPre nW D cA ad I J X sz)) (qI nW D cA ad sz ((hvOut I 4).2) (Is 4) (Js 4) X) 0 0 (fr nW ad sz) := by
  refine Met.ofW (cc := cX4_fade) (maxL := 2) (ret := (some .int)) (by decide) rfl ?_
  intro p e s m args below meth c s₁ B hml hv
  obtain ⟨rfl, rfl, hP, hK⟩ := hv
  have hx := B.exec
  have hb := B.bytes
  have hr := B.returns
  have hts := atoms_spec (ws := wsX4_fade) B.pre
  have hown : s.vm.findClass RX4 = some m.cls := findClass_of_methodNamed B.named
  have hlocks := B.notSynchronized
  have hS : va_S (fr nW ad s.heap.size) s.heap s.heap [] := va_S.rf
  have hA : ∀ k, k < nW → fr nW ad s.heap.size (ad k) := fr_ad
  have hl := lv_entry ([.ref (ad 0)]) (n := 2) (Nat.le_of_ble_eq_true rfl)
  rw [lg_entry_eq]
  generalize (lg_sl ([.ref (ad 0)]) ++ List.replicate (2 - (lg_sl ([.ref (ad 0)])).length) Slot.unset).toArray = ls at hl ⊢
  have hl : lv_has ls 2 [(0, .ref (ad 0))] := hl
  have hS0 := hS
  suffices K : ∀ (H : Heap) (locs : List Loc), WP nW D cA ad I J X H → va_S (fr nW ad s.heap.size) s.heap H locs → W p l e (headSpec wsX4_fade ({ frames := 5, cells := 0, slots := 0, locals := 129 })).room s m ([.ref (ad 0)] : List Value).toArray below meth c H locs 0 0 (MQ below (qI nW D cA ad s.heap.size ((hvOut I 4).2) (Is 4) (Js 4) X) ([.ref (ad 0)] : List Value).toArray s 0 0 (fr nW ad s.heap.size)) (F0 m 0 ls []) from K _ _ hP hS
  clear hP hS hS0
  intro H locs hP hS
  refine lv_aload_n hx hb dX4_fade_0 rfl (lv_at hl 0 rfl) ?_
  refine w_get (C := RX4) (T := TX4) (N := 7) (v := .ref (ad 1)) (index := 12) hx hb hts inX4_fade_X4 hown hK hP 0 0 ⟨rfl, rfl, by decide⟩ (by omega) rfl (List.mem_of_getElem? (i := 1) rfl) (fun _ h9 => h9) dX4_fade_1 ?_
  refine w_calli (va_runV (As := []) (rest := []) ⟨hx, hb, hml, hown, hts⟩ (c_X1_halveLoans l nW D cA ad hi hNW I J X H.size) (cwV 0 hts gX4_fade_X1_halveLoans rfl rfl rfl (by decide +kernel) ⟨Nat.le_of_ble_eq_true rfl, Nat.le_of_ble_eq_true rfl⟩) (w_preV hK hP 1 (by omega) ⟨rfl, rfl⟩ rfl) rfl rfl hl.1 rfl (lv_room (Nat.le_of_ble_eq_true rfl)) dX4_fade_4 ⟨Nat.le_of_ble_eq_true rfl, Nat.le_of_ble_eq_true rfl⟩) hS (fun H locs hP hS => ?_)
  refine lv_topi (fun x_1 ex_1 => ?_)
  refine lv_istore_n (lv' := [(1, .int (x_1)), (0, .ref (ad 0))]) hx hb dX4_fade_7 rfl hl (by decide) rfl (fun ls hl => ?_)
  refine lv_aload_n hx hb dX4_fade_8 rfl (lv_at hl 1 rfl) ?_
  refine w_callv (va_runV (As := []) (rest := []) ⟨hx, hb, hml, hown, hts⟩ (c_X4_mendWalks l nW D cA ad hi hNW (tellI (hvOut I 4).1) J X H.size cn nb Is Js (by subst_vars; exact h0) j0 hM) (cwV 0 hts gX4_fade_X4_mendWalks rfl rfl rfl (by decide +kernel) ⟨Nat.le_of_ble_eq_true rfl, Nat.le_of_ble_eq_true rfl⟩) (w_preV hK hP 0 (by omega) ⟨rfl, rfl⟩ rfl) rfl rfl hl.1 rfl (lv_room (Nat.le_of_ble_eq_true rfl)) dX4_fade_9 ⟨Nat.le_of_ble_eq_true rfl, Nat.le_of_ble_eq_true rfl⟩) hS (fun H locs hP hS => ?_)
  refine lv_iload_n hx hb dX4_fade_12 rfl (lv_at hl 0 rfl) ?_
  exact w_iret hx hb hr hlocks hK hP hS ⟨by subst_vars; rfl, by subst_vars; rfl, by subst_vars; rfl, by subst_vars; rfl⟩ dX4_fade_13

theorem inX4_bar_X1 : ∀ w ∈ wsX10, w ∈ wsX4_bar := by decide +kernel
theorem inX4_bar_X3 : ∀ w ∈ wsX30, w ∈ wsX4_bar := by decide +kernel
theorem inX4_bar_X4 : ∀ w ∈ wsX40, w ∈ wsX4_bar := by decide +kernel
set_option maxHeartbeats 4000000 in
set_option maxRecDepth 100000 in
/-- X4_bar -/
theorem c_X4_bar_ok (l : Launch) (nW : Nat) (D : va_G) (cA : Nat → ClassId) (ad : Nat → Nat) (hi : inj nW ad) (hNW : 102 ≤ nW) (I : SI) (J : SJ) (X : SX) (sz : Nat) (k : Nat) (hk5 : k < 5) (h : Int32) (hh : inF h 0 2 = 1) (cn : Nat → Nat) (nb : Nat → Nat → Nat) (Is : Nat → SI) (Js : Nat → SJ) (h0 : tellI (st2 I 7 k h) = Is 0) (j0 : J = Js 0) (hM : MendOK cn nb Is Js) : Met l yX4_bar wsX4_bar ({ frames := 5, cells := 0, slots := 0, locals := 129 }) (va_Pc [.ref (ad 0), .int (nI (k)), .int (h)] (wPre nW D cA ad I J X sz)) (qI nW D cA ad sz (I 7 k) (Is 4) (Js 4) X) 0 0 (fr nW ad sz) := by
  refine Met.ofW (cc := cX4_bar) (maxL := 4) (ret := (some .int)) (by decide) rfl ?_
  intro p e s m args below meth c s₁ B hml hv
  obtain ⟨rfl, rfl, hP, hK⟩ := hv
  have hx := B.exec
  have hb := B.bytes
  have hr := B.returns
  have hts := atoms_spec (ws := wsX4_bar) B.pre
  have hown : s.vm.findClass RX4 = some m.cls := findClass_of_methodNamed B.named
  have hlocks := B.notSynchronized
  have hS : va_S (fr nW ad s.heap.size) s.heap s.heap [] := va_S.rf
  have hA : ∀ k, k < nW → fr nW ad s.heap.size (ad k) := fr_ad
  have hl := lv_entry ([.ref (ad 0), .int (nI (k)), .int (h)]) (n := 4) (Nat.le_of_ble_eq_true rfl)
  rw [lg_entry_eq]
  generalize (lg_sl ([.ref (ad 0), .int (nI (k)), .int (h)]) ++ List.replicate (4 - (lg_sl ([.ref (ad 0), .int (nI (k)), .int (h)])).length) Slot.unset).toArray = ls at hl ⊢
  have hl : lv_has ls 4 [(0, .ref (ad 0)), (1, .int (nI (k))), (2, .int (h))] := hl
  have hS0 := hS
  suffices K : ∀ (H : Heap) (locs : List Loc), WP nW D cA ad I J X H → va_S (fr nW ad s.heap.size) s.heap H locs → W p l e (headSpec wsX4_bar ({ frames := 5, cells := 0, slots := 0, locals := 129 })).room s m ([.ref (ad 0), .int (nI (k)), .int (h)] : List Value).toArray below meth c H locs 0 0 (MQ below (qI nW D cA ad s.heap.size (I 7 k) (Is 4) (Js 4) X) ([.ref (ad 0), .int (nI (k)), .int (h)] : List Value).toArray s 0 0 (fr nW ad s.heap.size)) (F0 m 0 ls []) from K _ _ hP hS
  clear hP hS hS0
  intro H locs hP hS
  refine lv_iload_n hx hb dX4_bar_0 rfl (lv_at hl 1 rfl) ?_
  refine w_callv (va_runS (As := [.int (nI (k))]) (rest := []) ⟨hx, hb, hml, hown, hts⟩ (c_X4_checkBook l nW D cA ad hi hNW I J X H.size k (by omega)) (va_cwS 1 hts gX4_bar_X4_checkBook rfl rfl rfl (by decide +kernel) ⟨Nat.le_of_ble_eq_true rfl, Nat.le_of_ble_eq_true rfl⟩) (w_preS hK hP) rfl rfl hl.1 rfl (lv_room (Nat.le_of_ble_eq_true rfl)) dX4_bar_1 ⟨Nat.le_of_ble_eq_true rfl, Nat.le_of_ble_eq_true rfl⟩) hS (fun H locs hP hS => ?_)
  refine lv_iload_n hx hb dX4_bar_4 rfl (lv_at hl 2 rfl) ?_
  refine lv_iconst (v := 0) hx hb dX4_bar_5 (by decide) ?_
  refine lv_iconst (v := 2) hx hb dX4_bar_6 (by decide) ?_
  refine w_callv (va_runS (As := [.int (h), .int (0), .int (2)]) (rest := []) ⟨hx, hb, hml, hown, hts⟩ (c_X4_checkRange l nW D cA ad hi hNW I J X H.size h 0 2 hh) (va_cwS 3 hts gX4_bar_X4_checkRange rfl rfl rfl (by decide +kernel) ⟨Nat.le_of_ble_eq_true rfl, Nat.le_of_ble_eq_true rfl⟩) (w_preS hK hP) rfl rfl hl.1 rfl (lv_room (Nat.le_of_ble_eq_true rfl)) dX4_bar_7 ⟨Nat.le_of_ble_eq_true rfl, Nat.le_of_ble_eq_true rfl⟩) hS (fun H locs hP hS => ?_)
  refine lv_aload_n hx hb dX4_bar_10 rfl (lv_at hl 0 rfl) ?_
  refine w_get (C := RX4) (T := TX4) (N := 7) (v := .ref (ad 1)) (index := 12) hx hb hts inX4_bar_X4 hown hK hP 0 0 ⟨rfl, rfl, by decide⟩ (by omega) rfl (List.mem_of_getElem? (i := 1) rfl) (fun _ h9 => h9) dX4_bar_11 ?_
  refine lv_iload_n hx hb dX4_bar_14 rfl (lv_at hl 1 rfl) ?_
  refine w_calli (va_runV (As := [.int (nI (k))]) (rest := []) ⟨hx, hb, hml, hown, hts⟩ (c_X1_barOf l nW D cA ad hi hNW I J X H.size k (by omega)) (cwV 1 hts gX4_bar_X1_barOf rfl rfl rfl (by decide +kernel) ⟨Nat.le_of_ble_eq_true rfl, Nat.le_of_ble_eq_true rfl⟩) (w_preV hK hP 1 (by omega) ⟨rfl, rfl⟩ rfl) rfl rfl hl.1 rfl (lv_room (Nat.le_of_ble_eq_true rfl)) dX4_bar_15 ⟨Nat.le_of_ble_eq_true rfl, Nat.le_of_ble_eq_true rfl⟩) hS (fun H locs hP hS => ?_)
  refine lv_topi (fun x_1 ex_1 => ?_)
  refine lv_istore_n (lv' := [(3, .int (x_1)), (0, .ref (ad 0)), (1, .int (nI (k))), (2, .int (h))]) hx hb dX4_bar_18 rfl hl (by decide) rfl (fun ls hl => ?_)
  refine lv_aload_n hx hb dX4_bar_19 rfl (lv_at hl 1 rfl) ?_
  refine w_get (C := RX4) (T := TX4) (N := 7) (v := .ref (ad 1)) (index := 12) hx hb hts inX4_bar_X4 hown hK hP 0 0 ⟨rfl, rfl, by decide⟩ (by omega) rfl (List.mem_of_getElem? (i := 1) rfl) (fun _ h9 => h9) dX4_bar_20 ?_
  refine lv_iload_n hx hb dX4_bar_23 rfl (lv_at hl 2 rfl) ?_
  refine lv_iload_n hx hb dX4_bar_24 rfl (lv_at hl 3 rfl) ?_
  refine w_callv (va_runV (As := [.int (nI (k)), .int (h)]) (rest := []) ⟨hx, hb, hml, hown, hts⟩ (c_X1_setBar l nW D cA ad hi hNW I J X H.size k h (by omega)) (cwV 2 hts gX4_bar_X1_setBar rfl rfl rfl (by decide +kernel) ⟨Nat.le_of_ble_eq_true rfl, Nat.le_of_ble_eq_true rfl⟩) (w_preV hK hP 1 (by omega) ⟨rfl, rfl⟩ rfl) rfl rfl hl.1 rfl (lv_room (Nat.le_of_ble_eq_true rfl)) dX4_bar_25 ⟨Nat.le_of_ble_eq_true rfl, Nat.le_of_ble_eq_true rfl⟩) hS (fun H locs hP hS => ?_)
  refine lv_aload_n hx hb dX4_bar_28 rfl (lv_at hl 1 rfl) ?_
  refine w_callv (va_runV (As := []) (rest := []) ⟨hx, hb, hml, hown, hts⟩ (c_X4_mendWalks l nW D cA ad hi hNW (tellI (st2 I 7 k h)) J X H.size cn nb Is Js (by subst_vars; exact h0) j0 hM) (cwV 0 hts gX4_bar_X4_mendWalks rfl rfl rfl (by decide +kernel) ⟨Nat.le_of_ble_eq_true rfl, Nat.le_of_ble_eq_true rfl⟩) (w_preV hK hP 0 (by omega) ⟨rfl, rfl⟩ rfl) rfl rfl hl.1 rfl (lv_room (Nat.le_of_ble_eq_true rfl)) dX4_bar_29 ⟨Nat.le_of_ble_eq_true rfl, Nat.le_of_ble_eq_true rfl⟩) hS (fun H locs hP hS => ?_)
  refine lv_iload_n hx hb dX4_bar_32 rfl (lv_at hl 0 rfl) ?_
  exact w_iret hx hb hr hlocks hK hP hS ⟨by subst_vars; rfl, by subst_vars; rfl, by subst_vars; rfl, by subst_vars; rfl⟩ dX4_bar_33

set_option maxHeartbeats 4000000 in
set_option maxRecDepth 100000 in
/-- X4_bar throws -/
theorem x_X4_bar_1 (l : Launch) (hst : l.stackTraces = false) (nW : Nat) (D : va_G) (cA : Nat → ClassId) (ad : Nat → Nat) (hi : inj nW ad) (hNW : 102 ≤ nW) (I : SI) (J : SJ) (X : SX) (sz : Nat) (k h : Int32) (hp : inF k 0 4 = 0) : vx_Met l yX4_bar wsX4_bar ({ frames := 7, cells := 1, slots := 6, locals := 102 }) (va_Pc [.ref (ad 0), .int (k), .int (h)] (wPreX nW D cA ad I J X sz)) (nInt nW ad sz) (xT nW D cA ad sz eI I J X) 1 6 (fr nW ad sz) := by
  refine vx_ofW (cc := cX4_bar) (maxL := 4) (ret := (some .int)) (by decide) rfl ?_
  intro p e s m args below meth c s₁ B hml htab hv
  obtain ⟨rfl, ⟨rfl, hP, hK⟩, hX⟩ := hv
  have hx := B.exec
  have hb := B.bytes
  have hr := B.returns
  have hts := atoms_spec (ws := wsX4_bar) B.pre
  have hown : s.vm.findClass RX4 = some m.cls := findClass_of_methodNamed B.named
  have hlocks := B.notSynchronized
  have hS : va_S (fr nW ad s.heap.size) s.heap s.heap [] := va_S.rf
  have hA : ∀ k, k < nW → fr nW ad s.heap.size (ad k) := fr_ad
  have hl := lv_entry ([.ref (ad 0), .int (k), .int (h)]) (n := 4) (Nat.le_of_ble_eq_true rfl)
  rw [lg_entry_eq]
  generalize (lg_sl ([.ref (ad 0), .int (k), .int (h)]) ++ List.replicate (4 - (lg_sl ([.ref (ad 0), .int (k), .int (h)])).length) Slot.unset).toArray = ls at hl ⊢
  have hl : lv_has ls 4 [(0, .ref (ad 0)), (1, .int (k)), (2, .int (h))] := hl
  suffices K : ∀ (H : Heap) (locs : List Loc), WP nW D cA ad I J X H → va_S (fr nW ad s.heap.size) s.heap H locs → W p l e (headSpec wsX4_bar ({ frames := 7, cells := 1, slots := 6, locals := 102 })).room s m ([.ref (ad 0), .int (k), .int (h)] : List Value).toArray below meth c H locs 0 0 (vx_MQ below (nInt nW ad s.heap.size) (xT nW D cA ad s.heap.size eI I J X) ([.ref (ad 0), .int (k), .int (h)] : List Value).toArray s 1 6 (fr nW ad s.heap.size)) (F0 m 0 ls []) from K _ _ hP hS
  clear hP hS
  intro H locs hP hS
  refine lv_iload_n hx hb dX4_bar_0 rfl (lv_at hl 1 rfl) ?_
  exact w_callxV (vx_runS (As := [.int (k)]) (rest := []) ⟨hx, hb, hml, hown, hts⟩ (x_X4_checkBook l hst nW D cA ad hi hNW I J X H.size k hp) (va_cwS 1 hts gX4_bar_X4_checkBook rfl rfl rfl (by decide +kernel) ⟨Nat.le_of_ble_eq_true rfl, Nat.le_of_ble_eq_true rfl⟩) (w_preSX hK hP hX hS) rfl rfl hl.1 rfl (lv_room (Nat.le_of_ble_eq_true rfl)) dX4_bar_1 ⟨Nat.le_of_ble_eq_true rfl, Nat.le_of_ble_eq_true rfl⟩) hK hS htab hlocks (Nat.le_of_ble_eq_true rfl) (Nat.le_of_ble_eq_true rfl)

set_option maxHeartbeats 4000000 in
set_option maxRecDepth 100000 in
/-- X4_bar throws -/
theorem x_X4_bar_2 (l : Launch) (hst : l.stackTraces = false) (nW : Nat) (D : va_G) (cA : Nat → ClassId) (ad : Nat → Nat) (hi : inj nW ad) (hNW : 102 ≤ nW) (I : SI) (J : SJ) (X : SX) (sz : Nat) (k : Nat) (hk5 : k < 5) (h : Int32) (hp : inF h 0 2 = 0) : vx_Met l yX4_bar wsX4_bar ({ frames := 7, cells := 1, slots := 6, locals := 104 }) (va_Pc [.ref (ad 0), .int (nI (k)), .int (h)] (wPreX nW D cA ad I J X sz)) (nInt nW ad sz) (xT nW D cA ad sz eA I J X) 1 6 (fr nW ad sz) := by
  refine vx_ofW (cc := cX4_bar) (maxL := 4) (ret := (some .int)) (by decide) rfl ?_
  intro p e s m args below meth c s₁ B hml htab hv
  obtain ⟨rfl, ⟨rfl, hP, hK⟩, hX⟩ := hv
  have hx := B.exec
  have hb := B.bytes
  have hr := B.returns
  have hts := atoms_spec (ws := wsX4_bar) B.pre
  have hown : s.vm.findClass RX4 = some m.cls := findClass_of_methodNamed B.named
  have hlocks := B.notSynchronized
  have hS : va_S (fr nW ad s.heap.size) s.heap s.heap [] := va_S.rf
  have hA : ∀ k, k < nW → fr nW ad s.heap.size (ad k) := fr_ad
  have hl := lv_entry ([.ref (ad 0), .int (nI (k)), .int (h)]) (n := 4) (Nat.le_of_ble_eq_true rfl)
  rw [lg_entry_eq]
  generalize (lg_sl ([.ref (ad 0), .int (nI (k)), .int (h)]) ++ List.replicate (4 - (lg_sl ([.ref (ad 0), .int (nI (k)), .int (h)])).length) Slot.unset).toArray = ls at hl ⊢
  have hl : lv_has ls 4 [(0, .ref (ad 0)), (1, .int (nI (k))), (2, .int (h))] := hl
  suffices K : ∀ (H : Heap) (locs : List Loc), WP nW D cA ad I J X H → va_S (fr nW ad s.heap.size) s.heap H locs → W p l e (headSpec wsX4_bar ({ frames := 7, cells := 1, slots := 6, locals := 104 })).room s m ([.ref (ad 0), .int (nI (k)), .int (h)] : List Value).toArray below meth c H locs 0 0 (vx_MQ below (nInt nW ad s.heap.size) (xT nW D cA ad s.heap.size eA I J X) ([.ref (ad 0), .int (nI (k)), .int (h)] : List Value).toArray s 1 6 (fr nW ad s.heap.size)) (F0 m 0 ls []) from K _ _ hP hS
  clear hP hS
  intro H locs hP hS
  refine lv_iload_n hx hb dX4_bar_0 rfl (lv_at hl 1 rfl) ?_
  refine w_callv (va_runS (As := [.int (nI (k))]) (rest := []) ⟨hx, hb, hml, hown, hts⟩ (c_X4_checkBook l nW D cA ad hi hNW I J X H.size k (by omega)) (va_cwS 1 hts gX4_bar_X4_checkBook rfl rfl rfl (by decide +kernel) ⟨Nat.le_of_ble_eq_true rfl, Nat.le_of_ble_eq_true rfl⟩) (w_preS hK hP) rfl rfl hl.1 rfl (lv_room (Nat.le_of_ble_eq_true rfl)) dX4_bar_1 ⟨Nat.le_of_ble_eq_true rfl, Nat.le_of_ble_eq_true rfl⟩) hS (fun H locs hP hS => ?_)
  refine lv_iload_n hx hb dX4_bar_4 rfl (lv_at hl 2 rfl) ?_
  refine lv_iconst (v := 0) hx hb dX4_bar_5 (by decide) ?_
  refine lv_iconst (v := 2) hx hb dX4_bar_6 (by decide) ?_
  exact w_callxV (vx_runS (As := [.int (h), .int (0), .int (2)]) (rest := []) ⟨hx, hb, hml, hown, hts⟩ (x_X4_checkRange l hst nW D cA ad hi hNW I J X H.size h 0 2 hp) (va_cwS 3 hts gX4_bar_X4_checkRange rfl rfl rfl (by decide +kernel) ⟨Nat.le_of_ble_eq_true rfl, Nat.le_of_ble_eq_true rfl⟩) (w_preSX hK hP hX hS) rfl rfl hl.1 rfl (lv_room (Nat.le_of_ble_eq_true rfl)) dX4_bar_7 ⟨Nat.le_of_ble_eq_true rfl, Nat.le_of_ble_eq_true rfl⟩) hK hS htab hlocks (Nat.le_of_ble_eq_true rfl) (Nat.le_of_ble_eq_true rfl)

theorem inX4_walk_X1 : ∀ w ∈ wsX10, w ∈ wsX4_walk := by decide +kernel
theorem inX4_walk_X3 : ∀ w ∈ wsX30, w ∈ wsX4_walk := by decide +kernel
theorem inX4_walk_X4 : ∀ w ∈ wsX40, w ∈ wsX4_walk := by decide +kernel
set_option maxHeartbeats 4000000 in
set_option maxRecDepth 100000 in
/-- X4_walk -/
theorem c_X4_walk_ok (l : Launch) (nW : Nat) (D : va_G) (cA : Nat → ClassId) (ad : Nat → Nat) (hi : inj nW ad) (hNW : 102 ≤ nW) (I : SI) (J : SJ) (X : SX) (sz : Nat) (d b : Int32) (hd : inF d 50 90 = 1) (hbb : inF b 100 100000 = 1) (cn : Nat → Nat) (nb : Nat → Nat → Nat) (Is : Nat → SI) (Js : Nat → SJ) (h0 : st2 (st2 I 0 5 d) 0 6 b = Is 0) (j0 : J = Js 0) (hM : BeginOK cn nb Is Js) : Met l yX4_walk wsX4_walk ({ frames := 5, cells := 0, slots := 0, locals := 129 }) (va_Pc [.ref (ad 0), .int (d), .int (b)] (wPre nW D cA ad I J X sz)) (qV nW D cA ad sz (Is 4) (Js 4) X) 0 0 (fr nW ad sz) := by
  refine Met.ofW (cc := cX4_walk) (maxL := 3) (ret := none) (by decide) rfl ?_
  intro p e s m args below meth c s₁ B hml hv
  obtain ⟨rfl, rfl, hP, hK⟩ := hv
  have hx := B.exec
  have hb := B.bytes
  have hr := B.returns
  have hts := atoms_spec (ws := wsX4_walk) B.pre
  have hown : s.vm.findClass RX4 = some m.cls := findClass_of_methodNamed B.named
  have hlocks := B.notSynchronized
  have hS : va_S (fr nW ad s.heap.size) s.heap s.heap [] := va_S.rf
  have hA : ∀ k, k < nW → fr nW ad s.heap.size (ad k) := fr_ad
  have hl := lv_entry ([.ref (ad 0), .int (d), .int (b)]) (n := 3) (Nat.le_of_ble_eq_true rfl)
  rw [lg_entry_eq]
  generalize (lg_sl ([.ref (ad 0), .int (d), .int (b)]) ++ List.replicate (3 - (lg_sl ([.ref (ad 0), .int (d), .int (b)])).length) Slot.unset).toArray = ls at hl ⊢
  have hl : lv_has ls 3 [(0, .ref (ad 0)), (1, .int (d)), (2, .int (b))] := hl
  have hS0 := hS
  suffices K : ∀ (H : Heap) (locs : List Loc), WP nW D cA ad I J X H → va_S (fr nW ad s.heap.size) s.heap H locs → W p l e (headSpec wsX4_walk ({ frames := 5, cells := 0, slots := 0, locals := 129 })).room s m ([.ref (ad 0), .int (d), .int (b)] : List Value).toArray below meth c H locs 0 0 (MQ below (qV nW D cA ad s.heap.size (Is 4) (Js 4) X) ([.ref (ad 0), .int (d), .int (b)] : List Value).toArray s 0 0 (fr nW ad s.heap.size)) (F0 m 0 ls []) from K _ _ hP hS
  clear hP hS hS0
  intro H locs hP hS
  refine lv_iload_n hx hb dX4_walk_0 rfl (lv_at hl 1 rfl) ?_
  refine lv_bipush (v := 50) hx hb dX4_walk_1 (by decide) ?_
  refine lv_bipush (v := 90) hx hb dX4_walk_3 (by decide) ?_
  refine w_callv (va_runS (As := [.int (d), .int (50), .int (90)]) (rest := []) ⟨hx, hb, hml, hown, hts⟩ (c_X4_checkRange l nW D cA ad hi hNW I J X H.size d 50 90 hd) (va_cwS 3 hts gX4_walk_X4_checkRange rfl rfl rfl (by decide +kernel) ⟨Nat.le_of_ble_eq_true rfl, Nat.le_of_ble_eq_true rfl⟩) (w_preS hK hP) rfl rfl hl.1 rfl (lv_room (Nat.le_of_ble_eq_true rfl)) dX4_walk_5 ⟨Nat.le_of_ble_eq_true rfl, Nat.le_of_ble_eq_true rfl⟩) hS (fun H locs hP hS => ?_)
  refine lv_iload_n hx hb dX4_walk_8 rfl (lv_at hl 2 rfl) ?_
  refine lv_bipush (v := 100) hx hb dX4_walk_9 (by decide) ?_
  refine lv_ldc (v := 100000) hx hb hown (hts (.constant RX4 100 (100000)) (List.mem_of_getElem? (i := 1) rfl)) dX4_walk_11 ?_
  refine w_callv (va_runS (As := [.int (b), .int (100), .int (100000)]) (rest := []) ⟨hx, hb, hml, hown, hts⟩ (c_X4_checkRange l nW D cA ad hi hNW I J X H.size b 100 100000 hbb) (va_cwS 3 hts gX4_walk_X4_checkRange rfl rfl rfl (by decide +kernel) ⟨Nat.le_of_ble_eq_true rfl, Nat.le_of_ble_eq_true rfl⟩) (w_preS hK hP) rfl rfl hl.1 rfl (lv_room (Nat.le_of_ble_eq_true rfl)) dX4_walk_13 ⟨Nat.le_of_ble_eq_true rfl, Nat.le_of_ble_eq_true rfl⟩) hS (fun H locs hP hS => ?_)
  refine lv_aload_n hx hb dX4_walk_16 rfl (lv_at hl 0 rfl) ?_
  refine lv_iload_n hx hb dX4_walk_17 rfl (lv_at hl 1 rfl) ?_
  refine w_put (C := RX4) (T := TX4) (N := 7) (index := 43) (v := d) hx hb hts inX4_walk_X4 tyX4 tyX4_ok nmX4 hown hK hP hi hA hS 0 5 ⟨rfl, rfl, by decide⟩ (by omega) rfl (by exact (by decide : 5 < 7)) (List.mem_of_getElem? (i := 2) rfl) (fun _ h9 => h9) rfl (by decide +kernel) dX4_walk_18 (fun H locs hP hS => ?_)
  obtain ⟨I_1, eI_1⟩ : ∃ y, y = st2 I 0 5 (d) := ⟨_, rfl⟩
  have hP : WP nW D cA ad I_1 J X H := by rw [eI_1]; exact hP
  refine lv_aload_n hx hb dX4_walk_21 rfl (lv_at hl 0 rfl) ?_
  refine lv_iload_n hx hb dX4_walk_22 rfl (lv_at hl 2 rfl) ?_
  refine w_put (C := RX4) (T := TX4) (N := 7) (index := 47) (v := b) hx hb hts inX4_walk_X4 tyX4 tyX4_ok nmX4 hown hK hP hi hA hS 0 6 ⟨rfl, rfl, by decide⟩ (by omega) rfl (by exact (by decide : 6 < 7)) (List.mem_of_getElem? (i := 3) rfl) (fun _ h9 => h9) rfl (by decide +kernel) dX4_walk_23 (fun H locs hP hS => ?_)
  obtain ⟨I_2, eI_2⟩ : ∃ y, y = st2 I_1 0 6 (b) := ⟨_, rfl⟩
  have hP : WP nW D cA ad I_2 J X H := by rw [eI_2]; exact hP
  refine lv_aload_n hx hb dX4_walk_26 rfl (lv_at hl 0 rfl) ?_
  refine w_callv (va_runV (As := []) (rest := []) ⟨hx, hb, hml, hown, hts⟩ (c_X4_beginWalks l nW D cA ad hi hNW I_2 J X H.size cn nb Is Js (by subst_vars; exact h0) j0 hM) (cwV 0 hts gX4_walk_X4_beginWalks rfl rfl rfl (by decide +kernel) ⟨Nat.le_of_ble_eq_true rfl, Nat.le_of_ble_eq_true rfl⟩) (w_preV hK hP 0 (by omega) ⟨rfl, rfl⟩ rfl) rfl rfl hl.1 rfl (lv_room (Nat.le_of_ble_eq_true rfl)) dX4_walk_27 ⟨Nat.le_of_ble_eq_true rfl, Nat.le_of_ble_eq_true rfl⟩) hS (fun H locs hP hS => ?_)
  exact w_vret hx hb hr hlocks hK hP hS ⟨by subst_vars; rfl, by subst_vars; rfl, by subst_vars; rfl⟩ dX4_walk_30

set_option maxHeartbeats 4000000 in
set_option maxRecDepth 100000 in
/-- X4_walk throws -/
theorem x_X4_walk_1 (l : Launch) (hst : l.stackTraces = false) (nW : Nat) (D : va_G) (cA : Nat → ClassId) (ad : Nat → Nat) (hi : inj nW ad) (hNW : 102 ≤ nW) (I : SI) (J : SJ) (X : SX) (sz : Nat) (d b : Int32) (hp : inF d 50 90 = 0) : vx_Met l yX4_walk wsX4_walk ({ frames := 7, cells := 1, slots := 6, locals := 104 }) (va_Pc [.ref (ad 0), .int (d), .int (b)] (wPreX nW D cA ad I J X sz)) (nV nW ad sz) (xT nW D cA ad sz eA I J X) 1 6 (fr nW ad sz) := by
  refine vx_ofW (cc := cX4_walk) (maxL := 3) (ret := none) (by decide) rfl ?_
  intro p e s m args below meth c s₁ B hml htab hv
  obtain ⟨rfl, ⟨rfl, hP, hK⟩, hX⟩ := hv
  have hx := B.exec
  have hb := B.bytes
  have hr := B.returns
  have hts := atoms_spec (ws := wsX4_walk) B.pre
  have hown : s.vm.findClass RX4 = some m.cls := findClass_of_methodNamed B.named
  have hlocks := B.notSynchronized
  have hS : va_S (fr nW ad s.heap.size) s.heap s.heap [] := va_S.rf
  have hA : ∀ k, k < nW → fr nW ad s.heap.size (ad k) := fr_ad
  have hl := lv_entry ([.ref (ad 0), .int (d), .int (b)]) (n := 3) (Nat.le_of_ble_eq_true rfl)
  rw [lg_entry_eq]
  generalize (lg_sl ([.ref (ad 0), .int (d), .int (b)]) ++ List.replicate (3 - (lg_sl ([.ref (ad 0), .int (d), .int (b)])).length) Slot.unset).toArray = ls at hl ⊢
  have hl : lv_has ls 3 [(0, .ref (ad 0)), (1, .int (d)), (2, .int (b))] := hl
  suffices K : ∀ (H : Heap) (locs : List Loc), WP nW D cA ad I J X H → va_S (fr nW ad s.heap.size) s.heap H locs → W p l e (headSpec wsX4_walk ({ frames := 7, cells := 1, slots := 6, locals := 104 })).room s m ([.ref (ad 0), .int (d), .int (b)] : List Value).toArray below meth c H locs 0 0 (vx_MQ below (nV nW ad s.heap.size) (xT nW D cA ad s.heap.size eA I J X) ([.ref (ad 0), .int (d), .int (b)] : List Value).toArray s 1 6 (fr nW ad s.heap.size)) (F0 m 0 ls []) from K _ _ hP hS
  clear hP hS
  intro H locs hP hS
  refine lv_iload_n hx hb dX4_walk_0 rfl (lv_at hl 1 rfl) ?_
  refine lv_bipush (v := 50) hx hb dX4_walk_1 (by decide) ?_
  refine lv_bipush (v := 90) hx hb dX4_walk_3 (by decide) ?_
  exact w_callxV (vx_runS (As := [.int (d), .int (50), .int (90)]) (rest := []) ⟨hx, hb, hml, hown, hts⟩ (x_X4_checkRange l hst nW D cA ad hi hNW I J X H.size d 50 90 hp) (va_cwS 3 hts gX4_walk_X4_checkRange rfl rfl rfl (by decide +kernel) ⟨Nat.le_of_ble_eq_true rfl, Nat.le_of_ble_eq_true rfl⟩) (w_preSX hK hP hX hS) rfl rfl hl.1 rfl (lv_room (Nat.le_of_ble_eq_true rfl)) dX4_walk_5 ⟨Nat.le_of_ble_eq_true rfl, Nat.le_of_ble_eq_true rfl⟩) hK hS htab hlocks (Nat.le_of_ble_eq_true rfl) (Nat.le_of_ble_eq_true rfl)

set_option maxHeartbeats 4000000 in
set_option maxRecDepth 100000 in
/-- X4_walk throws -/
theorem x_X4_walk_2 (l : Launch) (hst : l.stackTraces = false) (nW : Nat) (D : va_G) (cA : Nat → ClassId) (ad : Nat → Nat) (hi : inj nW ad) (hNW : 102 ≤ nW) (I : SI) (J : SJ) (X : SX) (sz : Nat) (d b : Int32) (hd : inF d 50 90 = 1) (hp : inF b 100 100000 = 0) : vx_Met l yX4_walk wsX4_walk ({ frames := 7, cells := 1, slots := 6, locals := 104 }) (va_Pc [.ref (ad 0), .int (d), .int (b)] (wPreX nW D cA ad I J X sz)) (nV nW ad sz) (xT nW D cA ad sz eA I J X) 1 6 (fr nW ad sz) := by
  refine vx_ofW (cc := cX4_walk) (maxL := 3) (ret := none) (by decide) rfl ?_
  intro p e s m args below meth c s₁ B hml htab hv
  obtain ⟨rfl, ⟨rfl, hP, hK⟩, hX⟩ := hv
  have hx := B.exec
  have hb := B.bytes
  have hr := B.returns
  have hts := atoms_spec (ws := wsX4_walk) B.pre
  have hown : s.vm.findClass RX4 = some m.cls := findClass_of_methodNamed B.named
  have hlocks := B.notSynchronized
  have hS : va_S (fr nW ad s.heap.size) s.heap s.heap [] := va_S.rf
  have hA : ∀ k, k < nW → fr nW ad s.heap.size (ad k) := fr_ad
  have hl := lv_entry ([.ref (ad 0), .int (d), .int (b)]) (n := 3) (Nat.le_of_ble_eq_true rfl)
  rw [lg_entry_eq]
  generalize (lg_sl ([.ref (ad 0), .int (d), .int (b)]) ++ List.replicate (3 - (lg_sl ([.ref (ad 0), .int (d), .int (b)])).length) Slot.unset).toArray = ls at hl ⊢
  have hl : lv_has ls 3 [(0, .ref (ad 0)), (1, .int (d)), (2, .int (b))] := hl
  suffices K : ∀ (H : Heap) (locs : List Loc), WP nW D cA ad I J X H → va_S (fr nW ad s.heap.size) s.heap H locs → W p l e (headSpec wsX4_walk ({ frames := 7, cells := 1, slots := 6, locals := 104 })).room s m ([.ref (ad 0), .int (d), .int (b)] : List Value).toArray below meth c H locs 0 0 (vx_MQ below (nV nW ad s.heap.size) (xT nW D cA ad s.heap.size eA I J X) ([.ref (ad 0), .int (d), .int (b)] : List Value).toArray s 1 6 (fr nW ad s.heap.size)) (F0 m 0 ls []) from K _ _ hP hS
  clear hP hS
  intro H locs hP hS
  refine lv_iload_n hx hb dX4_walk_0 rfl (lv_at hl 1 rfl) ?_
  refine lv_bipush (v := 50) hx hb dX4_walk_1 (by decide) ?_
  refine lv_bipush (v := 90) hx hb dX4_walk_3 (by decide) ?_
  refine w_callv (va_runS (As := [.int (d), .int (50), .int (90)]) (rest := []) ⟨hx, hb, hml, hown, hts⟩ (c_X4_checkRange l nW D cA ad hi hNW I J X H.size d 50 90 hd) (va_cwS 3 hts gX4_walk_X4_checkRange rfl rfl rfl (by decide +kernel) ⟨Nat.le_of_ble_eq_true rfl, Nat.le_of_ble_eq_true rfl⟩) (w_preS hK hP) rfl rfl hl.1 rfl (lv_room (Nat.le_of_ble_eq_true rfl)) dX4_walk_5 ⟨Nat.le_of_ble_eq_true rfl, Nat.le_of_ble_eq_true rfl⟩) hS (fun H locs hP hS => ?_)
  refine lv_iload_n hx hb dX4_walk_8 rfl (lv_at hl 2 rfl) ?_
  refine lv_bipush (v := 100) hx hb dX4_walk_9 (by decide) ?_
  refine lv_ldc (v := 100000) hx hb hown (hts (.constant RX4 100 (100000)) (List.mem_of_getElem? (i := 1) rfl)) dX4_walk_11 ?_
  exact w_callxV (vx_runS (As := [.int (b), .int (100), .int (100000)]) (rest := []) ⟨hx, hb, hml, hown, hts⟩ (x_X4_checkRange l hst nW D cA ad hi hNW I J X H.size b 100 100000 hp) (va_cwS 3 hts gX4_walk_X4_checkRange rfl rfl rfl (by decide +kernel) ⟨Nat.le_of_ble_eq_true rfl, Nat.le_of_ble_eq_true rfl⟩) (w_preSX hK hP hX hS) rfl rfl hl.1 rfl (lv_room (Nat.le_of_ble_eq_true rfl)) dX4_walk_13 ⟨Nat.le_of_ble_eq_true rfl, Nat.le_of_ble_eq_true rfl⟩) hK hS htab hlocks (Nat.le_of_ble_eq_true rfl) (Nat.le_of_ble_eq_true rfl)

theorem inX4_landed_X3 : ∀ w ∈ wsX30, w ∈ wsX4_landed := by decide +kernel
theorem inX4_landed_X4 : ∀ w ∈ wsX40, w ∈ wsX4_landed := by decide +kernel
set_option maxHeartbeats 4000000 in
set_option maxRecDepth 100000 in
/-- X4_landed -/
theorem c_X4_landed_ok (l : Launch) (nW : Nat) (D : va_G) (cA : Nat → ClassId) (ad : Nat → Nat) (hi : inj nW ad) (hNW : 102 ≤ nW) (I : SI) (J : SJ) (X : SX) (sz : Nat) (r n : Nat) (hr4 : r < 4) (hn9 : n < 9) : Met l yX4_landed wsX4_landed ({ frames := 1, cells := 0, slots := 0, locals := 21 }) (va_Pc [.ref (ad 0), .int (nI (r)), .int (nI (n))] (wPre nW D cA ad I J X sz)) (qI nW D cA ad sz ((J (35 + r) n).toInt32) I J X) 0 0 (fr nW ad sz) := by
  refine Met.ofW (cc := cX4_landed) (maxL := 3) (ret := (some .int)) (by decide) rfl ?_
  intro p e s m args below meth c s₁ B hml hv
  obtain ⟨rfl, rfl, hP, hK⟩ := hv
  have hx := B.exec
  have hb := B.bytes
  have hr := B.returns
  have hts := atoms_spec (ws := wsX4_landed) B.pre
  have hown : s.vm.findClass RX4 = some m.cls := findClass_of_methodNamed B.named
  have hlocks := B.notSynchronized
  have hS : va_S (fr nW ad s.heap.size) s.heap s.heap [] := va_S.rf
  have hA : ∀ k, k < nW → fr nW ad s.heap.size (ad k) := fr_ad
  have hl := lv_entry ([.ref (ad 0), .int (nI (r)), .int (nI (n))]) (n := 3) (Nat.le_of_ble_eq_true rfl)
  rw [lg_entry_eq]
  generalize (lg_sl ([.ref (ad 0), .int (nI (r)), .int (nI (n))]) ++ List.replicate (3 - (lg_sl ([.ref (ad 0), .int (nI (r)), .int (nI (n))])).length) Slot.unset).toArray = ls at hl ⊢
  have hl : lv_has ls 3 [(0, .ref (ad 0)), (1, .int (nI (r))), (2, .int (nI (n)))] := hl
  have hS0 := hS
  suffices K : ∀ (H : Heap) (locs : List Loc), WP nW D cA ad I J X H → va_S (fr nW ad s.heap.size) s.heap H locs → W p l e (headSpec wsX4_landed ({ frames := 1, cells := 0, slots := 0, locals := 21 })).room s m ([.ref (ad 0), .int (nI (r)), .int (nI (n))] : List Value).toArray below meth c H locs 0 0 (MQ below (qI nW D cA ad s.heap.size ((J (35 + r) n).toInt32) I J X) ([.ref (ad 0), .int (nI (r)), .int (nI (n))] : List Value).toArray s 0 0 (fr nW ad s.heap.size)) (F0 m 0 ls []) from K _ _ hP hS
  clear hP hS hS0
  intro H locs hP hS
  refine lv_iload_n hx hb dX4_landed_0 rfl (lv_at hl 1 rfl) ?_
  refine w_callv (va_runS (As := [.int (nI (r))]) (rest := []) ⟨hx, hb, hml, hown, hts⟩ (c_X4_checkReader l nW D cA ad hi hNW I J X H.size r (by omega)) (va_cwS 1 hts gX4_landed_X4_checkReader rfl rfl rfl (by decide +kernel) ⟨Nat.le_of_ble_eq_true rfl, Nat.le_of_ble_eq_true rfl⟩) (w_preS hK hP) rfl rfl hl.1 rfl (lv_room (Nat.le_of_ble_eq_true rfl)) dX4_landed_1 ⟨Nat.le_of_ble_eq_true rfl, Nat.le_of_ble_eq_true rfl⟩) hS (fun H locs hP hS => ?_)
  refine lv_iload_n hx hb dX4_landed_4 rfl (lv_at hl 2 rfl) ?_
  refine w_callv (va_runS (As := [.int (nI (n))]) (rest := []) ⟨hx, hb, hml, hown, hts⟩ (c_X4_checkNode l nW D cA ad hi hNW I J X H.size n (by omega)) (va_cwS 1 hts gX4_landed_X4_checkNode rfl rfl rfl (by decide +kernel) ⟨Nat.le_of_ble_eq_true rfl, Nat.le_of_ble_eq_true rfl⟩) (w_preS hK hP) rfl rfl hl.1 rfl (lv_room (Nat.le_of_ble_eq_true rfl)) dX4_landed_5 ⟨Nat.le_of_ble_eq_true rfl, Nat.le_of_ble_eq_true rfl⟩) hS (fun H locs hP hS => ?_)
  refine lv_aload_n hx hb dX4_landed_8 rfl (lv_at hl 0 rfl) ?_
  refine w_get (C := RX4) (T := TX4) (N := 7) (v := .ref (ad 30)) (index := 18) hx hb hts inX4_landed_X4 hown hK hP 0 1 ⟨rfl, rfl, by decide⟩ (by omega) rfl (List.mem_of_getElem? (i := 1) rfl) (fun _ h9 => h9) dX4_landed_9 ?_
  refine lv_iload_n hx hb dX4_landed_12 rfl (lv_at hl 1 rfl) ?_
  refine w_aald hx hb hK hP 30 (r) 31 7 ⟨rfl, (by show r < 4; omega), rfl, rfl, by decide, by decide⟩ (by omega) rfl dX4_landed_13 ?_
  refine lv_iload_n hx hb dX4_landed_14 rfl (lv_at hl 2 rfl) ?_
  refine w_calll (va_runV (As := [.int (nI (n))]) (rest := []) ⟨hx, hb, hml, hown, hts⟩ (c_X3_landedAt l nW D cA ad hi hNW I J X H.size r n (by omega) (by omega)) (cwV 1 hts gX4_landed_X3_landedAt rfl rfl rfl (by decide +kernel) ⟨Nat.le_of_ble_eq_true rfl, Nat.le_of_ble_eq_true rfl⟩) (w_preV hK hP (31 + r) (by omega) (k_walk (by omega)) rfl) rfl rfl hl.1 rfl (lv_room (Nat.le_of_ble_eq_true rfl)) dX4_landed_15 ⟨Nat.le_of_ble_eq_true rfl, Nat.le_of_ble_eq_true rfl⟩) hS (fun H locs hP hS => ?_)
  refine lv_l2i (v := (J (35 + r) n).toInt32) hx hb dX4_landed_18 rfl ?_
  exact w_iret hx hb hr hlocks hK hP hS ⟨by subst_vars; rfl, by subst_vars; rfl, by subst_vars; rfl, by subst_vars; rfl⟩ dX4_landed_19

set_option maxHeartbeats 4000000 in
set_option maxRecDepth 100000 in
/-- X4_landed throws -/
theorem x_X4_landed_1 (l : Launch) (hst : l.stackTraces = false) (nW : Nat) (D : va_G) (cA : Nat → ClassId) (ad : Nat → Nat) (hi : inj nW ad) (hNW : 102 ≤ nW) (I : SI) (J : SJ) (X : SX) (sz : Nat) (r n : Int32) (hp : inF r 0 3 = 0) : vx_Met l yX4_landed wsX4_landed ({ frames := 7, cells := 1, slots := 6, locals := 102 }) (va_Pc [.ref (ad 0), .int (r), .int (n)] (wPreX nW D cA ad I J X sz)) (nInt nW ad sz) (xT nW D cA ad sz eI I J X) 1 6 (fr nW ad sz) := by
  refine vx_ofW (cc := cX4_landed) (maxL := 3) (ret := (some .int)) (by decide) rfl ?_
  intro p e s m args below meth c s₁ B hml htab hv
  obtain ⟨rfl, ⟨rfl, hP, hK⟩, hX⟩ := hv
  have hx := B.exec
  have hb := B.bytes
  have hr := B.returns
  have hts := atoms_spec (ws := wsX4_landed) B.pre
  have hown : s.vm.findClass RX4 = some m.cls := findClass_of_methodNamed B.named
  have hlocks := B.notSynchronized
  have hS : va_S (fr nW ad s.heap.size) s.heap s.heap [] := va_S.rf
  have hA : ∀ k, k < nW → fr nW ad s.heap.size (ad k) := fr_ad
  have hl := lv_entry ([.ref (ad 0), .int (r), .int (n)]) (n := 3) (Nat.le_of_ble_eq_true rfl)
  rw [lg_entry_eq]
  generalize (lg_sl ([.ref (ad 0), .int (r), .int (n)]) ++ List.replicate (3 - (lg_sl ([.ref (ad 0), .int (r), .int (n)])).length) Slot.unset).toArray = ls at hl ⊢
  have hl : lv_has ls 3 [(0, .ref (ad 0)), (1, .int (r)), (2, .int (n))] := hl
  suffices K : ∀ (H : Heap) (locs : List Loc), WP nW D cA ad I J X H → va_S (fr nW ad s.heap.size) s.heap H locs → W p l e (headSpec wsX4_landed ({ frames := 7, cells := 1, slots := 6, locals := 102 })).room s m ([.ref (ad 0), .int (r), .int (n)] : List Value).toArray below meth c H locs 0 0 (vx_MQ below (nInt nW ad s.heap.size) (xT nW D cA ad s.heap.size eI I J X) ([.ref (ad 0), .int (r), .int (n)] : List Value).toArray s 1 6 (fr nW ad s.heap.size)) (F0 m 0 ls []) from K _ _ hP hS
  clear hP hS
  intro H locs hP hS
  refine lv_iload_n hx hb dX4_landed_0 rfl (lv_at hl 1 rfl) ?_
  exact w_callxV (vx_runS (As := [.int (r)]) (rest := []) ⟨hx, hb, hml, hown, hts⟩ (x_X4_checkReader l hst nW D cA ad hi hNW I J X H.size r hp) (va_cwS 1 hts gX4_landed_X4_checkReader rfl rfl rfl (by decide +kernel) ⟨Nat.le_of_ble_eq_true rfl, Nat.le_of_ble_eq_true rfl⟩) (w_preSX hK hP hX hS) rfl rfl hl.1 rfl (lv_room (Nat.le_of_ble_eq_true rfl)) dX4_landed_1 ⟨Nat.le_of_ble_eq_true rfl, Nat.le_of_ble_eq_true rfl⟩) hK hS htab hlocks (Nat.le_of_ble_eq_true rfl) (Nat.le_of_ble_eq_true rfl)

set_option maxHeartbeats 4000000 in
set_option maxRecDepth 100000 in
/-- X4_landed throws -/
theorem x_X4_landed_2 (l : Launch) (hst : l.stackTraces = false) (nW : Nat) (D : va_G) (cA : Nat → ClassId) (ad : Nat → Nat) (hi : inj nW ad) (hNW : 102 ≤ nW) (I : SI) (J : SJ) (X : SX) (sz : Nat) (r : Nat) (hr4 : r < 4) (n : Int32) (hp : inF n 0 8 = 0) : vx_Met l yX4_landed wsX4_landed ({ frames := 7, cells := 1, slots := 6, locals := 102 }) (va_Pc [.ref (ad 0), .int (nI (r)), .int (n)] (wPreX nW D cA ad I J X sz)) (nInt nW ad sz) (xT nW D cA ad sz eI I J X) 1 6 (fr nW ad sz) := by
  refine vx_ofW (cc := cX4_landed) (maxL := 3) (ret := (some .int)) (by decide) rfl ?_
  intro p e s m args below meth c s₁ B hml htab hv
  obtain ⟨rfl, ⟨rfl, hP, hK⟩, hX⟩ := hv
  have hx := B.exec
  have hb := B.bytes
  have hr := B.returns
  have hts := atoms_spec (ws := wsX4_landed) B.pre
  have hown : s.vm.findClass RX4 = some m.cls := findClass_of_methodNamed B.named
  have hlocks := B.notSynchronized
  have hS : va_S (fr nW ad s.heap.size) s.heap s.heap [] := va_S.rf
  have hA : ∀ k, k < nW → fr nW ad s.heap.size (ad k) := fr_ad
  have hl := lv_entry ([.ref (ad 0), .int (nI (r)), .int (n)]) (n := 3) (Nat.le_of_ble_eq_true rfl)
  rw [lg_entry_eq]
  generalize (lg_sl ([.ref (ad 0), .int (nI (r)), .int (n)]) ++ List.replicate (3 - (lg_sl ([.ref (ad 0), .int (nI (r)), .int (n)])).length) Slot.unset).toArray = ls at hl ⊢
  have hl : lv_has ls 3 [(0, .ref (ad 0)), (1, .int (nI (r))), (2, .int (n))] := hl
  suffices K : ∀ (H : Heap) (locs : List Loc), WP nW D cA ad I J X H → va_S (fr nW ad s.heap.size) s.heap H locs → W p l e (headSpec wsX4_landed ({ frames := 7, cells := 1, slots := 6, locals := 102 })).room s m ([.ref (ad 0), .int (nI (r)), .int (n)] : List Value).toArray below meth c H locs 0 0 (vx_MQ below (nInt nW ad s.heap.size) (xT nW D cA ad s.heap.size eI I J X) ([.ref (ad 0), .int (nI (r)), .int (n)] : List Value).toArray s 1 6 (fr nW ad s.heap.size)) (F0 m 0 ls []) from K _ _ hP hS
  clear hP hS
  intro H locs hP hS
  refine lv_iload_n hx hb dX4_landed_0 rfl (lv_at hl 1 rfl) ?_
  refine w_callv (va_runS (As := [.int (nI (r))]) (rest := []) ⟨hx, hb, hml, hown, hts⟩ (c_X4_checkReader l nW D cA ad hi hNW I J X H.size r (by omega)) (va_cwS 1 hts gX4_landed_X4_checkReader rfl rfl rfl (by decide +kernel) ⟨Nat.le_of_ble_eq_true rfl, Nat.le_of_ble_eq_true rfl⟩) (w_preS hK hP) rfl rfl hl.1 rfl (lv_room (Nat.le_of_ble_eq_true rfl)) dX4_landed_1 ⟨Nat.le_of_ble_eq_true rfl, Nat.le_of_ble_eq_true rfl⟩) hS (fun H locs hP hS => ?_)
  refine lv_iload_n hx hb dX4_landed_4 rfl (lv_at hl 2 rfl) ?_
  exact w_callxV (vx_runS (As := [.int (n)]) (rest := []) ⟨hx, hb, hml, hown, hts⟩ (x_X4_checkNode l hst nW D cA ad hi hNW I J X H.size n hp) (va_cwS 1 hts gX4_landed_X4_checkNode rfl rfl rfl (by decide +kernel) ⟨Nat.le_of_ble_eq_true rfl, Nat.le_of_ble_eq_true rfl⟩) (w_preSX hK hP hX hS) rfl rfl hl.1 rfl (lv_room (Nat.le_of_ble_eq_true rfl)) dX4_landed_5 ⟨Nat.le_of_ble_eq_true rfl, Nat.le_of_ble_eq_true rfl⟩) hK hS htab hlocks (Nat.le_of_ble_eq_true rfl) (Nat.le_of_ble_eq_true rfl)

theorem inX4_rest_X3 : ∀ w ∈ wsX30, w ∈ wsX4_rest := by decide +kernel
theorem inX4_rest_X4 : ∀ w ∈ wsX40, w ∈ wsX4_rest := by decide +kernel
set_option maxHeartbeats 4000000 in
set_option maxRecDepth 100000 in
/-- X4_rest -/
theorem c_X4_rest_ok (l : Launch) (nW : Nat) (D : va_G) (cA : Nat → ClassId) (ad : Nat → Nat) (hi : inj nW ad) (hNW : 102 ≤ nW) (I : SI) (J : SJ) (X : SX) (sz : Nat) (r n : Nat) (hr4 : r < 4) (hn9 : n < 9) : Met l yX4_rest wsX4_rest ({ frames := 1, cells := 0, slots := 0, locals := 21 }) (va_Pc [.ref (ad 0), .int (nI (r)), .int (nI (n))] (wPre nW D cA ad I J X sz)) (qI nW D cA ad sz ((J (39 + r) n).toInt32) I J X) 0 0 (fr nW ad sz) := by
  refine Met.ofW (cc := cX4_rest) (maxL := 3) (ret := (some .int)) (by decide) rfl ?_
  intro p e s m args below meth c s₁ B hml hv
  obtain ⟨rfl, rfl, hP, hK⟩ := hv
  have hx := B.exec
  have hb := B.bytes
  have hr := B.returns
  have hts := atoms_spec (ws := wsX4_rest) B.pre
  have hown : s.vm.findClass RX4 = some m.cls := findClass_of_methodNamed B.named
  have hlocks := B.notSynchronized
  have hS : va_S (fr nW ad s.heap.size) s.heap s.heap [] := va_S.rf
  have hA : ∀ k, k < nW → fr nW ad s.heap.size (ad k) := fr_ad
  have hl := lv_entry ([.ref (ad 0), .int (nI (r)), .int (nI (n))]) (n := 3) (Nat.le_of_ble_eq_true rfl)
  rw [lg_entry_eq]
  generalize (lg_sl ([.ref (ad 0), .int (nI (r)), .int (nI (n))]) ++ List.replicate (3 - (lg_sl ([.ref (ad 0), .int (nI (r)), .int (nI (n))])).length) Slot.unset).toArray = ls at hl ⊢
  have hl : lv_has ls 3 [(0, .ref (ad 0)), (1, .int (nI (r))), (2, .int (nI (n)))] := hl
  have hS0 := hS
  suffices K : ∀ (H : Heap) (locs : List Loc), WP nW D cA ad I J X H → va_S (fr nW ad s.heap.size) s.heap H locs → W p l e (headSpec wsX4_rest ({ frames := 1, cells := 0, slots := 0, locals := 21 })).room s m ([.ref (ad 0), .int (nI (r)), .int (nI (n))] : List Value).toArray below meth c H locs 0 0 (MQ below (qI nW D cA ad s.heap.size ((J (39 + r) n).toInt32) I J X) ([.ref (ad 0), .int (nI (r)), .int (nI (n))] : List Value).toArray s 0 0 (fr nW ad s.heap.size)) (F0 m 0 ls []) from K _ _ hP hS
  clear hP hS hS0
  intro H locs hP hS
  refine lv_iload_n hx hb dX4_rest_0 rfl (lv_at hl 1 rfl) ?_
  refine w_callv (va_runS (As := [.int (nI (r))]) (rest := []) ⟨hx, hb, hml, hown, hts⟩ (c_X4_checkReader l nW D cA ad hi hNW I J X H.size r (by omega)) (va_cwS 1 hts gX4_rest_X4_checkReader rfl rfl rfl (by decide +kernel) ⟨Nat.le_of_ble_eq_true rfl, Nat.le_of_ble_eq_true rfl⟩) (w_preS hK hP) rfl rfl hl.1 rfl (lv_room (Nat.le_of_ble_eq_true rfl)) dX4_rest_1 ⟨Nat.le_of_ble_eq_true rfl, Nat.le_of_ble_eq_true rfl⟩) hS (fun H locs hP hS => ?_)
  refine lv_iload_n hx hb dX4_rest_4 rfl (lv_at hl 2 rfl) ?_
  refine w_callv (va_runS (As := [.int (nI (n))]) (rest := []) ⟨hx, hb, hml, hown, hts⟩ (c_X4_checkNode l nW D cA ad hi hNW I J X H.size n (by omega)) (va_cwS 1 hts gX4_rest_X4_checkNode rfl rfl rfl (by decide +kernel) ⟨Nat.le_of_ble_eq_true rfl, Nat.le_of_ble_eq_true rfl⟩) (w_preS hK hP) rfl rfl hl.1 rfl (lv_room (Nat.le_of_ble_eq_true rfl)) dX4_rest_5 ⟨Nat.le_of_ble_eq_true rfl, Nat.le_of_ble_eq_true rfl⟩) hS (fun H locs hP hS => ?_)
  refine lv_aload_n hx hb dX4_rest_8 rfl (lv_at hl 0 rfl) ?_
  refine w_get (C := RX4) (T := TX4) (N := 7) (v := .ref (ad 30)) (index := 18) hx hb hts inX4_rest_X4 hown hK hP 0 1 ⟨rfl, rfl, by decide⟩ (by omega) rfl (List.mem_of_getElem? (i := 1) rfl) (fun _ h9 => h9) dX4_rest_9 ?_
  refine lv_iload_n hx hb dX4_rest_12 rfl (lv_at hl 1 rfl) ?_
  refine w_aald hx hb hK hP 30 (r) 31 7 ⟨rfl, (by show r < 4; omega), rfl, rfl, by decide, by decide⟩ (by omega) rfl dX4_rest_13 ?_
  refine lv_iload_n hx hb dX4_rest_14 rfl (lv_at hl 2 rfl) ?_
  refine w_calll (va_runV (As := [.int (nI (n))]) (rest := []) ⟨hx, hb, hml, hown, hts⟩ (c_X3_restOf l nW D cA ad hi hNW I J X H.size r n (by omega) (by omega)) (cwV 1 hts gX4_rest_X3_restOf rfl rfl rfl (by decide +kernel) ⟨Nat.le_of_ble_eq_true rfl, Nat.le_of_ble_eq_true rfl⟩) (w_preV hK hP (31 + r) (by omega) (k_walk (by omega)) rfl) rfl rfl hl.1 rfl (lv_room (Nat.le_of_ble_eq_true rfl)) dX4_rest_15 ⟨Nat.le_of_ble_eq_true rfl, Nat.le_of_ble_eq_true rfl⟩) hS (fun H locs hP hS => ?_)
  refine lv_l2i (v := (J (39 + r) n).toInt32) hx hb dX4_rest_18 rfl ?_
  exact w_iret hx hb hr hlocks hK hP hS ⟨by subst_vars; rfl, by subst_vars; rfl, by subst_vars; rfl, by subst_vars; rfl⟩ dX4_rest_19

set_option maxHeartbeats 4000000 in
set_option maxRecDepth 100000 in
/-- X4_rest throws -/
theorem x_X4_rest_1 (l : Launch) (hst : l.stackTraces = false) (nW : Nat) (D : va_G) (cA : Nat → ClassId) (ad : Nat → Nat) (hi : inj nW ad) (hNW : 102 ≤ nW) (I : SI) (J : SJ) (X : SX) (sz : Nat) (r n : Int32) (hp : inF r 0 3 = 0) : vx_Met l yX4_rest wsX4_rest ({ frames := 7, cells := 1, slots := 6, locals := 102 }) (va_Pc [.ref (ad 0), .int (r), .int (n)] (wPreX nW D cA ad I J X sz)) (nInt nW ad sz) (xT nW D cA ad sz eI I J X) 1 6 (fr nW ad sz) := by
  refine vx_ofW (cc := cX4_rest) (maxL := 3) (ret := (some .int)) (by decide) rfl ?_
  intro p e s m args below meth c s₁ B hml htab hv
  obtain ⟨rfl, ⟨rfl, hP, hK⟩, hX⟩ := hv
  have hx := B.exec
  have hb := B.bytes
  have hr := B.returns
  have hts := atoms_spec (ws := wsX4_rest) B.pre
  have hown : s.vm.findClass RX4 = some m.cls := findClass_of_methodNamed B.named
  have hlocks := B.notSynchronized
  have hS : va_S (fr nW ad s.heap.size) s.heap s.heap [] := va_S.rf
  have hA : ∀ k, k < nW → fr nW ad s.heap.size (ad k) := fr_ad
  have hl := lv_entry ([.ref (ad 0), .int (r), .int (n)]) (n := 3) (Nat.le_of_ble_eq_true rfl)
  rw [lg_entry_eq]
  generalize (lg_sl ([.ref (ad 0), .int (r), .int (n)]) ++ List.replicate (3 - (lg_sl ([.ref (ad 0), .int (r), .int (n)])).length) Slot.unset).toArray = ls at hl ⊢
  have hl : lv_has ls 3 [(0, .ref (ad 0)), (1, .int (r)), (2, .int (n))] := hl
  suffices K : ∀ (H : Heap) (locs : List Loc), WP nW D cA ad I J X H → va_S (fr nW ad s.heap.size) s.heap H locs → W p l e (headSpec wsX4_rest ({ frames := 7, cells := 1, slots := 6, locals := 102 })).room s m ([.ref (ad 0), .int (r), .int (n)] : List Value).toArray below meth c H locs 0 0 (vx_MQ below (nInt nW ad s.heap.size) (xT nW D cA ad s.heap.size eI I J X) ([.ref (ad 0), .int (r), .int (n)] : List Value).toArray s 1 6 (fr nW ad s.heap.size)) (F0 m 0 ls []) from K _ _ hP hS
  clear hP hS
  intro H locs hP hS
  refine lv_iload_n hx hb dX4_rest_0 rfl (lv_at hl 1 rfl) ?_
  exact w_callxV (vx_runS (As := [.int (r)]) (rest := []) ⟨hx, hb, hml, hown, hts⟩ (x_X4_checkReader l hst nW D cA ad hi hNW I J X H.size r hp) (va_cwS 1 hts gX4_rest_X4_checkReader rfl rfl rfl (by decide +kernel) ⟨Nat.le_of_ble_eq_true rfl, Nat.le_of_ble_eq_true rfl⟩) (w_preSX hK hP hX hS) rfl rfl hl.1 rfl (lv_room (Nat.le_of_ble_eq_true rfl)) dX4_rest_1 ⟨Nat.le_of_ble_eq_true rfl, Nat.le_of_ble_eq_true rfl⟩) hK hS htab hlocks (Nat.le_of_ble_eq_true rfl) (Nat.le_of_ble_eq_true rfl)

set_option maxHeartbeats 4000000 in
set_option maxRecDepth 100000 in
/-- X4_rest throws -/
theorem x_X4_rest_2 (l : Launch) (hst : l.stackTraces = false) (nW : Nat) (D : va_G) (cA : Nat → ClassId) (ad : Nat → Nat) (hi : inj nW ad) (hNW : 102 ≤ nW) (I : SI) (J : SJ) (X : SX) (sz : Nat) (r : Nat) (hr4 : r < 4) (n : Int32) (hp : inF n 0 8 = 0) : vx_Met l yX4_rest wsX4_rest ({ frames := 7, cells := 1, slots := 6, locals := 102 }) (va_Pc [.ref (ad 0), .int (nI (r)), .int (n)] (wPreX nW D cA ad I J X sz)) (nInt nW ad sz) (xT nW D cA ad sz eI I J X) 1 6 (fr nW ad sz) := by
  refine vx_ofW (cc := cX4_rest) (maxL := 3) (ret := (some .int)) (by decide) rfl ?_
  intro p e s m args below meth c s₁ B hml htab hv
  obtain ⟨rfl, ⟨rfl, hP, hK⟩, hX⟩ := hv
  have hx := B.exec
  have hb := B.bytes
  have hr := B.returns
  have hts := atoms_spec (ws := wsX4_rest) B.pre
  have hown : s.vm.findClass RX4 = some m.cls := findClass_of_methodNamed B.named
  have hlocks := B.notSynchronized
  have hS : va_S (fr nW ad s.heap.size) s.heap s.heap [] := va_S.rf
  have hA : ∀ k, k < nW → fr nW ad s.heap.size (ad k) := fr_ad
  have hl := lv_entry ([.ref (ad 0), .int (nI (r)), .int (n)]) (n := 3) (Nat.le_of_ble_eq_true rfl)
  rw [lg_entry_eq]
  generalize (lg_sl ([.ref (ad 0), .int (nI (r)), .int (n)]) ++ List.replicate (3 - (lg_sl ([.ref (ad 0), .int (nI (r)), .int (n)])).length) Slot.unset).toArray = ls at hl ⊢
  have hl : lv_has ls 3 [(0, .ref (ad 0)), (1, .int (nI (r))), (2, .int (n))] := hl
  suffices K : ∀ (H : Heap) (locs : List Loc), WP nW D cA ad I J X H → va_S (fr nW ad s.heap.size) s.heap H locs → W p l e (headSpec wsX4_rest ({ frames := 7, cells := 1, slots := 6, locals := 102 })).room s m ([.ref (ad 0), .int (nI (r)), .int (n)] : List Value).toArray below meth c H locs 0 0 (vx_MQ below (nInt nW ad s.heap.size) (xT nW D cA ad s.heap.size eI I J X) ([.ref (ad 0), .int (nI (r)), .int (n)] : List Value).toArray s 1 6 (fr nW ad s.heap.size)) (F0 m 0 ls []) from K _ _ hP hS
  clear hP hS
  intro H locs hP hS
  refine lv_iload_n hx hb dX4_rest_0 rfl (lv_at hl 1 rfl) ?_
  refine w_callv (va_runS (As := [.int (nI (r))]) (rest := []) ⟨hx, hb, hml, hown, hts⟩ (c_X4_checkReader l nW D cA ad hi hNW I J X H.size r (by omega)) (va_cwS 1 hts gX4_rest_X4_checkReader rfl rfl rfl (by decide +kernel) ⟨Nat.le_of_ble_eq_true rfl, Nat.le_of_ble_eq_true rfl⟩) (w_preS hK hP) rfl rfl hl.1 rfl (lv_room (Nat.le_of_ble_eq_true rfl)) dX4_rest_1 ⟨Nat.le_of_ble_eq_true rfl, Nat.le_of_ble_eq_true rfl⟩) hS (fun H locs hP hS => ?_)
  refine lv_iload_n hx hb dX4_rest_4 rfl (lv_at hl 2 rfl) ?_
  exact w_callxV (vx_runS (As := [.int (n)]) (rest := []) ⟨hx, hb, hml, hown, hts⟩ (x_X4_checkNode l hst nW D cA ad hi hNW I J X H.size n hp) (va_cwS 1 hts gX4_rest_X4_checkNode rfl rfl rfl (by decide +kernel) ⟨Nat.le_of_ble_eq_true rfl, Nat.le_of_ble_eq_true rfl⟩) (w_preSX hK hP hX hS) rfl rfl hl.1 rfl (lv_room (Nat.le_of_ble_eq_true rfl)) dX4_rest_5 ⟨Nat.le_of_ble_eq_true rfl, Nat.le_of_ble_eq_true rfl⟩) hK hS htab hlocks (Nat.le_of_ble_eq_true rfl) (Nat.le_of_ble_eq_true rfl)

theorem inX4_sent_X3 : ∀ w ∈ wsX30, w ∈ wsX4_sent := by decide +kernel
theorem inX4_sent_X4 : ∀ w ∈ wsX40, w ∈ wsX4_sent := by decide +kernel
set_option maxHeartbeats 4000000 in
set_option maxRecDepth 100000 in
/-- X4_sent -/
theorem c_X4_sent_ok (l : Launch) (nW : Nat) (D : va_G) (cA : Nat → ClassId) (ad : Nat → Nat) (hi : inj nW ad) (hNW : 102 ≤ nW) (I : SI) (J : SJ) (X : SX) (sz : Nat) (r n o : Nat) (hr4 : r < 4) (hn9 : n < 9) (ho9 : o < 9) : Met l yX4_sent wsX4_sent ({ frames := 1, cells := 0, slots := 0, locals := 22 }) (va_Pc [.ref (ad 0), .int (nI (r)), .int (nI (n)), .int (nI (o))] (wPre nW D cA ad I J X sz)) (qI nW D cA ad sz ((J (47 + 9 * r + n) o).toInt32) I J X) 0 0 (fr nW ad sz) := by
  refine Met.ofW (cc := cX4_sent) (maxL := 4) (ret := (some .int)) (by decide) rfl ?_
  intro p e s m args below meth c s₁ B hml hv
  obtain ⟨rfl, rfl, hP, hK⟩ := hv
  have hx := B.exec
  have hb := B.bytes
  have hr := B.returns
  have hts := atoms_spec (ws := wsX4_sent) B.pre
  have hown : s.vm.findClass RX4 = some m.cls := findClass_of_methodNamed B.named
  have hlocks := B.notSynchronized
  have hS : va_S (fr nW ad s.heap.size) s.heap s.heap [] := va_S.rf
  have hA : ∀ k, k < nW → fr nW ad s.heap.size (ad k) := fr_ad
  have hl := lv_entry ([.ref (ad 0), .int (nI (r)), .int (nI (n)), .int (nI (o))]) (n := 4) (Nat.le_of_ble_eq_true rfl)
  rw [lg_entry_eq]
  generalize (lg_sl ([.ref (ad 0), .int (nI (r)), .int (nI (n)), .int (nI (o))]) ++ List.replicate (4 - (lg_sl ([.ref (ad 0), .int (nI (r)), .int (nI (n)), .int (nI (o))])).length) Slot.unset).toArray = ls at hl ⊢
  have hl : lv_has ls 4 [(0, .ref (ad 0)), (1, .int (nI (r))), (2, .int (nI (n))), (3, .int (nI (o)))] := hl
  have hS0 := hS
  suffices K : ∀ (H : Heap) (locs : List Loc), WP nW D cA ad I J X H → va_S (fr nW ad s.heap.size) s.heap H locs → W p l e (headSpec wsX4_sent ({ frames := 1, cells := 0, slots := 0, locals := 22 })).room s m ([.ref (ad 0), .int (nI (r)), .int (nI (n)), .int (nI (o))] : List Value).toArray below meth c H locs 0 0 (MQ below (qI nW D cA ad s.heap.size ((J (47 + 9 * r + n) o).toInt32) I J X) ([.ref (ad 0), .int (nI (r)), .int (nI (n)), .int (nI (o))] : List Value).toArray s 0 0 (fr nW ad s.heap.size)) (F0 m 0 ls []) from K _ _ hP hS
  clear hP hS hS0
  intro H locs hP hS
  refine lv_iload_n hx hb dX4_sent_0 rfl (lv_at hl 1 rfl) ?_
  refine w_callv (va_runS (As := [.int (nI (r))]) (rest := []) ⟨hx, hb, hml, hown, hts⟩ (c_X4_checkReader l nW D cA ad hi hNW I J X H.size r (by omega)) (va_cwS 1 hts gX4_sent_X4_checkReader rfl rfl rfl (by decide +kernel) ⟨Nat.le_of_ble_eq_true rfl, Nat.le_of_ble_eq_true rfl⟩) (w_preS hK hP) rfl rfl hl.1 rfl (lv_room (Nat.le_of_ble_eq_true rfl)) dX4_sent_1 ⟨Nat.le_of_ble_eq_true rfl, Nat.le_of_ble_eq_true rfl⟩) hS (fun H locs hP hS => ?_)
  refine lv_iload_n hx hb dX4_sent_4 rfl (lv_at hl 2 rfl) ?_
  refine w_callv (va_runS (As := [.int (nI (n))]) (rest := []) ⟨hx, hb, hml, hown, hts⟩ (c_X4_checkNode l nW D cA ad hi hNW I J X H.size n (by omega)) (va_cwS 1 hts gX4_sent_X4_checkNode rfl rfl rfl (by decide +kernel) ⟨Nat.le_of_ble_eq_true rfl, Nat.le_of_ble_eq_true rfl⟩) (w_preS hK hP) rfl rfl hl.1 rfl (lv_room (Nat.le_of_ble_eq_true rfl)) dX4_sent_5 ⟨Nat.le_of_ble_eq_true rfl, Nat.le_of_ble_eq_true rfl⟩) hS (fun H locs hP hS => ?_)
  refine lv_iload_n hx hb dX4_sent_8 rfl (lv_at hl 3 rfl) ?_
  refine w_callv (va_runS (As := [.int (nI (o))]) (rest := []) ⟨hx, hb, hml, hown, hts⟩ (c_X4_checkNode l nW D cA ad hi hNW I J X H.size o (by omega)) (va_cwS 1 hts gX4_sent_X4_checkNode rfl rfl rfl (by decide +kernel) ⟨Nat.le_of_ble_eq_true rfl, Nat.le_of_ble_eq_true rfl⟩) (w_preS hK hP) rfl rfl hl.1 rfl (lv_room (Nat.le_of_ble_eq_true rfl)) dX4_sent_9 ⟨Nat.le_of_ble_eq_true rfl, Nat.le_of_ble_eq_true rfl⟩) hS (fun H locs hP hS => ?_)
  refine lv_aload_n hx hb dX4_sent_12 rfl (lv_at hl 0 rfl) ?_
  refine w_get (C := RX4) (T := TX4) (N := 7) (v := .ref (ad 30)) (index := 18) hx hb hts inX4_sent_X4 hown hK hP 0 1 ⟨rfl, rfl, by decide⟩ (by omega) rfl (List.mem_of_getElem? (i := 1) rfl) (fun _ h9 => h9) dX4_sent_13 ?_
  refine lv_iload_n hx hb dX4_sent_16 rfl (lv_at hl 1 rfl) ?_
  refine w_aald hx hb hK hP 30 (r) 31 7 ⟨rfl, (by show r < 4; omega), rfl, rfl, by decide, by decide⟩ (by omega) rfl dX4_sent_17 ?_
  refine lv_iload_n hx hb dX4_sent_18 rfl (lv_at hl 2 rfl) ?_
  refine lv_iload_n hx hb dX4_sent_19 rfl (lv_at hl 3 rfl) ?_
  refine w_calll (va_runV (As := [.int (nI (n)), .int (nI (o))]) (rest := []) ⟨hx, hb, hml, hown, hts⟩ (c_X3_sentTo l nW D cA ad hi hNW I J X H.size r n o (by omega) (by omega) (by omega)) (cwV 2 hts gX4_sent_X3_sentTo rfl rfl rfl (by decide +kernel) ⟨Nat.le_of_ble_eq_true rfl, Nat.le_of_ble_eq_true rfl⟩) (w_preV hK hP (31 + r) (by omega) (k_walk (by omega)) rfl) rfl rfl hl.1 rfl (lv_room (Nat.le_of_ble_eq_true rfl)) dX4_sent_20 ⟨Nat.le_of_ble_eq_true rfl, Nat.le_of_ble_eq_true rfl⟩) hS (fun H locs hP hS => ?_)
  refine lv_l2i (v := (J (47 + 9 * r + n) o).toInt32) hx hb dX4_sent_23 rfl ?_
  exact w_iret hx hb hr hlocks hK hP hS ⟨by subst_vars; rfl, by subst_vars; rfl, by subst_vars; rfl, by subst_vars; rfl⟩ dX4_sent_24

set_option maxHeartbeats 4000000 in
set_option maxRecDepth 100000 in
/-- X4_sent throws -/
theorem x_X4_sent_1 (l : Launch) (hst : l.stackTraces = false) (nW : Nat) (D : va_G) (cA : Nat → ClassId) (ad : Nat → Nat) (hi : inj nW ad) (hNW : 102 ≤ nW) (I : SI) (J : SJ) (X : SX) (sz : Nat) (r n o : Int32) (hp : inF r 0 3 = 0) : vx_Met l yX4_sent wsX4_sent ({ frames := 7, cells := 1, slots := 6, locals := 102 }) (va_Pc [.ref (ad 0), .int (r), .int (n), .int (o)] (wPreX nW D cA ad I J X sz)) (nInt nW ad sz) (xT nW D cA ad sz eI I J X) 1 6 (fr nW ad sz) := by
  refine vx_ofW (cc := cX4_sent) (maxL := 4) (ret := (some .int)) (by decide) rfl ?_
  intro p e s m args below meth c s₁ B hml htab hv
  obtain ⟨rfl, ⟨rfl, hP, hK⟩, hX⟩ := hv
  have hx := B.exec
  have hb := B.bytes
  have hr := B.returns
  have hts := atoms_spec (ws := wsX4_sent) B.pre
  have hown : s.vm.findClass RX4 = some m.cls := findClass_of_methodNamed B.named
  have hlocks := B.notSynchronized
  have hS : va_S (fr nW ad s.heap.size) s.heap s.heap [] := va_S.rf
  have hA : ∀ k, k < nW → fr nW ad s.heap.size (ad k) := fr_ad
  have hl := lv_entry ([.ref (ad 0), .int (r), .int (n), .int (o)]) (n := 4) (Nat.le_of_ble_eq_true rfl)
  rw [lg_entry_eq]
  generalize (lg_sl ([.ref (ad 0), .int (r), .int (n), .int (o)]) ++ List.replicate (4 - (lg_sl ([.ref (ad 0), .int (r), .int (n), .int (o)])).length) Slot.unset).toArray = ls at hl ⊢
  have hl : lv_has ls 4 [(0, .ref (ad 0)), (1, .int (r)), (2, .int (n)), (3, .int (o))] := hl
  suffices K : ∀ (H : Heap) (locs : List Loc), WP nW D cA ad I J X H → va_S (fr nW ad s.heap.size) s.heap H locs → W p l e (headSpec wsX4_sent ({ frames := 7, cells := 1, slots := 6, locals := 102 })).room s m ([.ref (ad 0), .int (r), .int (n), .int (o)] : List Value).toArray below meth c H locs 0 0 (vx_MQ below (nInt nW ad s.heap.size) (xT nW D cA ad s.heap.size eI I J X) ([.ref (ad 0), .int (r), .int (n), .int (o)] : List Value).toArray s 1 6 (fr nW ad s.heap.size)) (F0 m 0 ls []) from K _ _ hP hS
  clear hP hS
  intro H locs hP hS
  refine lv_iload_n hx hb dX4_sent_0 rfl (lv_at hl 1 rfl) ?_
  exact w_callxV (vx_runS (As := [.int (r)]) (rest := []) ⟨hx, hb, hml, hown, hts⟩ (x_X4_checkReader l hst nW D cA ad hi hNW I J X H.size r hp) (va_cwS 1 hts gX4_sent_X4_checkReader rfl rfl rfl (by decide +kernel) ⟨Nat.le_of_ble_eq_true rfl, Nat.le_of_ble_eq_true rfl⟩) (w_preSX hK hP hX hS) rfl rfl hl.1 rfl (lv_room (Nat.le_of_ble_eq_true rfl)) dX4_sent_1 ⟨Nat.le_of_ble_eq_true rfl, Nat.le_of_ble_eq_true rfl⟩) hK hS htab hlocks (Nat.le_of_ble_eq_true rfl) (Nat.le_of_ble_eq_true rfl)

set_option maxHeartbeats 4000000 in
set_option maxRecDepth 100000 in
/-- X4_sent throws -/
theorem x_X4_sent_2 (l : Launch) (hst : l.stackTraces = false) (nW : Nat) (D : va_G) (cA : Nat → ClassId) (ad : Nat → Nat) (hi : inj nW ad) (hNW : 102 ≤ nW) (I : SI) (J : SJ) (X : SX) (sz : Nat) (r : Nat) (hr4 : r < 4) (n o : Int32) (hp : inF n 0 8 = 0) : vx_Met l yX4_sent wsX4_sent ({ frames := 7, cells := 1, slots := 6, locals := 102 }) (va_Pc [.ref (ad 0), .int (nI (r)), .int (n), .int (o)] (wPreX nW D cA ad I J X sz)) (nInt nW ad sz) (xT nW D cA ad sz eI I J X) 1 6 (fr nW ad sz) := by
  refine vx_ofW (cc := cX4_sent) (maxL := 4) (ret := (some .int)) (by decide) rfl ?_
  intro p e s m args below meth c s₁ B hml htab hv
  obtain ⟨rfl, ⟨rfl, hP, hK⟩, hX⟩ := hv
  have hx := B.exec
  have hb := B.bytes
  have hr := B.returns
  have hts := atoms_spec (ws := wsX4_sent) B.pre
  have hown : s.vm.findClass RX4 = some m.cls := findClass_of_methodNamed B.named
  have hlocks := B.notSynchronized
  have hS : va_S (fr nW ad s.heap.size) s.heap s.heap [] := va_S.rf
  have hA : ∀ k, k < nW → fr nW ad s.heap.size (ad k) := fr_ad
  have hl := lv_entry ([.ref (ad 0), .int (nI (r)), .int (n), .int (o)]) (n := 4) (Nat.le_of_ble_eq_true rfl)
  rw [lg_entry_eq]
  generalize (lg_sl ([.ref (ad 0), .int (nI (r)), .int (n), .int (o)]) ++ List.replicate (4 - (lg_sl ([.ref (ad 0), .int (nI (r)), .int (n), .int (o)])).length) Slot.unset).toArray = ls at hl ⊢
  have hl : lv_has ls 4 [(0, .ref (ad 0)), (1, .int (nI (r))), (2, .int (n)), (3, .int (o))] := hl
  suffices K : ∀ (H : Heap) (locs : List Loc), WP nW D cA ad I J X H → va_S (fr nW ad s.heap.size) s.heap H locs → W p l e (headSpec wsX4_sent ({ frames := 7, cells := 1, slots := 6, locals := 102 })).room s m ([.ref (ad 0), .int (nI (r)), .int (n), .int (o)] : List Value).toArray below meth c H locs 0 0 (vx_MQ below (nInt nW ad s.heap.size) (xT nW D cA ad s.heap.size eI I J X) ([.ref (ad 0), .int (nI (r)), .int (n), .int (o)] : List Value).toArray s 1 6 (fr nW ad s.heap.size)) (F0 m 0 ls []) from K _ _ hP hS
  clear hP hS
  intro H locs hP hS
  refine lv_iload_n hx hb dX4_sent_0 rfl (lv_at hl 1 rfl) ?_
  refine w_callv (va_runS (As := [.int (nI (r))]) (rest := []) ⟨hx, hb, hml, hown, hts⟩ (c_X4_checkReader l nW D cA ad hi hNW I J X H.size r (by omega)) (va_cwS 1 hts gX4_sent_X4_checkReader rfl rfl rfl (by decide +kernel) ⟨Nat.le_of_ble_eq_true rfl, Nat.le_of_ble_eq_true rfl⟩) (w_preS hK hP) rfl rfl hl.1 rfl (lv_room (Nat.le_of_ble_eq_true rfl)) dX4_sent_1 ⟨Nat.le_of_ble_eq_true rfl, Nat.le_of_ble_eq_true rfl⟩) hS (fun H locs hP hS => ?_)
  refine lv_iload_n hx hb dX4_sent_4 rfl (lv_at hl 2 rfl) ?_
  exact w_callxV (vx_runS (As := [.int (n)]) (rest := []) ⟨hx, hb, hml, hown, hts⟩ (x_X4_checkNode l hst nW D cA ad hi hNW I J X H.size n hp) (va_cwS 1 hts gX4_sent_X4_checkNode rfl rfl rfl (by decide +kernel) ⟨Nat.le_of_ble_eq_true rfl, Nat.le_of_ble_eq_true rfl⟩) (w_preSX hK hP hX hS) rfl rfl hl.1 rfl (lv_room (Nat.le_of_ble_eq_true rfl)) dX4_sent_5 ⟨Nat.le_of_ble_eq_true rfl, Nat.le_of_ble_eq_true rfl⟩) hK hS htab hlocks (Nat.le_of_ble_eq_true rfl) (Nat.le_of_ble_eq_true rfl)

set_option maxHeartbeats 4000000 in
set_option maxRecDepth 100000 in
/-- X4_sent throws -/
theorem x_X4_sent_3 (l : Launch) (hst : l.stackTraces = false) (nW : Nat) (D : va_G) (cA : Nat → ClassId) (ad : Nat → Nat) (hi : inj nW ad) (hNW : 102 ≤ nW) (I : SI) (J : SJ) (X : SX) (sz : Nat) (r n : Nat) (hr4 : r < 4) (hn9 : n < 9) (o : Int32) (hp : inF o 0 8 = 0) : vx_Met l yX4_sent wsX4_sent ({ frames := 7, cells := 1, slots := 6, locals := 102 }) (va_Pc [.ref (ad 0), .int (nI (r)), .int (nI (n)), .int (o)] (wPreX nW D cA ad I J X sz)) (nInt nW ad sz) (xT nW D cA ad sz eI I J X) 1 6 (fr nW ad sz) := by
  refine vx_ofW (cc := cX4_sent) (maxL := 4) (ret := (some .int)) (by decide) rfl ?_
  intro p e s m args below meth c s₁ B hml htab hv
  obtain ⟨rfl, ⟨rfl, hP, hK⟩, hX⟩ := hv
  have hx := B.exec
  have hb := B.bytes
  have hr := B.returns
  have hts := atoms_spec (ws := wsX4_sent) B.pre
  have hown : s.vm.findClass RX4 = some m.cls := findClass_of_methodNamed B.named
  have hlocks := B.notSynchronized
  have hS : va_S (fr nW ad s.heap.size) s.heap s.heap [] := va_S.rf
  have hA : ∀ k, k < nW → fr nW ad s.heap.size (ad k) := fr_ad
  have hl := lv_entry ([.ref (ad 0), .int (nI (r)), .int (nI (n)), .int (o)]) (n := 4) (Nat.le_of_ble_eq_true rfl)
  rw [lg_entry_eq]
  generalize (lg_sl ([.ref (ad 0), .int (nI (r)), .int (nI (n)), .int (o)]) ++ List.replicate (4 - (lg_sl ([.ref (ad 0), .int (nI (r)), .int (nI (n)), .int (o)])).length) Slot.unset).toArray = ls at hl ⊢
  have hl : lv_has ls 4 [(0, .ref (ad 0)), (1, .int (nI (r))), (2, .int (nI (n))), (3, .int (o))] := hl
  suffices K : ∀ (H : Heap) (locs : List Loc), WP nW D cA ad I J X H → va_S (fr nW ad s.heap.size) s.heap H locs → W p l e (headSpec wsX4_sent ({ frames := 7, cells := 1, slots := 6, locals := 102 })).room s m ([.ref (ad 0), .int (nI (r)), .int (nI (n)), .int (o)] : List Value).toArray below meth c H locs 0 0 (vx_MQ below (nInt nW ad s.heap.size) (xT nW D cA ad s.heap.size eI I J X) ([.ref (ad 0), .int (nI (r)), .int (nI (n)), .int (o)] : List Value).toArray s 1 6 (fr nW ad s.heap.size)) (F0 m 0 ls []) from K _ _ hP hS
  clear hP hS
  intro H locs hP hS
  refine lv_iload_n hx hb dX4_sent_0 rfl (lv_at hl 1 rfl) ?_
  refine w_callv (va_runS (As := [.int (nI (r))]) (rest := []) ⟨hx, hb, hml, hown, hts⟩ (c_X4_checkReader l nW D cA ad hi hNW I J X H.size r (by omega)) (va_cwS 1 hts gX4_sent_X4_checkReader rfl rfl rfl (by decide +kernel) ⟨Nat.le_of_ble_eq_true rfl, Nat.le_of_ble_eq_true rfl⟩) (w_preS hK hP) rfl rfl hl.1 rfl (lv_room (Nat.le_of_ble_eq_true rfl)) dX4_sent_1 ⟨Nat.le_of_ble_eq_true rfl, Nat.le_of_ble_eq_true rfl⟩) hS (fun H locs hP hS => ?_)
  refine lv_iload_n hx hb dX4_sent_4 rfl (lv_at hl 2 rfl) ?_
  refine w_callv (va_runS (As := [.int (nI (n))]) (rest := []) ⟨hx, hb, hml, hown, hts⟩ (c_X4_checkNode l nW D cA ad hi hNW I J X H.size n (by omega)) (va_cwS 1 hts gX4_sent_X4_checkNode rfl rfl rfl (by decide +kernel) ⟨Nat.le_of_ble_eq_true rfl, Nat.le_of_ble_eq_true rfl⟩) (w_preS hK hP) rfl rfl hl.1 rfl (lv_room (Nat.le_of_ble_eq_true rfl)) dX4_sent_5 ⟨Nat.le_of_ble_eq_true rfl, Nat.le_of_ble_eq_true rfl⟩) hS (fun H locs hP hS => ?_)
  refine lv_iload_n hx hb dX4_sent_8 rfl (lv_at hl 3 rfl) ?_
  exact w_callxV (vx_runS (As := [.int (o)]) (rest := []) ⟨hx, hb, hml, hown, hts⟩ (x_X4_checkNode l hst nW D cA ad hi hNW I J X H.size o hp) (va_cwS 1 hts gX4_sent_X4_checkNode rfl rfl rfl (by decide +kernel) ⟨Nat.le_of_ble_eq_true rfl, Nat.le_of_ble_eq_true rfl⟩) (w_preSX hK hP hX hS) rfl rfl hl.1 rfl (lv_room (Nat.le_of_ble_eq_true rfl)) dX4_sent_9 ⟨Nat.le_of_ble_eq_true rfl, Nat.le_of_ble_eq_true rfl⟩) hK hS htab hlocks (Nat.le_of_ble_eq_true rfl) (Nat.le_of_ble_eq_true rfl)

