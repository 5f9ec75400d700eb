
set_option maxHeartbeats 4000000 in
set_option maxRecDepth 100000 in
/-- X5_share -/
theorem c_X5_share_ok (l : Launch) (nW : Nat) (D : va_G) (cA : Nat → ClassId) (ad : Nat → Nat) (hi : inj nW ad) (hNW : 114 ≤ nW) (I : SI) (J : SJ) (X : SX) (sz : Nat) (r n : Nat) (hr4 : r < 4) (hn9 : n < 9) (hp : isNodeF (nI r) (nI n) = 1) (hF : MfOK (st2 I 102 14 0) r ((st2 I 102 14 0) 102 2)) (hSo : MoOK (mfO (st2 I 102 14 0) r (dmF ((st2 I 102 14 0) 102 2)) X 9)) : Met l yX5_share wsX5_share ({ frames := 3, cells := 0, slots := 0, locals := 70 }) (va_Pc [.ref (ad 102), .int (nI (r)), .int (nI (n))] (wPre nW D cA ad I J X sz)) (qD nW D cA ad sz ((moR (moK (mfO (st2 I 102 14 0) r (dmF ((st2 I 102 14 0) 102 2)) X 9) 9) 9) 110 n) (st2 I 102 14 0) J (moR (moK (mfO (st2 I 102 14 0) r (dmF ((st2 I 102 14 0) 102 2)) X 9) 9) 9)) 0 0 (fr nW ad sz) := by
  refine Met.ofW (cc := cX5_share) (maxL := 10) (ret := (some .double)) (by decide) rfl ?_
  intro p e s m args below meth c s₁ B hml hv
  obtain ⟨rfl, rfl, hP, hK⟩ := hv
  have hx := B.exec
  have hb := B.bytes
  have hr := B.returns
  have hts := atoms_spec (ws := wsX5_share) B.pre
  have hown : s.vm.findClass RX5 = some m.cls := findClass_of_methodNamed B.named
  have hlocks := B.notSynchronized
  have hS : va_S (fr nW ad s.heap.size) s.heap s.heap [] := va_S.rf
  have hA : ∀ k, k < nW → fr nW ad s.heap.size (ad k) := fr_ad
  have hl := lv_entry ([.ref (ad 102), .int (nI (r)), .int (nI (n))]) (n := 10) (Nat.le_of_ble_eq_true rfl)
  rw [lg_entry_eq]
  generalize (lg_sl ([.ref (ad 102), .int (nI (r)), .int (nI (n))]) ++ List.replicate (10 - (lg_sl ([.ref (ad 102), .int (nI (r)), .int (nI (n))])).length) Slot.unset).toArray = ls at hl ⊢
  have hl : lv_has ls 10 [(0, .ref (ad 102)), (1, .int (nI (r))), (2, .int (nI (n)))] := hl
  have hS0 := hS
  suffices K : ∀ (H : Heap) (locs : List Loc), WP nW D cA ad I J X H → va_S (fr nW ad s.heap.size) s.heap H locs → W p l e (headSpec wsX5_share ({ frames := 3, cells := 0, slots := 0, locals := 70 })).room s m ([.ref (ad 102), .int (nI (r)), .int (nI (n))] : List Value).toArray below meth c H locs 0 0 (MQ below (qD nW D cA ad s.heap.size ((moR (moK (mfO (st2 I 102 14 0) r (dmF ((st2 I 102 14 0) 102 2)) X 9) 9) 9) 110 n) (st2 I 102 14 0) J (moR (moK (mfO (st2 I 102 14 0) r (dmF ((st2 I 102 14 0) 102 2)) X 9) 9) 9)) ([.ref (ad 102), .int (nI (r)), .int (nI (n))] : List Value).toArray s 0 0 (fr nW ad s.heap.size)) (F0 m 0 ls []) from K _ _ hP hS
  clear hP hS hS0
  intro H locs hP hS
  refine lv_aload_n hx hb dX5_share_0 rfl (lv_at hl 0 rfl) ?_
  refine lv_aload_n hx hb dX5_share_1 rfl (lv_at hl 0 rfl) ?_
  refine lv_iload_n hx hb dX5_share_2 rfl (lv_at hl 1 rfl) ?_
  refine lv_iload_n hx hb dX5_share_3 rfl (lv_at hl 2 rfl) ?_
  refine w_calli (va_runV (As := [.int (nI (r)), .int (nI (n))]) (rest := [.ref (ad 102)]) ⟨hx, hb, hml, hown, hts⟩ (c_X5_isNode l nW D cA ad hi hNW I J X H.size (nI (r)) (nI (n))) (cwV 2 hts gX5_share_X5_isNode rfl rfl rfl (by decide +kernel) ⟨Nat.le_of_ble_eq_true rfl, Nat.le_of_ble_eq_true rfl⟩) (w_preV hK hP 102 (by omega) ⟨rfl, rfl⟩ rfl) rfl rfl hl.1 rfl (lv_room (Nat.le_of_ble_eq_true rfl)) dX5_share_4 ⟨Nat.le_of_ble_eq_true rfl, Nat.le_of_ble_eq_true rfl⟩) hS (fun H locs hP hS => ?_)
  refine w_topN (a := 1) hp ?_
  refine lv_if_eq (tgt := 14) hx hb dX5_share_7 (by decide) (fun c7 => ?_) (fun c7 => ?_)
  · have qc7 : 1 = 0 := (wn_eq (a := 1) (b := 0) rfl rfl (by omega) (by omega)).mp c7
    exact absurd qc7 (by omega)
  · have qc7 : ¬ 1 = 0 := fun z => c7 ((wn_eq (a := 1) (b := 0) rfl rfl (by omega) (by omega)).mpr z)
    refine lv_iconst (v := 0) hx hb dX5_share_10 (by decide) ?_
    refine lv_goto (tgt := 15) hx hb dX5_share_11 (by decide) ?_
    refine w_calli (va_runV (As := [.int (0)]) (rest := []) ⟨hx, hb, hml, hown, hts⟩ (c_X5_fails l nW D cA ad hi hNW I J X H.size 0) (cwV 1 hts gX5_share_X5_fails rfl rfl rfl (by decide +kernel) ⟨Nat.le_of_ble_eq_true rfl, Nat.le_of_ble_eq_true rfl⟩) (w_preV hK hP 102 (by omega) ⟨rfl, rfl⟩ rfl) rfl rfl hl.1 rfl (lv_room (Nat.le_of_ble_eq_true rfl)) dX5_share_15 ⟨Nat.le_of_ble_eq_true rfl, Nat.le_of_ble_eq_true rfl⟩) hS (fun H locs hP hS => ?_)
    refine w_topN (a := 0) (by decide) ?_
    refine lv_if_eq (tgt := 25) hx hb dX5_share_18 (by decide) (fun c18 => ?_) (fun c18 => ?_)
    · have qc18 : 0 = 0 := (wn_eq (a := 0) (b := 0) rfl rfl (by omega) (by omega)).mp c18
      refine lv_aload_n hx hb dX5_share_25 rfl (lv_at hl 0 rfl) ?_
      refine w_get (C := RX5) (T := TX5) (N := 15) (v := .int ((st2 I 102 14 0) 102 2)) (index := 16) hx hb hts inX5_share_X5 hown hK hP 102 2 ⟨rfl, rfl, by decide⟩ (by omega) rfl (List.mem_of_getElem? (i := 2) rfl) (fun _ h9 => h9) dX5_share_26 ?_
      refine lv_i2d hx hb dX5_share_29 ?_
      refine lv_ldc2d (v := 4636737291354636288) hx hb hown (hts (.constantDouble RX5 124 (4636737291354636288)) (List.mem_of_getElem? (i := 3) rfl)) dX5_share_30 ?_
      refine lv_ddiv hx hb dX5_share_33 hF.1 ?_
      refine lv_topd (fun dm edm => ?_)
      refine lv_dstore_n (lv' := [(3, .double (dm)), (0, .ref (ad 102)), (1, .int (nI (r))), (2, .int (nI (n)))]) hx hb dX5_share_34 rfl hl (by decide) rfl (fun ls hl => ?_)
      refine lv_iconst (v := 0) hx hb dX5_share_35 (by decide) ?_
      refine lv_istore (lv' := [(5, .int (0)), (3, .double (dm)), (0, .ref (ad 102)), (1, .int (nI (r))), (2, .int (nI (n)))]) hx hb dX5_share_36 hl (by decide) rfl (fun ls hl => ?_)
      refine lp_X5_sh_A hi hNW hx hb hml hown hts hK (st2 I 102 14 0) J X r n ((st2 I 102 14 0) 102 2) hr4 hF (fun  H locs hP hS ls hl => ?_) (9) (0) (by omega)  H locs (w_cong (I1 := (st2 I 102 14 0)) (J1 := J) (X1 := (mfO (st2 I 102 14 0) r (dmF ((st2 I 102 14 0) 102 2)) X 0)) hP ⟨(by subst_vars; rfl), rfl, (by subst_vars; rfl)⟩) hS ls (lv_cong (l := [(5, .int (0)), (3, .double (dm)), (1, .int (nI (r))), (2, .int (nI (n))), (0, .ref (ad 102))]) (l' := [(5, .int (nI (0))), (3, .double (dmF ((st2 I 102 14 0) 102 2))), (1, .int (nI (r))), (2, .int (nI (n))), (0, .ref (ad 102))]) (lv_sub hl [0, 1, 3, 4, 2] rfl) (by subst_vars; rfl))
      refine lv_iconst (v := 0) hx hb dX5_share_150 (by decide) ?_
      refine lv_istore (lv' := [(5, .int (0)), (1, .int (nI (r))), (2, .int (nI (n))), (0, .ref (ad 102))]) hx hb dX5_share_151 hl (by decide) rfl (fun ls hl => ?_)
      refine lp_X5_sh_C hi hNW hx hb hml hown hts hK (st2 I 102 14 0) J (mfO (st2 I 102 14 0) r (dmF ((st2 I 102 14 0) 102 2)) X 9) r n hSo.1 (fun  H locs hP hS ls hl => ?_) (9) (0) (by omega)  H locs (w_cong (I1 := (st2 I 102 14 0)) (J1 := J) (X1 := (moK (mfO (st2 I 102 14 0) r (dmF ((st2 I 102 14 0) 102 2)) X 9) 0)) hP ⟨rfl, rfl, (by subst_vars; rfl)⟩) hS ls (lv_cong (l := [(5, .int (0)), (1, .int (nI (r))), (2, .int (nI (n))), (0, .ref (ad 102))]) (l' := [(5, .int (nI (0))), (1, .int (nI (r))), (2, .int (nI (n))), (0, .ref (ad 102))]) (lv_sub hl [0, 1, 2, 3] rfl) (by subst_vars; rfl))
      refine lv_bipush (v := 8) hx hb dX5_share_280 (by decide) ?_
      refine lv_istore (lv' := [(5, .int (8)), (1, .int (nI (r))), (2, .int (nI (n))), (0, .ref (ad 102))]) hx hb dX5_share_282 hl (by decide) rfl (fun ls hl => ?_)
      refine lp_X5_sh_F hi hNW hx hb hml hown hts hK (st2 I 102 14 0) J (moK (mfO (st2 I 102 14 0) r (dmF ((st2 I 102 14 0) 102 2)) X 9) 9) r n hSo.2 (fun  H locs hP hS ls hl => ?_) (9) (0) (by omega)  H locs (w_cong (I1 := (st2 I 102 14 0)) (J1 := J) (X1 := (moR (moK (mfO (st2 I 102 14 0) r (dmF ((st2 I 102 14 0) 102 2)) X 9) 9) 0)) hP ⟨rfl, rfl, (by first | rfl | (decide +kernel))⟩) hS ls (lv_cong (l := [(5, .int (8)), (1, .int (nI (r))), (2, .int (nI (n))), (0, .ref (ad 102))]) (l' := [(5, .int (dnI 0)), (1, .int (nI (r))), (2, .int (nI (n))), (0, .ref (ad 102))]) (lv_sub hl [0, 1, 2, 3] rfl) (by first | rfl | (decide +kernel)))
      refine lv_aload_n hx hb dX5_share_369 rfl (lv_at hl 2 rfl) ?_
      refine w_get (C := RX5) (T := TX5) (N := 15) (v := .ref (ad 110)) (index := 40) hx hb hts inX5_share_X5 hown hK hP 102 10 ⟨rfl, rfl, by decide⟩ (by omega) rfl (List.mem_of_getElem? (i := 6) rfl) (fun _ h9 => h9) dX5_share_370 ?_
      refine lv_iload_n hx hb dX5_share_373 rfl (lv_at hl 1 rfl) ?_
      refine w_dald hx hb hK hP 110 (n) ⟨rfl, (by show n < 9; omega)⟩ (by omega) rfl dX5_share_374 ?_
      exact w_dret hx hb hr hlocks hK hP hS ⟨by subst_vars; rfl, by subst_vars; rfl, by subst_vars; rfl, by subst_vars; rfl⟩ dX5_share_375
    · have qc18 : ¬ 0 = 0 := fun z => c18 ((wn_eq (a := 0) (b := 0) rfl rfl (by omega) (by omega)).mpr z)
      exact absurd qc18 (by omega)

set_option maxHeartbeats 4000000 in
set_option maxRecDepth 100000 in
/-- X5_share -/
theorem c_X5_share_f1 (l : Launch) (nW : Nat) (D : va_G) (cA : Nat → ClassId) (ad : Nat → Nat) (hi : inj nW ad) (hNW : 114 ≤ nW) (I : SI) (J : SJ) (X : SX) (sz : Nat) (r n : Int32) (hp : isNodeF r n = 0) : Met l yX5_share wsX5_share ({ frames := 3, cells := 0, slots := 0, locals := 70 }) (va_Pc [.ref (ad 102), .int (r), .int (n)] (wPre nW D cA ad I J X sz)) (qD nW D cA ad sz (13830554455654793216) (st2 I 102 14 1) J X) 0 0 (fr nW ad sz) := by
  refine Met.ofW (cc := cX5_share) (maxL := 10) (ret := (some .double)) (by decide) rfl ?_
  intro p e s m args below meth c s₁ B hml hv
  obtain ⟨rfl, rfl, hP, hK⟩ := hv
  have hx := B.exec
  have hb := B.bytes
  have hr := B.returns
  have hts := atoms_spec (ws := wsX5_share) B.pre
  have hown : s.vm.findClass RX5 = some m.cls := findClass_of_methodNamed B.named
  have hlocks := B.notSynchronized
  have hS : va_S (fr nW ad s.heap.size) s.heap s.heap [] := va_S.rf
  have hA : ∀ k, k < nW → fr nW ad s.heap.size (ad k) := fr_ad
  have hl := lv_entry ([.ref (ad 102), .int (r), .int (n)]) (n := 10) (Nat.le_of_ble_eq_true rfl)
  rw [lg_entry_eq]
  generalize (lg_sl ([.ref (ad 102), .int (r), .int (n)]) ++ List.replicate (10 - (lg_sl ([.ref (ad 102), .int (r), .int (n)])).length) Slot.unset).toArray = ls at hl ⊢
  have hl : lv_has ls 10 [(0, .ref (ad 102)), (1, .int (r)), (2, .int (n))] := hl
  have hS0 := hS
  suffices K : ∀ (H : Heap) (locs : List Loc), WP nW D cA ad I J X H → va_S (fr nW ad s.heap.size) s.heap H locs → W p l e (headSpec wsX5_share ({ frames := 3, cells := 0, slots := 0, locals := 70 })).room s m ([.ref (ad 102), .int (r), .int (n)] : List Value).toArray below meth c H locs 0 0 (MQ below (qD nW D cA ad s.heap.size (13830554455654793216) (st2 I 102 14 1) J X) ([.ref (ad 102), .int (r), .int (n)] : List Value).toArray s 0 0 (fr nW ad s.heap.size)) (F0 m 0 ls []) from K _ _ hP hS
  clear hP hS hS0
  intro H locs hP hS
  refine lv_aload_n hx hb dX5_share_0 rfl (lv_at hl 0 rfl) ?_
  refine lv_aload_n hx hb dX5_share_1 rfl (lv_at hl 0 rfl) ?_
  refine lv_iload_n hx hb dX5_share_2 rfl (lv_at hl 1 rfl) ?_
  refine lv_iload_n hx hb dX5_share_3 rfl (lv_at hl 2 rfl) ?_
  refine w_calli (va_runV (As := [.int (r), .int (n)]) (rest := [.ref (ad 102)]) ⟨hx, hb, hml, hown, hts⟩ (c_X5_isNode l nW D cA ad hi hNW I J X H.size r n) (cwV 2 hts gX5_share_X5_isNode rfl rfl rfl (by decide +kernel) ⟨Nat.le_of_ble_eq_true rfl, Nat.le_of_ble_eq_true rfl⟩) (w_preV hK hP 102 (by omega) ⟨rfl, rfl⟩ rfl) rfl rfl hl.1 rfl (lv_room (Nat.le_of_ble_eq_true rfl)) dX5_share_4 ⟨Nat.le_of_ble_eq_true rfl, Nat.le_of_ble_eq_true rfl⟩) hS (fun H locs hP hS => ?_)
  refine w_topN (a := 0) hp ?_
  refine lv_if_eq (tgt := 14) hx hb dX5_share_7 (by decide) (fun c7 => ?_) (fun c7 => ?_)
  · have qc7 : 0 = 0 := (wn_eq (a := 0) (b := 0) rfl rfl (by omega) (by omega)).mp c7
    refine lv_iconst (v := 1) hx hb dX5_share_14 (by decide) ?_
    refine w_calli (va_runV (As := [.int (1)]) (rest := []) ⟨hx, hb, hml, hown, hts⟩ (c_X5_fails l nW D cA ad hi hNW I J X H.size 1) (cwV 1 hts gX5_share_X5_fails rfl rfl rfl (by decide +kernel) ⟨Nat.le_of_ble_eq_true rfl, Nat.le_of_ble_eq_true rfl⟩) (w_preV hK hP 102 (by omega) ⟨rfl, rfl⟩ rfl) rfl rfl hl.1 rfl (lv_room (Nat.le_of_ble_eq_true rfl)) dX5_share_15 ⟨Nat.le_of_ble_eq_true rfl, Nat.le_of_ble_eq_true rfl⟩) hS (fun H locs hP hS => ?_)
    refine w_topN (a := 1) (by decide) ?_
    refine lv_if_eq (tgt := 25) hx hb dX5_share_18 (by decide) (fun c18 => ?_) (fun c18 => ?_)
    · have qc18 : 1 = 0 := (wn_eq (a := 1) (b := 0) rfl rfl (by omega) (by omega)).mp c18
      exact absurd qc18 (by omega)
    · have qc18 : ¬ 1 = 0 := fun z => c18 ((wn_eq (a := 1) (b := 0) rfl rfl (by omega) (by omega)).mpr z)
      refine lv_ldc2d (v := 13830554455654793216) hx hb hown (hts (.constantDouble RX5 122 (13830554455654793216)) (List.mem_of_getElem? (i := 1) rfl)) dX5_share_21 ?_
      exact w_dret hx hb hr hlocks hK hP hS ⟨by subst_vars; rfl, by subst_vars; rfl, by subst_vars; rfl, by subst_vars; rfl⟩ dX5_share_24
  · have qc7 : ¬ 0 = 0 := fun z => c7 ((wn_eq (a := 0) (b := 0) rfl rfl (by omega) (by omega)).mpr z)
    exact absurd qc7 (by omega)
