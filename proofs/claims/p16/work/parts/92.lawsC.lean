/-! the law's two methods that catch -/
set_option maxHeartbeats 4000000 in
set_option maxRecDepth 100000 in
theorem h_loan_ok (l : Launch) (D : va_G) (cA : Nat → ClassId) (ad K V : Nat → Nat) (tO tT : Nat) (hi : inj 102 ad) (I : SI) (J : SJ) (X : SX) (sz : Nat) (p0 p1 p2 : Int32) {f9 o9 : Nat} (hf9 : f9 ≤ 50) (ho9 : o9 ≤ 2000) (r : Int32) (I1 : SI) (J1 : SJ) (X1 : SX) (hM : Met l yX4_loan wsX4_loan ({ frames := f9, cells := 0, slots := 0, locals := o9 }) (va_Pc [.ref (ad 0), .int p0, .int p1, .int p2] (wPre 102 D cA ad I J X sz)) (qI 102 D cA ad sz r I1 J1 X1) 0 0 (fr 102 ad sz)) : Met l yL_does wsL_does ({ frames := 60, cells := 1, slots := 6, locals := 3000 }) (va_Pc [.ref (ad 0), .int 0, .int p0, .int p1, .int p2] (wPreA D cA ad K V tO tT I J X sz)) (qI 102 D cA ad sz r I1 J1 X1) 1 6 (fr 102 ad sz) := by
  refine va_MetW (cc := cL_does) (maxL := 6) (ret := some .int) (hh := [(0, 61, 62, 29), (0, 61, 67, 31), (0, 61, 72, 33)]) (by decide) rfl ?_
  intro p e s m args below meth c s₁ B hml hv
  obtain ⟨rfl, ⟨rfl, hP, hK⟩, hX, hL, hN1, hN2, hN3⟩ := hv
  have hx := B.exec
  have hb := B.bytes
  have hr := B.returns
  have hts := atoms_spec (ws := wsL_does) B.pre
  have hown : s.vm.findClass RL = some m.cls := findClass_of_methodNamed B.named
  have hlocks := B.notSynchronized
  have hS : va_S (fr 102 ad s.heap.size) s.heap s.heap [] := va_S.rf
  have hA : ∀ k, k < 102 → fr 102 ad s.heap.size (ad k) := fr_ad
  have hl := lv_entry ([.ref (ad 0), .int 0, .int p0, .int p1, .int p2]) (n := 6) (Nat.le_of_ble_eq_true rfl)
  rw [lg_entry_eq]
  generalize (lg_sl ([.ref (ad 0), .int 0, .int p0, .int p1, .int p2]) ++ List.replicate (6 - (lg_sl ([.ref (ad 0), .int 0, .int p0, .int p1, .int p2])).length) Slot.unset).toArray = ls at hl ⊢
  have hl : lv_has ls 6 [(0, .ref (ad 0)), (1, .int 0), (2, .int p0), (3, .int p1), (4, .int p2)] := hl
  refine lv_iload_n hx hb dL_does_0 rfl (lv_at hl 1 rfl) ?_
  refine lv_if_ne (tgt := 15) hx hb dL_does_1 (by decide) (fun z => absurd rfl z) (fun _ => ?_)
  refine lv_aload_n hx hb dL_does_4 rfl (lv_at hl 0 rfl) ?_
  refine lv_iload_n hx hb dL_does_5 rfl (lv_at hl 2 rfl) ?_
  refine lv_iload_n hx hb dL_does_6 rfl (lv_at hl 3 rfl) ?_
  refine lv_iload hx hb dL_does_7 (lv_at hl 4 rfl) ?_
  refine w_calli (va_runV (As := [.int p0, .int p1, .int p2]) (rest := []) ⟨hx, hb, hml, hown, hts⟩ hM (cwV 3 hts gL_does_X4_loan rfl rfl rfl (by decide +kernel) ⟨by show f9 + 1 ≤ 60; omega, by show 8 + (5 + 11) + o9 ≤ 3000; omega⟩) (w_preV hK hP 0 (by decide) ⟨rfl, rfl⟩ rfl) rfl rfl hl.1 rfl (lv_room (Nat.le_of_ble_eq_true rfl)) dL_does_9 ⟨(Nat.le_of_ble_eq_true rfl), (Nat.le_of_ble_eq_true rfl)⟩) hS (fun H locs hP hS => ?_)
  refine lv_goto (tgt := 61) hx hb dL_does_12 (by decide) ?_
  refine W.widen (k := 1) (n := 6) (by decide) (by decide) ?_
  exact w_iret hx hb hr hlocks hK hP hS ⟨rfl, rfl, rfl, rfl⟩ dL_does_61

set_option maxHeartbeats 4000000 in
set_option maxRecDepth 100000 in
theorem h_loan_eI (l : Launch) (D : va_G) (cA : Nat → ClassId) (ad K V : Nat → Nat) (tO tT : Nat) (hi : inj 102 ad) (I : SI) (J : SJ) (X : SX) (sz : Nat) (p0 p1 p2 : Int32) {f9 o9 : Nat} (hf9 : f9 ≤ 50) (ho9 : o9 ≤ 2000) (hM : vx_Met l yX4_loan wsX4_loan ({ frames := f9, cells := 1, slots := 6, locals := o9 }) (va_Pc [.ref (ad 0), .int p0, .int p1, .int p2] (wPreX 102 D cA ad I J X sz)) (nInt 102 ad sz) (xT 102 D cA ad sz eI I J X) 1 6 (fr 102 ad sz)) : Met l yL_does wsL_does ({ frames := 60, cells := 1, slots := 6, locals := 3000 }) (va_Pc [.ref (ad 0), .int 0, .int p0, .int p1, .int p2] (wPreA D cA ad K V tO tT I J X sz)) (qI 102 D cA ad sz (-2) I J X) 1 6 (fr 102 ad sz) := by
  refine va_MetW (cc := cL_does) (maxL := 6) (ret := some .int) (hh := [(0, 61, 62, 29), (0, 61, 67, 31), (0, 61, 72, 33)]) (by decide) rfl ?_
  intro p e s m args below meth c s₁ B hml hv
  obtain ⟨rfl, ⟨rfl, hP, hK⟩, hX, hL, hN1, hN2, hN3⟩ := hv
  have hx := B.exec
  have hb := B.bytes
  have hr := B.returns
  have hts := atoms_spec (ws := wsL_does) B.pre
  have hown : s.vm.findClass RL = some m.cls := findClass_of_methodNamed B.named
  have hlocks := B.notSynchronized
  have hT9 := vx_table (x := yL_does) B (hts _ List.mem_cons_self)
  have hS : va_S (fr 102 ad s.heap.size) s.heap s.heap [] := va_S.rf
  have hA : ∀ k, k < 102 → fr 102 ad s.heap.size (ad k) := fr_ad
  have hl := lv_entry ([.ref (ad 0), .int 0, .int p0, .int p1, .int p2]) (n := 6) (Nat.le_of_ble_eq_true rfl)
  rw [lg_entry_eq]
  generalize (lg_sl ([.ref (ad 0), .int 0, .int p0, .int p1, .int p2]) ++ List.replicate (6 - (lg_sl ([.ref (ad 0), .int 0, .int p0, .int p1, .int p2])).length) Slot.unset).toArray = ls at hl ⊢
  have hl : lv_has ls 6 [(0, .ref (ad 0)), (1, .int 0), (2, .int p0), (3, .int p1), (4, .int p2)] := hl
  refine lv_iload_n hx hb dL_does_0 rfl (lv_at hl 1 rfl) ?_
  refine lv_if_ne (tgt := 15) hx hb dL_does_1 (by decide) (fun z => absurd rfl z) (fun _ => ?_)
  refine lv_aload_n hx hb dL_does_4 rfl (lv_at hl 0 rfl) ?_
  refine lv_iload_n hx hb dL_does_5 rfl (lv_at hl 2 rfl) ?_
  refine lv_iload_n hx hb dL_does_6 rfl (lv_at hl 3 rfl) ?_
  refine lv_iload hx hb dL_does_7 (lv_at hl 4 rfl) ?_
  refine w_callxI (vx_runV (As := [.int p0, .int p1, .int p2]) (rest := []) ⟨hx, hb, hml, hown, hts⟩ hM (cwV 3 hts gL_does_X4_loan rfl rfl rfl (by decide +kernel) ⟨by show f9 + 1 ≤ 60; omega, by show 8 + (5 + 11) + o9 ≤ 3000; omega⟩) (w_preVX hK hP hX hS 0 (by decide) ⟨rfl, rfl⟩ rfl) rfl rfl hl.1 rfl (lv_room (Nat.le_of_ble_eq_true rfl)) dL_does_9 ⟨(Nat.le_of_ble_eq_true rfl), (Nat.le_of_ble_eq_true rfl)⟩) hS (fun ce q9 H locs hP hS hce hcv hcl => ?_)
  refine vx_catch (name := eI) hown [] ⟨0, 61, 62, 29⟩ [⟨0, 61, 67, 31⟩, ⟨0, 61, 72, 33⟩] (by rw [hT9]; rfl) (fun z hz => nomatch hz) (by decide) (by decide) (hts (.classLink RL 29 eI) (List.mem_of_getElem? (i := 1) rfl)) (va_Nw.use rfl hX.2.2.1.2.2.2.1) hce hcv hcl ?_
  refine lv_astore (lv' := [(5, .ref q9), (0, .ref (ad 0)), (1, .int 0), (2, .int p0), (3, .int p1), (4, .int p2)]) hx hb dL_does_62 hl (by decide) rfl (fun ls hl => ?_)
  refine lv_bipush (v := (-2)) hx hb dL_does_64 (by decide) ?_
  refine W.widen (k := 1) (n := 6) (by decide) (by decide) ?_
  exact w_iret hx hb hr hlocks hK hP hS ⟨rfl, rfl, rfl, rfl⟩ dL_does_66

set_option maxHeartbeats 4000000 in
set_option maxRecDepth 100000 in
theorem h_loan_eA (l : Launch) (D : va_G) (cA : Nat → ClassId) (ad K V : Nat → Nat) (tO tT : Nat) (hi : inj 102 ad) (I : SI) (J : SJ) (X : SX) (sz : Nat) (p0 p1 p2 : Int32) {f9 o9 : Nat} (hf9 : f9 ≤ 50) (ho9 : o9 ≤ 2000) (hM : vx_Met l yX4_loan wsX4_loan ({ frames := f9, cells := 1, slots := 6, locals := o9 }) (va_Pc [.ref (ad 0), .int p0, .int p1, .int p2] (wPreX 102 D cA ad I J X sz)) (nInt 102 ad sz) (xT 102 D cA ad sz eA I J X) 1 6 (fr 102 ad sz)) : Met l yL_does wsL_does ({ frames := 60, cells := 1, slots := 6, locals := 3000 }) (va_Pc [.ref (ad 0), .int 0, .int p0, .int p1, .int p2] (wPreA D cA ad K V tO tT I J X sz)) (qI 102 D cA ad sz (-3) I J X) 1 6 (fr 102 ad sz) := by
  refine va_MetW (cc := cL_does) (maxL := 6) (ret := some .int) (hh := [(0, 61, 62, 29), (0, 61, 67, 31), (0, 61, 72, 33)]) (by decide) rfl ?_
  intro p e s m args below meth c s₁ B hml hv
  obtain ⟨rfl, ⟨rfl, hP, hK⟩, hX, hL, hN1, hN2, hN3⟩ := hv
  have hx := B.exec
  have hb := B.bytes
  have hr := B.returns
  have hts := atoms_spec (ws := wsL_does) B.pre
  have hown : s.vm.findClass RL = some m.cls := findClass_of_methodNamed B.named
  have hlocks := B.notSynchronized
  have hT9 := vx_table (x := yL_does) B (hts _ List.mem_cons_self)
  have hS : va_S (fr 102 ad s.heap.size) s.heap s.heap [] := va_S.rf
  have hA : ∀ k, k < 102 → fr 102 ad s.heap.size (ad k) := fr_ad
  have hl := lv_entry ([.ref (ad 0), .int 0, .int p0, .int p1, .int p2]) (n := 6) (Nat.le_of_ble_eq_true rfl)
  rw [lg_entry_eq]
  generalize (lg_sl ([.ref (ad 0), .int 0, .int p0, .int p1, .int p2]) ++ List.replicate (6 - (lg_sl ([.ref (ad 0), .int 0, .int p0, .int p1, .int p2])).length) Slot.unset).toArray = ls at hl ⊢
  have hl : lv_has ls 6 [(0, .ref (ad 0)), (1, .int 0), (2, .int p0), (3, .int p1), (4, .int p2)] := hl
  refine lv_iload_n hx hb dL_does_0 rfl (lv_at hl 1 rfl) ?_
  refine lv_if_ne (tgt := 15) hx hb dL_does_1 (by decide) (fun z => absurd rfl z) (fun _ => ?_)
  refine lv_aload_n hx hb dL_does_4 rfl (lv_at hl 0 rfl) ?_
  refine lv_iload_n hx hb dL_does_5 rfl (lv_at hl 2 rfl) ?_
  refine lv_iload_n hx hb dL_does_6 rfl (lv_at hl 3 rfl) ?_
  refine lv_iload hx hb dL_does_7 (lv_at hl 4 rfl) ?_
  refine w_callxI (vx_runV (As := [.int p0, .int p1, .int p2]) (rest := []) ⟨hx, hb, hml, hown, hts⟩ hM (cwV 3 hts gL_does_X4_loan rfl rfl rfl (by decide +kernel) ⟨by show f9 + 1 ≤ 60; omega, by show 8 + (5 + 11) + o9 ≤ 3000; omega⟩) (w_preVX hK hP hX hS 0 (by decide) ⟨rfl, rfl⟩ rfl) rfl rfl hl.1 rfl (lv_room (Nat.le_of_ble_eq_true rfl)) dL_does_9 ⟨(Nat.le_of_ble_eq_true rfl), (Nat.le_of_ble_eq_true rfl)⟩) hS (fun ce q9 H locs hP hS hce hcv hcl => ?_)
  refine vx_catch (name := eA) hown [⟨0, 61, 62, 29⟩] ⟨0, 61, 67, 31⟩ [⟨0, 61, 72, 33⟩] (by rw [hT9]; rfl) (fun z hz => by rw [List.mem_singleton] at hz; subst hz; exact Or.inr ⟨by decide, eI, hts (.classLink RL 29 eI) (List.mem_of_getElem? (i := 1) rfl), hN1⟩) (by decide) (by decide) (hts (.classLink RL 31 eA) (List.mem_of_getElem? (i := 2) rfl)) (va_Nw.use rfl hX.2.2.1.2.2.2.2.1) hce hcv hcl ?_
  refine lv_astore (lv' := [(5, .ref q9), (0, .ref (ad 0)), (1, .int 0), (2, .int p0), (3, .int p1), (4, .int p2)]) hx hb dL_does_67 hl (by decide) rfl (fun ls hl => ?_)
  refine lv_bipush (v := (-3)) hx hb dL_does_69 (by decide) ?_
  refine W.widen (k := 1) (n := 6) (by decide) (by decide) ?_
  exact w_iret hx hb hr hlocks hK hP hS ⟨rfl, rfl, rfl, rfl⟩ dL_does_71

set_option maxHeartbeats 4000000 in
set_option maxRecDepth 100000 in
theorem h_strike_ok (l : Launch) (D : va_G) (cA : Nat → ClassId) (ad K V : Nat → Nat) (tO tT : Nat) (hi : inj 102 ad) (I : SI) (J : SJ) (X : SX) (sz : Nat) (p0 p1 p2 : Int32) {f9 o9 : Nat} (hf9 : f9 ≤ 50) (ho9 : o9 ≤ 2000) (r : Int32) (I1 : SI) (J1 : SJ) (X1 : SX) (hM : Met l yX4_strike wsX4_strike ({ frames := f9, cells := 0, slots := 0, locals := o9 }) (va_Pc [.ref (ad 0), .int p0, .int p1] (wPre 102 D cA ad I J X sz)) (qI 102 D cA ad sz r I1 J1 X1) 0 0 (fr 102 ad sz)) : Met l yL_does wsL_does ({ frames := 60, cells := 1, slots := 6, locals := 3000 }) (va_Pc [.ref (ad 0), .int 1, .int p0, .int p1, .int p2] (wPreA D cA ad K V tO tT I J X sz)) (qI 102 D cA ad sz r I1 J1 X1) 1 6 (fr 102 ad sz) := by
  refine va_MetW (cc := cL_does) (maxL := 6) (ret := some .int) (hh := [(0, 61, 62, 29), (0, 61, 67, 31), (0, 61, 72, 33)]) (by decide) rfl ?_
  intro p e s m args below meth c s₁ B hml hv
  obtain ⟨rfl, ⟨rfl, hP, hK⟩, hX, hL, hN1, hN2, hN3⟩ := hv
  have hx := B.exec
  have hb := B.bytes
  have hr := B.returns
  have hts := atoms_spec (ws := wsL_does) B.pre
  have hown : s.vm.findClass RL = some m.cls := findClass_of_methodNamed B.named
  have hlocks := B.notSynchronized
  have hS : va_S (fr 102 ad s.heap.size) s.heap s.heap [] := va_S.rf
  have hA : ∀ k, k < 102 → fr 102 ad s.heap.size (ad k) := fr_ad
  have hl := lv_entry ([.ref (ad 0), .int 1, .int p0, .int p1, .int p2]) (n := 6) (Nat.le_of_ble_eq_true rfl)
  rw [lg_entry_eq]
  generalize (lg_sl ([.ref (ad 0), .int 1, .int p0, .int p1, .int p2]) ++ List.replicate (6 - (lg_sl ([.ref (ad 0), .int 1, .int p0, .int p1, .int p2])).length) Slot.unset).toArray = ls at hl ⊢
  have hl : lv_has ls 6 [(0, .ref (ad 0)), (1, .int 1), (2, .int p0), (3, .int p1), (4, .int p2)] := hl
  refine lv_iload_n hx hb dL_does_0 rfl (lv_at hl 1 rfl) ?_
  refine lv_if_ne (tgt := 15) hx hb dL_does_1 (by decide) (fun _ => ?_) (fun z => absurd z (by decide))
  refine lv_iload_n hx hb dL_does_15 rfl (lv_at hl 1 rfl) ?_
  refine lv_iconst (v := 1) hx hb dL_does_16 (by decide) ?_
  refine lv_icmp_ne (tgt := 29) hx hb dL_does_17 (by decide) (fun z => absurd rfl z) (fun _ => ?_)
  refine lv_aload_n hx hb dL_does_20 rfl (lv_at hl 0 rfl) ?_
  refine lv_iload_n hx hb dL_does_21 rfl (lv_at hl 2 rfl) ?_
  refine lv_iload_n hx hb dL_does_22 rfl (lv_at hl 3 rfl) ?_
  refine w_calli (va_runV (As := [.int p0, .int p1]) (rest := []) ⟨hx, hb, hml, hown, hts⟩ hM (cwV 2 hts gL_does_X4_strike rfl rfl rfl (by decide +kernel) ⟨by show f9 + 1 ≤ 60; omega, by show 8 + (4 + 11) + o9 ≤ 3000; omega⟩) (w_preV hK hP 0 (by decide) ⟨rfl, rfl⟩ rfl) rfl rfl hl.1 rfl (lv_room (Nat.le_of_ble_eq_true rfl)) dL_does_23 ⟨(Nat.le_of_ble_eq_true rfl), (Nat.le_of_ble_eq_true rfl)⟩) hS (fun H locs hP hS => ?_)
  refine lv_goto (tgt := 61) hx hb dL_does_26 (by decide) ?_
  refine W.widen (k := 1) (n := 6) (by decide) (by decide) ?_
  exact w_iret hx hb hr hlocks hK hP hS ⟨rfl, rfl, rfl, rfl⟩ dL_does_61

set_option maxHeartbeats 4000000 in
set_option maxRecDepth 100000 in
theorem h_strike_eI (l : Launch) (D : va_G) (cA : Nat → ClassId) (ad K V : Nat → Nat) (tO tT : Nat) (hi : inj 102 ad) (I : SI) (J : SJ) (X : SX) (sz : Nat) (p0 p1 p2 : Int32) {f9 o9 : Nat} (hf9 : f9 ≤ 50) (ho9 : o9 ≤ 2000) (hM : vx_Met l yX4_strike wsX4_strike ({ frames := f9, cells := 1, slots := 6, locals := o9 }) (va_Pc [.ref (ad 0), .int p0, .int p1] (wPreX 102 D cA ad I J X sz)) (nInt 102 ad sz) (xT 102 D cA ad sz eI I J X) 1 6 (fr 102 ad sz)) : Met l yL_does wsL_does ({ frames := 60, cells := 1, slots := 6, locals := 3000 }) (va_Pc [.ref (ad 0), .int 1, .int p0, .int p1, .int p2] (wPreA D cA ad K V tO tT I J X sz)) (qI 102 D cA ad sz (-2) I J X) 1 6 (fr 102 ad sz) := by
  refine va_MetW (cc := cL_does) (maxL := 6) (ret := some .int) (hh := [(0, 61, 62, 29), (0, 61, 67, 31), (0, 61, 72, 33)]) (by decide) rfl ?_
  intro p e s m args below meth c s₁ B hml hv
  obtain ⟨rfl, ⟨rfl, hP, hK⟩, hX, hL, hN1, hN2, hN3⟩ := hv
  have hx := B.exec
  have hb := B.bytes
  have hr := B.returns
  have hts := atoms_spec (ws := wsL_does) B.pre
  have hown : s.vm.findClass RL = some m.cls := findClass_of_methodNamed B.named
  have hlocks := B.notSynchronized
  have hT9 := vx_table (x := yL_does) B (hts _ List.mem_cons_self)
  have hS : va_S (fr 102 ad s.heap.size) s.heap s.heap [] := va_S.rf
  have hA : ∀ k, k < 102 → fr 102 ad s.heap.size (ad k) := fr_ad
  have hl := lv_entry ([.ref (ad 0), .int 1, .int p0, .int p1, .int p2]) (n := 6) (Nat.le_of_ble_eq_true rfl)
  rw [lg_entry_eq]
  generalize (lg_sl ([.ref (ad 0), .int 1, .int p0, .int p1, .int p2]) ++ List.replicate (6 - (lg_sl ([.ref (ad 0), .int 1, .int p0, .int p1, .int p2])).length) Slot.unset).toArray = ls at hl ⊢
  have hl : lv_has ls 6 [(0, .ref (ad 0)), (1, .int 1), (2, .int p0), (3, .int p1), (4, .int p2)] := hl
  refine lv_iload_n hx hb dL_does_0 rfl (lv_at hl 1 rfl) ?_
  refine lv_if_ne (tgt := 15) hx hb dL_does_1 (by decide) (fun _ => ?_) (fun z => absurd z (by decide))
  refine lv_iload_n hx hb dL_does_15 rfl (lv_at hl 1 rfl) ?_
  refine lv_iconst (v := 1) hx hb dL_does_16 (by decide) ?_
  refine lv_icmp_ne (tgt := 29) hx hb dL_does_17 (by decide) (fun z => absurd rfl z) (fun _ => ?_)
  refine lv_aload_n hx hb dL_does_20 rfl (lv_at hl 0 rfl) ?_
  refine lv_iload_n hx hb dL_does_21 rfl (lv_at hl 2 rfl) ?_
  refine lv_iload_n hx hb dL_does_22 rfl (lv_at hl 3 rfl) ?_
  refine w_callxI (vx_runV (As := [.int p0, .int p1]) (rest := []) ⟨hx, hb, hml, hown, hts⟩ hM (cwV 2 hts gL_does_X4_strike rfl rfl rfl (by decide +kernel) ⟨by show f9 + 1 ≤ 60; omega, by show 8 + (4 + 11) + o9 ≤ 3000; omega⟩) (w_preVX hK hP hX hS 0 (by decide) ⟨rfl, rfl⟩ rfl) rfl rfl hl.1 rfl (lv_room (Nat.le_of_ble_eq_true rfl)) dL_does_23 ⟨(Nat.le_of_ble_eq_true rfl), (Nat.le_of_ble_eq_true rfl)⟩) hS (fun ce q9 H locs hP hS hce hcv hcl => ?_)
  refine vx_catch (name := eI) hown [] ⟨0, 61, 62, 29⟩ [⟨0, 61, 67, 31⟩, ⟨0, 61, 72, 33⟩] (by rw [hT9]; rfl) (fun z hz => nomatch hz) (by decide) (by decide) (hts (.classLink RL 29 eI) (List.mem_of_getElem? (i := 1) rfl)) (va_Nw.use rfl hX.2.2.1.2.2.2.1) hce hcv hcl ?_
  refine lv_astore (lv' := [(5, .ref q9), (0, .ref (ad 0)), (1, .int 1), (2, .int p0), (3, .int p1), (4, .int p2)]) hx hb dL_does_62 hl (by decide) rfl (fun ls hl => ?_)
  refine lv_bipush (v := (-2)) hx hb dL_does_64 (by decide) ?_
  refine W.widen (k := 1) (n := 6) (by decide) (by decide) ?_
  exact w_iret hx hb hr hlocks hK hP hS ⟨rfl, rfl, rfl, rfl⟩ dL_does_66

set_option maxHeartbeats 4000000 in
set_option maxRecDepth 100000 in
theorem h_strike_eS (l : Launch) (D : va_G) (cA : Nat → ClassId) (ad K V : Nat → Nat) (tO tT : Nat) (hi : inj 102 ad) (I : SI) (J : SJ) (X : SX) (sz : Nat) (p0 p1 p2 : Int32) {f9 o9 : Nat} (hf9 : f9 ≤ 50) (ho9 : o9 ≤ 2000) (hM : vx_Met l yX4_strike wsX4_strike ({ frames := f9, cells := 1, slots := 6, locals := o9 }) (va_Pc [.ref (ad 0), .int p0, .int p1] (wPreX 102 D cA ad I J X sz)) (nInt 102 ad sz) (xT 102 D cA ad sz eS I J X) 1 6 (fr 102 ad sz)) : Met l yL_does wsL_does ({ frames := 60, cells := 1, slots := 6, locals := 3000 }) (va_Pc [.ref (ad 0), .int 1, .int p0, .int p1, .int p2] (wPreA D cA ad K V tO tT I J X sz)) (qI 102 D cA ad sz (-4) I J X) 1 6 (fr 102 ad sz) := by
  refine va_MetW (cc := cL_does) (maxL := 6) (ret := some .int) (hh := [(0, 61, 62, 29), (0, 61, 67, 31), (0, 61, 72, 33)]) (by decide) rfl ?_
  intro p e s m args below meth c s₁ B hml hv
  obtain ⟨rfl, ⟨rfl, hP, hK⟩, hX, hL, hN1, hN2, hN3⟩ := hv
  have hx := B.exec
  have hb := B.bytes
  have hr := B.returns
  have hts := atoms_spec (ws := wsL_does) B.pre
  have hown : s.vm.findClass RL = some m.cls := findClass_of_methodNamed B.named
  have hlocks := B.notSynchronized
  have hT9 := vx_table (x := yL_does) B (hts _ List.mem_cons_self)
  have hS : va_S (fr 102 ad s.heap.size) s.heap s.heap [] := va_S.rf
  have hA : ∀ k, k < 102 → fr 102 ad s.heap.size (ad k) := fr_ad
  have hl := lv_entry ([.ref (ad 0), .int 1, .int p0, .int p1, .int p2]) (n := 6) (Nat.le_of_ble_eq_true rfl)
  rw [lg_entry_eq]
  generalize (lg_sl ([.ref (ad 0), .int 1, .int p0, .int p1, .int p2]) ++ List.replicate (6 - (lg_sl ([.ref (ad 0), .int 1, .int p0, .int p1, .int p2])).length) Slot.unset).toArray = ls at hl ⊢
  have hl : lv_has ls 6 [(0, .ref (ad 0)), (1, .int 1), (2, .int p0), (3, .int p1), (4, .int p2)] := hl
  refine lv_iload_n hx hb dL_does_0 rfl (lv_at hl 1 rfl) ?_
  refine lv_if_ne (tgt := 15) hx hb dL_does_1 (by decide) (fun _ => ?_) (fun z => absurd z (by decide))
  refine lv_iload_n hx hb dL_does_15 rfl (lv_at hl 1 rfl) ?_
  refine lv_iconst (v := 1) hx hb dL_does_16 (by decide) ?_
  refine lv_icmp_ne (tgt := 29) hx hb dL_does_17 (by decide) (fun z => absurd rfl z) (fun _ => ?_)
  refine lv_aload_n hx hb dL_does_20 rfl (lv_at hl 0 rfl) ?_
  refine lv_iload_n hx hb dL_does_21 rfl (lv_at hl 2 rfl) ?_
  refine lv_iload_n hx hb dL_does_22 rfl (lv_at hl 3 rfl) ?_
  refine w_callxI (vx_runV (As := [.int p0, .int p1]) (rest := []) ⟨hx, hb, hml, hown, hts⟩ hM (cwV 2 hts gL_does_X4_strike rfl rfl rfl (by decide +kernel) ⟨by show f9 + 1 ≤ 60; omega, by show 8 + (4 + 11) + o9 ≤ 3000; omega⟩) (w_preVX hK hP hX hS 0 (by decide) ⟨rfl, rfl⟩ rfl) rfl rfl hl.1 rfl (lv_room (Nat.le_of_ble_eq_true rfl)) dL_does_23 ⟨(Nat.le_of_ble_eq_true rfl), (Nat.le_of_ble_eq_true rfl)⟩) hS (fun ce q9 H locs hP hS hce hcv hcl => ?_)
  refine vx_catch (name := eS) hown [⟨0, 61, 62, 29⟩, ⟨0, 61, 67, 31⟩] ⟨0, 61, 72, 33⟩ [] (by rw [hT9]; rfl) (fun z hz => by rcases List.mem_cons.mp hz with hz | hz; exact (by subst hz; exact Or.inr ⟨by decide, eI, hts (.classLink RL 29 eI) (List.mem_of_getElem? (i := 1) rfl), hN2⟩); exact (by rw [List.mem_singleton] at hz; subst hz; exact Or.inr ⟨by decide, eA, hts (.classLink RL 31 eA) (List.mem_of_getElem? (i := 2) rfl), hN3⟩)) (by decide) (by decide) (hts (.classLink RL 33 eS) (List.mem_of_getElem? (i := 3) rfl)) (va_Nw.use rfl hX.2.2.1.2.2.2.2.2) hce hcv hcl ?_
  refine lv_astore (lv' := [(5, .ref q9), (0, .ref (ad 0)), (1, .int 1), (2, .int p0), (3, .int p1), (4, .int p2)]) hx hb dL_does_72 hl (by decide) rfl (fun ls hl => ?_)
  refine lv_bipush (v := (-4)) hx hb dL_does_74 (by decide) ?_
  refine W.widen (k := 1) (n := 6) (by decide) (by decide) ?_
  exact w_iret hx hb hr hlocks hK hP hS ⟨rfl, rfl, rfl, rfl⟩ dL_does_76

set_option maxHeartbeats 4000000 in
set_option maxRecDepth 100000 in
theorem h_bar_ok (l : Launch) (D : va_G) (cA : Nat → ClassId) (ad K V : Nat → Nat) (tO tT : Nat) (hi : inj 102 ad) (I : SI) (J : SJ) (X : SX) (sz : Nat) (p0 p1 p2 : Int32) {f9 o9 : Nat} (hf9 : f9 ≤ 50) (ho9 : o9 ≤ 2000) (r : Int32) (I1 : SI) (J1 : SJ) (X1 : SX) (hM : Met l yX4_bar wsX4_bar ({ frames := f9, cells := 0, slots := 0, locals := o9 }) (va_Pc [.ref (ad 0), .int p0, .int p1] (wPre 102 D cA ad I J X sz)) (qI 102 D cA ad sz r I1 J1 X1) 0 0 (fr 102 ad sz)) : Met l yL_does wsL_does ({ frames := 60, cells := 1, slots := 6, locals := 3000 }) (va_Pc [.ref (ad 0), .int 2, .int p0, .int p1, .int p2] (wPreA D cA ad K V tO tT I J X sz)) (qI 102 D cA ad sz r I1 J1 X1) 1 6 (fr 102 ad sz) := by
  refine va_MetW (cc := cL_does) (maxL := 6) (ret := some .int) (hh := [(0, 61, 62, 29), (0, 61, 67, 31), (0, 61, 72, 33)]) (by decide) rfl ?_
  intro p e s m args below meth c s₁ B hml hv
  obtain ⟨rfl, ⟨rfl, hP, hK⟩, hX, hL, hN1, hN2, hN3⟩ := hv
  have hx := B.exec
  have hb := B.bytes
  have hr := B.returns
  have hts := atoms_spec (ws := wsL_does) B.pre
  have hown : s.vm.findClass RL = some m.cls := findClass_of_methodNamed B.named
  have hlocks := B.notSynchronized
  have hS : va_S (fr 102 ad s.heap.size) s.heap s.heap [] := va_S.rf
  have hA : ∀ k, k < 102 → fr 102 ad s.heap.size (ad k) := fr_ad
  have hl := lv_entry ([.ref (ad 0), .int 2, .int p0, .int p1, .int p2]) (n := 6) (Nat.le_of_ble_eq_true rfl)
  rw [lg_entry_eq]
  generalize (lg_sl ([.ref (ad 0), .int 2, .int p0, .int p1, .int p2]) ++ List.replicate (6 - (lg_sl ([.ref (ad 0), .int 2, .int p0, .int p1, .int p2])).length) Slot.unset).toArray = ls at hl ⊢
  have hl : lv_has ls 6 [(0, .ref (ad 0)), (1, .int 2), (2, .int p0), (3, .int p1), (4, .int p2)] := hl
  refine lv_iload_n hx hb dL_does_0 rfl (lv_at hl 1 rfl) ?_
  refine lv_if_ne (tgt := 15) hx hb dL_does_1 (by decide) (fun _ => ?_) (fun z => absurd z (by decide))
  refine lv_iload_n hx hb dL_does_15 rfl (lv_at hl 1 rfl) ?_
  refine lv_iconst (v := 1) hx hb dL_does_16 (by decide) ?_
  refine lv_icmp_ne (tgt := 29) hx hb dL_does_17 (by decide) (fun _ => ?_) (fun z => absurd z (by decide))
  refine lv_iload_n hx hb dL_does_29 rfl (lv_at hl 1 rfl) ?_
  refine lv_iconst (v := 2) hx hb dL_does_30 (by decide) ?_
  refine lv_icmp_ne (tgt := 43) hx hb dL_does_31 (by decide) (fun z => absurd rfl z) (fun _ => ?_)
  refine lv_aload_n hx hb dL_does_34 rfl (lv_at hl 0 rfl) ?_
  refine lv_iload_n hx hb dL_does_35 rfl (lv_at hl 2 rfl) ?_
  refine lv_iload_n hx hb dL_does_36 rfl (lv_at hl 3 rfl) ?_
  refine w_calli (va_runV (As := [.int p0, .int p1]) (rest := []) ⟨hx, hb, hml, hown, hts⟩ hM (cwV 2 hts gL_does_X4_bar rfl rfl rfl (by decide +kernel) ⟨by show f9 + 1 ≤ 60; omega, by show 8 + (4 + 11) + o9 ≤ 3000; omega⟩) (w_preV hK hP 0 (by decide) ⟨rfl, rfl⟩ rfl) rfl rfl hl.1 rfl (lv_room (Nat.le_of_ble_eq_true rfl)) dL_does_37 ⟨(Nat.le_of_ble_eq_true rfl), (Nat.le_of_ble_eq_true rfl)⟩) hS (fun H locs hP hS => ?_)
  refine lv_goto (tgt := 61) hx hb dL_does_40 (by decide) ?_
  refine W.widen (k := 1) (n := 6) (by decide) (by decide) ?_
  exact w_iret hx hb hr hlocks hK hP hS ⟨rfl, rfl, rfl, rfl⟩ dL_does_61

set_option maxHeartbeats 4000000 in
set_option maxRecDepth 100000 in
theorem h_bar_eI (l : Launch) (D : va_G) (cA : Nat → ClassId) (ad K V : Nat → Nat) (tO tT : Nat) (hi : inj 102 ad) (I : SI) (J : SJ) (X : SX) (sz : Nat) (p0 p1 p2 : Int32) {f9 o9 : Nat} (hf9 : f9 ≤ 50) (ho9 : o9 ≤ 2000) (hM : vx_Met l yX4_bar wsX4_bar ({ frames := f9, cells := 1, slots := 6, locals := o9 }) (va_Pc [.ref (ad 0), .int p0, .int p1] (wPreX 102 D cA ad I J X sz)) (nInt 102 ad sz) (xT 102 D cA ad sz eI I J X) 1 6 (fr 102 ad sz)) : Met l yL_does wsL_does ({ frames := 60, cells := 1, slots := 6, locals := 3000 }) (va_Pc [.ref (ad 0), .int 2, .int p0, .int p1, .int p2] (wPreA D cA ad K V tO tT I J X sz)) (qI 102 D cA ad sz (-2) I J X) 1 6 (fr 102 ad sz) := by
  refine va_MetW (cc := cL_does) (maxL := 6) (ret := some .int) (hh := [(0, 61, 62, 29), (0, 61, 67, 31), (0, 61, 72, 33)]) (by decide) rfl ?_
  intro p e s m args below meth c s₁ B hml hv
  obtain ⟨rfl, ⟨rfl, hP, hK⟩, hX, hL, hN1, hN2, hN3⟩ := hv
  have hx := B.exec
  have hb := B.bytes
  have hr := B.returns
  have hts := atoms_spec (ws := wsL_does) B.pre
  have hown : s.vm.findClass RL = some m.cls := findClass_of_methodNamed B.named
  have hlocks := B.notSynchronized
  have hT9 := vx_table (x := yL_does) B (hts _ List.mem_cons_self)
  have hS : va_S (fr 102 ad s.heap.size) s.heap s.heap [] := va_S.rf
  have hA : ∀ k, k < 102 → fr 102 ad s.heap.size (ad k) := fr_ad
  have hl := lv_entry ([.ref (ad 0), .int 2, .int p0, .int p1, .int p2]) (n := 6) (Nat.le_of_ble_eq_true rfl)
  rw [lg_entry_eq]
  generalize (lg_sl ([.ref (ad 0), .int 2, .int p0, .int p1, .int p2]) ++ List.replicate (6 - (lg_sl ([.ref (ad 0), .int 2, .int p0, .int p1, .int p2])).length) Slot.unset).toArray = ls at hl ⊢
  have hl : lv_has ls 6 [(0, .ref (ad 0)), (1, .int 2), (2, .int p0), (3, .int p1), (4, .int p2)] := hl
  refine lv_iload_n hx hb dL_does_0 rfl (lv_at hl 1 rfl) ?_
  refine lv_if_ne (tgt := 15) hx hb dL_does_1 (by decide) (fun _ => ?_) (fun z => absurd z (by decide))
  refine lv_iload_n hx hb dL_does_15 rfl (lv_at hl 1 rfl) ?_
  refine lv_iconst (v := 1) hx hb dL_does_16 (by decide) ?_
  refine lv_icmp_ne (tgt := 29) hx hb dL_does_17 (by decide) (fun _ => ?_) (fun z => absurd z (by decide))
  refine lv_iload_n hx hb dL_does_29 rfl (lv_at hl 1 rfl) ?_
  refine lv_iconst (v := 2) hx hb dL_does_30 (by decide) ?_
  refine lv_icmp_ne (tgt := 43) hx hb dL_does_31 (by decide) (fun z => absurd rfl z) (fun _ => ?_)
  refine lv_aload_n hx hb dL_does_34 rfl (lv_at hl 0 rfl) ?_
  refine lv_iload_n hx hb dL_does_35 rfl (lv_at hl 2 rfl) ?_
  refine lv_iload_n hx hb dL_does_36 rfl (lv_at hl 3 rfl) ?_
  refine w_callxI (vx_runV (As := [.int p0, .int p1]) (rest := []) ⟨hx, hb, hml, hown, hts⟩ hM (cwV 2 hts gL_does_X4_bar rfl rfl rfl (by decide +kernel) ⟨by show f9 + 1 ≤ 60; omega, by show 8 + (4 + 11) + o9 ≤ 3000; omega⟩) (w_preVX hK hP hX hS 0 (by decide) ⟨rfl, rfl⟩ rfl) rfl rfl hl.1 rfl (lv_room (Nat.le_of_ble_eq_true rfl)) dL_does_37 ⟨(Nat.le_of_ble_eq_true rfl), (Nat.le_of_ble_eq_true rfl)⟩) hS (fun ce q9 H locs hP hS hce hcv hcl => ?_)
  refine vx_catch (name := eI) hown [] ⟨0, 61, 62, 29⟩ [⟨0, 61, 67, 31⟩, ⟨0, 61, 72, 33⟩] (by rw [hT9]; rfl) (fun z hz => nomatch hz) (by decide) (by decide) (hts (.classLink RL 29 eI) (List.mem_of_getElem? (i := 1) rfl)) (va_Nw.use rfl hX.2.2.1.2.2.2.1) hce hcv hcl ?_
  refine lv_astore (lv' := [(5, .ref q9), (0, .ref (ad 0)), (1, .int 2), (2, .int p0), (3, .int p1), (4, .int p2)]) hx hb dL_does_62 hl (by decide) rfl (fun ls hl => ?_)
  refine lv_bipush (v := (-2)) hx hb dL_does_64 (by decide) ?_
  refine W.widen (k := 1) (n := 6) (by decide) (by decide) ?_
  exact w_iret hx hb hr hlocks hK hP hS ⟨rfl, rfl, rfl, rfl⟩ dL_does_66

set_option maxHeartbeats 4000000 in
set_option maxRecDepth 100000 in
theorem h_bar_eA (l : Launch) (D : va_G) (cA : Nat → ClassId) (ad K V : Nat → Nat) (tO tT : Nat) (hi : inj 102 ad) (I : SI) (J : SJ) (X : SX) (sz : Nat) (p0 p1 p2 : Int32) {f9 o9 : Nat} (hf9 : f9 ≤ 50) (ho9 : o9 ≤ 2000) (hM : vx_Met l yX4_bar wsX4_bar ({ frames := f9, cells := 1, slots := 6, locals := o9 }) (va_Pc [.ref (ad 0), .int p0, .int p1] (wPreX 102 D cA ad I J X sz)) (nInt 102 ad sz) (xT 102 D cA ad sz eA I J X) 1 6 (fr 102 ad sz)) : Met l yL_does wsL_does ({ frames := 60, cells := 1, slots := 6, locals := 3000 }) (va_Pc [.ref (ad 0), .int 2, .int p0, .int p1, .int p2] (wPreA D cA ad K V tO tT I J X sz)) (qI 102 D cA ad sz (-3) I J X) 1 6 (fr 102 ad sz) := by
  refine va_MetW (cc := cL_does) (maxL := 6) (ret := some .int) (hh := [(0, 61, 62, 29), (0, 61, 67, 31), (0, 61, 72, 33)]) (by decide) rfl ?_
  intro p e s m args below meth c s₁ B hml hv
  obtain ⟨rfl, ⟨rfl, hP, hK⟩, hX, hL, hN1, hN2, hN3⟩ := hv
  have hx := B.exec
  have hb := B.bytes
  have hr := B.returns
  have hts := atoms_spec (ws := wsL_does) B.pre
  have hown : s.vm.findClass RL = some m.cls := findClass_of_methodNamed B.named
  have hlocks := B.notSynchronized
  have hT9 := vx_table (x := yL_does) B (hts _ List.mem_cons_self)
  have hS : va_S (fr 102 ad s.heap.size) s.heap s.heap [] := va_S.rf
  have hA : ∀ k, k < 102 → fr 102 ad s.heap.size (ad k) := fr_ad
  have hl := lv_entry ([.ref (ad 0), .int 2, .int p0, .int p1, .int p2]) (n := 6) (Nat.le_of_ble_eq_true rfl)
  rw [lg_entry_eq]
  generalize (lg_sl ([.ref (ad 0), .int 2, .int p0, .int p1, .int p2]) ++ List.replicate (6 - (lg_sl ([.ref (ad 0), .int 2, .int p0, .int p1, .int p2])).length) Slot.unset).toArray = ls at hl ⊢
  have hl : lv_has ls 6 [(0, .ref (ad 0)), (1, .int 2), (2, .int p0), (3, .int p1), (4, .int p2)] := hl
  refine lv_iload_n hx hb dL_does_0 rfl (lv_at hl 1 rfl) ?_
  refine lv_if_ne (tgt := 15) hx hb dL_does_1 (by decide) (fun _ => ?_) (fun z => absurd z (by decide))
  refine lv_iload_n hx hb dL_does_15 rfl (lv_at hl 1 rfl) ?_
  refine lv_iconst (v := 1) hx hb dL_does_16 (by decide) ?_
  refine lv_icmp_ne (tgt := 29) hx hb dL_does_17 (by decide) (fun _ => ?_) (fun z => absurd z (by decide))
  refine lv_iload_n hx hb dL_does_29 rfl (lv_at hl 1 rfl) ?_
  refine lv_iconst (v := 2) hx hb dL_does_30 (by decide) ?_
  refine lv_icmp_ne (tgt := 43) hx hb dL_does_31 (by decide) (fun z => absurd rfl z) (fun _ => ?_)
  refine lv_aload_n hx hb dL_does_34 rfl (lv_at hl 0 rfl) ?_
  refine lv_iload_n hx hb dL_does_35 rfl (lv_at hl 2 rfl) ?_
  refine lv_iload_n hx hb dL_does_36 rfl (lv_at hl 3 rfl) ?_
  refine w_callxI (vx_runV (As := [.int p0, .int p1]) (rest := []) ⟨hx, hb, hml, hown, hts⟩ hM (cwV 2 hts gL_does_X4_bar rfl rfl rfl (by decide +kernel) ⟨by show f9 + 1 ≤ 60; omega, by show 8 + (4 + 11) + o9 ≤ 3000; omega⟩) (w_preVX hK hP hX hS 0 (by decide) ⟨rfl, rfl⟩ rfl) rfl rfl hl.1 rfl (lv_room (Nat.le_of_ble_eq_true rfl)) dL_does_37 ⟨(Nat.le_of_ble_eq_true rfl), (Nat.le_of_ble_eq_true rfl)⟩) hS (fun ce q9 H locs hP hS hce hcv hcl => ?_)
  refine vx_catch (name := eA) hown [⟨0, 61, 62, 29⟩] ⟨0, 61, 67, 31⟩ [⟨0, 61, 72, 33⟩] (by rw [hT9]; rfl) (fun z hz => by rw [List.mem_singleton] at hz; subst hz; exact Or.inr ⟨by decide, eI, hts (.classLink RL 29 eI) (List.mem_of_getElem? (i := 1) rfl), hN1⟩) (by decide) (by decide) (hts (.classLink RL 31 eA) (List.mem_of_getElem? (i := 2) rfl)) (va_Nw.use rfl hX.2.2.1.2.2.2.2.1) hce hcv hcl ?_
  refine lv_astore (lv' := [(5, .ref q9), (0, .ref (ad 0)), (1, .int 2), (2, .int p0), (3, .int p1), (4, .int p2)]) hx hb dL_does_67 hl (by decide) rfl (fun ls hl => ?_)
  refine lv_bipush (v := (-3)) hx hb dL_does_69 (by decide) ?_
  refine W.widen (k := 1) (n := 6) (by decide) (by decide) ?_
  exact w_iret hx hb hr hlocks hK hP hS ⟨rfl, rfl, rfl, rfl⟩ dL_does_71

set_option maxHeartbeats 4000000 in
set_option maxRecDepth 100000 in
theorem h_rest_ok (l : Launch) (D : va_G) (cA : Nat → ClassId) (ad K V : Nat → Nat) (tO tT : Nat) (hi : inj 102 ad) (I : SI) (J : SJ) (X : SX) (sz : Nat) (p0 p1 p2 : Int32) {f9 o9 : Nat} (hf9 : f9 ≤ 50) (ho9 : o9 ≤ 2000) (r : Int32) (I1 : SI) (J1 : SJ) (X1 : SX) (hM : Met l yX4_rest wsX4_rest ({ frames := f9, cells := 0, slots := 0, locals := o9 }) (va_Pc [.ref (ad 0), .int p0, .int p1] (wPre 102 D cA ad I J X sz)) (qI 102 D cA ad sz r I1 J1 X1) 0 0 (fr 102 ad sz)) : Met l yL_does wsL_does ({ frames := 60, cells := 1, slots := 6, locals := 3000 }) (va_Pc [.ref (ad 0), .int 3, .int p0, .int p1, .int p2] (wPreA D cA ad K V tO tT I J X sz)) (qI 102 D cA ad sz r I1 J1 X1) 1 6 (fr 102 ad sz) := by
  refine va_MetW (cc := cL_does) (maxL := 6) (ret := some .int) (hh := [(0, 61, 62, 29), (0, 61, 67, 31), (0, 61, 72, 33)]) (by decide) rfl ?_
  intro p e s m args below meth c s₁ B hml hv
  obtain ⟨rfl, ⟨rfl, hP, hK⟩, hX, hL, hN1, hN2, hN3⟩ := hv
  have hx := B.exec
  have hb := B.bytes
  have hr := B.returns
  have hts := atoms_spec (ws := wsL_does) B.pre
  have hown : s.vm.findClass RL = some m.cls := findClass_of_methodNamed B.named
  have hlocks := B.notSynchronized
  have hS : va_S (fr 102 ad s.heap.size) s.heap s.heap [] := va_S.rf
  have hA : ∀ k, k < 102 → fr 102 ad s.heap.size (ad k) := fr_ad
  have hl := lv_entry ([.ref (ad 0), .int 3, .int p0, .int p1, .int p2]) (n := 6) (Nat.le_of_ble_eq_true rfl)
  rw [lg_entry_eq]
  generalize (lg_sl ([.ref (ad 0), .int 3, .int p0, .int p1, .int p2]) ++ List.replicate (6 - (lg_sl ([.ref (ad 0), .int 3, .int p0, .int p1, .int p2])).length) Slot.unset).toArray = ls at hl ⊢
  have hl : lv_has ls 6 [(0, .ref (ad 0)), (1, .int 3), (2, .int p0), (3, .int p1), (4, .int p2)] := hl
  refine lv_iload_n hx hb dL_does_0 rfl (lv_at hl 1 rfl) ?_
  refine lv_if_ne (tgt := 15) hx hb dL_does_1 (by decide) (fun _ => ?_) (fun z => absurd z (by decide))
  refine lv_iload_n hx hb dL_does_15 rfl (lv_at hl 1 rfl) ?_
  refine lv_iconst (v := 1) hx hb dL_does_16 (by decide) ?_
  refine lv_icmp_ne (tgt := 29) hx hb dL_does_17 (by decide) (fun _ => ?_) (fun z => absurd z (by decide))
  refine lv_iload_n hx hb dL_does_29 rfl (lv_at hl 1 rfl) ?_
  refine lv_iconst (v := 2) hx hb dL_does_30 (by decide) ?_
  refine lv_icmp_ne (tgt := 43) hx hb dL_does_31 (by decide) (fun _ => ?_) (fun z => absurd z (by decide))
  refine lv_iload_n hx hb dL_does_43 rfl (lv_at hl 1 rfl) ?_
  refine lv_iconst (v := 3) hx hb dL_does_44 (by decide) ?_
  refine lv_icmp_ne (tgt := 57) hx hb dL_does_45 (by decide) (fun z => absurd rfl z) (fun _ => ?_)
  refine lv_aload_n hx hb dL_does_48 rfl (lv_at hl 0 rfl) ?_
  refine lv_iload_n hx hb dL_does_49 rfl (lv_at hl 2 rfl) ?_
  refine lv_iload_n hx hb dL_does_50 rfl (lv_at hl 3 rfl) ?_
  refine w_calli (va_runV (As := [.int p0, .int p1]) (rest := []) ⟨hx, hb, hml, hown, hts⟩ hM (cwV 2 hts gL_does_X4_rest rfl rfl rfl (by decide +kernel) ⟨by show f9 + 1 ≤ 60; omega, by show 8 + (3 + 11) + o9 ≤ 3000; omega⟩) (w_preV hK hP 0 (by decide) ⟨rfl, rfl⟩ rfl) rfl rfl hl.1 rfl (lv_room (Nat.le_of_ble_eq_true rfl)) dL_does_51 ⟨(Nat.le_of_ble_eq_true rfl), (Nat.le_of_ble_eq_true rfl)⟩) hS (fun H locs hP hS => ?_)
  refine lv_goto (tgt := 61) hx hb dL_does_54 (by decide) ?_
  refine W.widen (k := 1) (n := 6) (by decide) (by decide) ?_
  exact w_iret hx hb hr hlocks hK hP hS ⟨rfl, rfl, rfl, rfl⟩ dL_does_61

set_option maxHeartbeats 4000000 in
set_option maxRecDepth 100000 in
theorem h_rest_eI (l : Launch) (D : va_G) (cA : Nat → ClassId) (ad K V : Nat → Nat) (tO tT : Nat) (hi : inj 102 ad) (I : SI) (J : SJ) (X : SX) (sz : Nat) (p0 p1 p2 : Int32) {f9 o9 : Nat} (hf9 : f9 ≤ 50) (ho9 : o9 ≤ 2000) (hM : vx_Met l yX4_rest wsX4_rest ({ frames := f9, cells := 1, slots := 6, locals := o9 }) (va_Pc [.ref (ad 0), .int p0, .int p1] (wPreX 102 D cA ad I J X sz)) (nInt 102 ad sz) (xT 102 D cA ad sz eI I J X) 1 6 (fr 102 ad sz)) : Met l yL_does wsL_does ({ frames := 60, cells := 1, slots := 6, locals := 3000 }) (va_Pc [.ref (ad 0), .int 3, .int p0, .int p1, .int p2] (wPreA D cA ad K V tO tT I J X sz)) (qI 102 D cA ad sz (-2) I J X) 1 6 (fr 102 ad sz) := by
  refine va_MetW (cc := cL_does) (maxL := 6) (ret := some .int) (hh := [(0, 61, 62, 29), (0, 61, 67, 31), (0, 61, 72, 33)]) (by decide) rfl ?_
  intro p e s m args below meth c s₁ B hml hv
  obtain ⟨rfl, ⟨rfl, hP, hK⟩, hX, hL, hN1, hN2, hN3⟩ := hv
  have hx := B.exec
  have hb := B.bytes
  have hr := B.returns
  have hts := atoms_spec (ws := wsL_does) B.pre
  have hown : s.vm.findClass RL = some m.cls := findClass_of_methodNamed B.named
  have hlocks := B.notSynchronized
  have hT9 := vx_table (x := yL_does) B (hts _ List.mem_cons_self)
  have hS : va_S (fr 102 ad s.heap.size) s.heap s.heap [] := va_S.rf
  have hA : ∀ k, k < 102 → fr 102 ad s.heap.size (ad k) := fr_ad
  have hl := lv_entry ([.ref (ad 0), .int 3, .int p0, .int p1, .int p2]) (n := 6) (Nat.le_of_ble_eq_true rfl)
  rw [lg_entry_eq]
  generalize (lg_sl ([.ref (ad 0), .int 3, .int p0, .int p1, .int p2]) ++ List.replicate (6 - (lg_sl ([.ref (ad 0), .int 3, .int p0, .int p1, .int p2])).length) Slot.unset).toArray = ls at hl ⊢
  have hl : lv_has ls 6 [(0, .ref (ad 0)), (1, .int 3), (2, .int p0), (3, .int p1), (4, .int p2)] := hl
  refine lv_iload_n hx hb dL_does_0 rfl (lv_at hl 1 rfl) ?_
  refine lv_if_ne (tgt := 15) hx hb dL_does_1 (by decide) (fun _ => ?_) (fun z => absurd z (by decide))
  refine lv_iload_n hx hb dL_does_15 rfl (lv_at hl 1 rfl) ?_
  refine lv_iconst (v := 1) hx hb dL_does_16 (by decide) ?_
  refine lv_icmp_ne (tgt := 29) hx hb dL_does_17 (by decide) (fun _ => ?_) (fun z => absurd z (by decide))
  refine lv_iload_n hx hb dL_does_29 rfl (lv_at hl 1 rfl) ?_
  refine lv_iconst (v := 2) hx hb dL_does_30 (by decide) ?_
  refine lv_icmp_ne (tgt := 43) hx hb dL_does_31 (by decide) (fun _ => ?_) (fun z => absurd z (by decide))
  refine lv_iload_n hx hb dL_does_43 rfl (lv_at hl 1 rfl) ?_
  refine lv_iconst (v := 3) hx hb dL_does_44 (by decide) ?_
  refine lv_icmp_ne (tgt := 57) hx hb dL_does_45 (by decide) (fun z => absurd rfl z) (fun _ => ?_)
  refine lv_aload_n hx hb dL_does_48 rfl (lv_at hl 0 rfl) ?_
  refine lv_iload_n hx hb dL_does_49 rfl (lv_at hl 2 rfl) ?_
  refine lv_iload_n hx hb dL_does_50 rfl (lv_at hl 3 rfl) ?_
  refine w_callxI (vx_runV (As := [.int p0, .int p1]) (rest := []) ⟨hx, hb, hml, hown, hts⟩ hM (cwV 2 hts gL_does_X4_rest rfl rfl rfl (by decide +kernel) ⟨by show f9 + 1 ≤ 60; omega, by show 8 + (3 + 11) + o9 ≤ 3000; omega⟩) (w_preVX hK hP hX hS 0 (by decide) ⟨rfl, rfl⟩ rfl) rfl rfl hl.1 rfl (lv_room (Nat.le_of_ble_eq_true rfl)) dL_does_51 ⟨(Nat.le_of_ble_eq_true rfl), (Nat.le_of_ble_eq_true rfl)⟩) hS (fun ce q9 H locs hP hS hce hcv hcl => ?_)
  refine vx_catch (name := eI) hown [] ⟨0, 61, 62, 29⟩ [⟨0, 61, 67, 31⟩, ⟨0, 61, 72, 33⟩] (by rw [hT9]; rfl) (fun z hz => nomatch hz) (by decide) (by decide) (hts (.classLink RL 29 eI) (List.mem_of_getElem? (i := 1) rfl)) (va_Nw.use rfl hX.2.2.1.2.2.2.1) hce hcv hcl ?_
  refine lv_astore (lv' := [(5, .ref q9), (0, .ref (ad 0)), (1, .int 3), (2, .int p0), (3, .int p1), (4, .int p2)]) hx hb dL_does_62 hl (by decide) rfl (fun ls hl => ?_)
  refine lv_bipush (v := (-2)) hx hb dL_does_64 (by decide) ?_
  refine W.widen (k := 1) (n := 6) (by decide) (by decide) ?_
  exact w_iret hx hb hr hlocks hK hP hS ⟨rfl, rfl, rfl, rfl⟩ dL_does_66

set_option maxHeartbeats 4000000 in
set_option maxRecDepth 100000 in
theorem h_fade_ok (l : Launch) (D : va_G) (cA : Nat → ClassId) (ad K V : Nat → Nat) (tO tT : Nat) (hi : inj 102 ad) (I : SI) (J : SJ) (X : SX) (sz : Nat) (p0 p1 p2 : Int32) {f9 o9 : Nat} (hf9 : f9 ≤ 50) (ho9 : o9 ≤ 2000) (r : Int32) (I1 : SI) (J1 : SJ) (X1 : SX) (hM : Met l yX4_fade wsX4_fade ({ frames := f9, cells := 0, slots := 0, locals := o9 }) (va_Pc [.ref (ad 0)] (wPre 102 D cA ad I J X sz)) (qI 102 D cA ad sz r I1 J1 X1) 0 0 (fr 102 ad sz)) : Met l yL_does wsL_does ({ frames := 60, cells := 1, slots := 6, locals := 3000 }) (va_Pc [.ref (ad 0), .int 4, .int p0, .int p1, .int p2] (wPreA D cA ad K V tO tT I J X sz)) (qI 102 D cA ad sz r I1 J1 X1) 1 6 (fr 102 ad sz) := by
  refine va_MetW (cc := cL_does) (maxL := 6) (ret := some .int) (hh := [(0, 61, 62, 29), (0, 61, 67, 31), (0, 61, 72, 33)]) (by decide) rfl ?_
  intro p e s m args below meth c s₁ B hml hv
  obtain ⟨rfl, ⟨rfl, hP, hK⟩, hX, hL, hN1, hN2, hN3⟩ := hv
  have hx := B.exec
  have hb := B.bytes
  have hr := B.returns
  have hts := atoms_spec (ws := wsL_does) B.pre
  have hown : s.vm.findClass RL = some m.cls := findClass_of_methodNamed B.named
  have hlocks := B.notSynchronized
  have hS : va_S (fr 102 ad s.heap.size) s.heap s.heap [] := va_S.rf
  have hA : ∀ k, k < 102 → fr 102 ad s.heap.size (ad k) := fr_ad
  have hl := lv_entry ([.ref (ad 0), .int 4, .int p0, .int p1, .int p2]) (n := 6) (Nat.le_of_ble_eq_true rfl)
  rw [lg_entry_eq]
  generalize (lg_sl ([.ref (ad 0), .int 4, .int p0, .int p1, .int p2]) ++ List.replicate (6 - (lg_sl ([.ref (ad 0), .int 4, .int p0, .int p1, .int p2])).length) Slot.unset).toArray = ls at hl ⊢
  have hl : lv_has ls 6 [(0, .ref (ad 0)), (1, .int 4), (2, .int p0), (3, .int p1), (4, .int p2)] := hl
  refine lv_iload_n hx hb dL_does_0 rfl (lv_at hl 1 rfl) ?_
  refine lv_if_ne (tgt := 15) hx hb dL_does_1 (by decide) (fun _ => ?_) (fun z => absurd z (by decide))
  refine lv_iload_n hx hb dL_does_15 rfl (lv_at hl 1 rfl) ?_
  refine lv_iconst (v := 1) hx hb dL_does_16 (by decide) ?_
  refine lv_icmp_ne (tgt := 29) hx hb dL_does_17 (by decide) (fun _ => ?_) (fun z => absurd z (by decide))
  refine lv_iload_n hx hb dL_does_29 rfl (lv_at hl 1 rfl) ?_
  refine lv_iconst (v := 2) hx hb dL_does_30 (by decide) ?_
  refine lv_icmp_ne (tgt := 43) hx hb dL_does_31 (by decide) (fun _ => ?_) (fun z => absurd z (by decide))
  refine lv_iload_n hx hb dL_does_43 rfl (lv_at hl 1 rfl) ?_
  refine lv_iconst (v := 3) hx hb dL_does_44 (by decide) ?_
  refine lv_icmp_ne (tgt := 57) hx hb dL_does_45 (by decide) (fun _ => ?_) (fun z => absurd z (by decide))
  refine lv_aload_n hx hb dL_does_57 rfl (lv_at hl 0 rfl) ?_
  refine w_calli (va_runV (As := []) (rest := []) ⟨hx, hb, hml, hown, hts⟩ hM (cwV 0 hts gL_does_X4_fade rfl rfl rfl (by decide +kernel) ⟨by show f9 + 1 ≤ 60; omega, by show 8 + (2 + 11) + o9 ≤ 3000; omega⟩) (w_preV hK hP 0 (by decide) ⟨rfl, rfl⟩ rfl) rfl rfl hl.1 rfl (lv_room (Nat.le_of_ble_eq_true rfl)) dL_does_58 ⟨(Nat.le_of_ble_eq_true rfl), (Nat.le_of_ble_eq_true rfl)⟩) hS (fun H locs hP hS => ?_)
  refine W.widen (k := 1) (n := 6) (by decide) (by decide) ?_
  exact w_iret hx hb hr hlocks hK hP hS ⟨rfl, rfl, rfl, rfl⟩ dL_does_61

set_option maxHeartbeats 4000000 in
set_option maxRecDepth 100000 in
theorem h_walk_ok (l : Launch) (D : va_G) (cA : Nat → ClassId) (ad K V : Nat → Nat) (tO tT : Nat) (hi : inj 102 ad) (I : SI) (J : SJ) (X : SX) (sz : Nat) (p0 p1 : Int32) {f9 o9 : Nat} (hf9 : f9 ≤ 50) (ho9 : o9 ≤ 2000) (I1 : SI) (J1 : SJ) (X1 : SX) (hM : Met l yX4_walk wsX4_walk ({ frames := f9, cells := 0, slots := 0, locals := o9 }) (va_Pc [.ref (ad 0), .int p0, .int p1] (wPre 102 D cA ad I J X sz)) (qV 102 D cA ad sz I1 J1 X1) 0 0 (fr 102 ad sz)) : Met l yL_walks wsL_walks ({ frames := 60, cells := 1, slots := 6, locals := 3000 }) (va_Pc [.ref (ad 0), .int p0, .int p1] (wPreA D cA ad K V tO tT I J X sz)) (qI 102 D cA ad sz 0 I1 J1 X1) 1 6 (fr 102 ad sz) := by
  refine va_MetW (cc := cL_walks) (maxL := 4) (ret := some .int) (hh := [(0, 7, 8, 31)]) (by decide) rfl ?_
  intro p e s m args below meth c s₁ B hml hv
  obtain ⟨rfl, ⟨rfl, hP, hK⟩, hX, hL, hN1, hN2, hN3⟩ := hv
  have hx := B.exec
  have hb := B.bytes
  have hr := B.returns
  have hts := atoms_spec (ws := wsL_walks) B.pre
  have hown : s.vm.findClass RL = some m.cls := findClass_of_methodNamed B.named
  have hlocks := B.notSynchronized
  have hS : va_S (fr 102 ad s.heap.size) s.heap s.heap [] := va_S.rf
  have hA : ∀ k, k < 102 → fr 102 ad s.heap.size (ad k) := fr_ad
  have hl := lv_entry ([.ref (ad 0), .int p0, .int p1]) (n := 4) (Nat.le_of_ble_eq_true rfl)
  rw [lg_entry_eq]
  generalize (lg_sl ([.ref (ad 0), .int p0, .int p1]) ++ List.replicate (4 - (lg_sl ([.ref (ad 0), .int p0, .int p1])).length) Slot.unset).toArray = ls at hl ⊢
  have hl : lv_has ls 4 [(0, .ref (ad 0)), (1, .int p0), (2, .int p1)] := hl
  refine lv_aload_n hx hb dL_walks_0 rfl (lv_at hl 0 rfl) ?_
  refine lv_iload_n hx hb dL_walks_1 rfl (lv_at hl 1 rfl) ?_
  refine lv_iload_n hx hb dL_walks_2 rfl (lv_at hl 2 rfl) ?_
  refine w_callv (va_runV (As := [.int p0, .int p1]) (rest := []) ⟨hx, hb, hml, hown, hts⟩ hM (cwV 2 hts gL_walks_X4_walk rfl rfl rfl (by decide +kernel) ⟨by show f9 + 1 ≤ 60; omega, by show 8 + (3 + 11) + o9 ≤ 3000; omega⟩) (w_preV hK hP 0 (by decide) ⟨rfl, rfl⟩ rfl) rfl rfl hl.1 rfl (lv_room (Nat.le_of_ble_eq_true rfl)) dL_walks_3 ⟨(Nat.le_of_ble_eq_true rfl), (Nat.le_of_ble_eq_true rfl)⟩) hS (fun H locs hP hS => ?_)
  refine lv_iconst (v := 0) hx hb dL_walks_6 (by decide) ?_
  refine W.widen (k := 1) (n := 6) (by decide) (by decide) ?_
  exact w_iret hx hb hr hlocks hK hP hS ⟨rfl, rfl, rfl, rfl⟩ dL_walks_7

set_option maxHeartbeats 4000000 in
set_option maxRecDepth 100000 in
theorem h_walk_eA (l : Launch) (D : va_G) (cA : Nat → ClassId) (ad K V : Nat → Nat) (tO tT : Nat) (hi : inj 102 ad) (I : SI) (J : SJ) (X : SX) (sz : Nat) (p0 p1 : Int32) {f9 o9 : Nat} (hf9 : f9 ≤ 50) (ho9 : o9 ≤ 2000) (hM : vx_Met l yX4_walk wsX4_walk ({ frames := f9, cells := 1, slots := 6, locals := o9 }) (va_Pc [.ref (ad 0), .int p0, .int p1] (wPreX 102 D cA ad I J X sz)) (nV 102 ad sz) (xT 102 D cA ad sz eA I J X) 1 6 (fr 102 ad sz)) : Met l yL_walks wsL_walks ({ frames := 60, cells := 1, slots := 6, locals := 3000 }) (va_Pc [.ref (ad 0), .int p0, .int p1] (wPreA D cA ad K V tO tT I J X sz)) (qI 102 D cA ad sz (-3) I J X) 1 6 (fr 102 ad sz) := by
  refine va_MetW (cc := cL_walks) (maxL := 4) (ret := some .int) (hh := [(0, 7, 8, 31)]) (by decide) rfl ?_
  intro p e s m args below meth c s₁ B hml hv
  obtain ⟨rfl, ⟨rfl, hP, hK⟩, hX, hL, hN1, hN2, hN3⟩ := hv
  have hx := B.exec
  have hb := B.bytes
  have hr := B.returns
  have hts := atoms_spec (ws := wsL_walks) B.pre
  have hown : s.vm.findClass RL = some m.cls := findClass_of_methodNamed B.named
  have hlocks := B.notSynchronized
  have hT9 := vx_table (x := yL_walks) B (hts _ List.mem_cons_self)
  have hS : va_S (fr 102 ad s.heap.size) s.heap s.heap [] := va_S.rf
  have hA : ∀ k, k < 102 → fr 102 ad s.heap.size (ad k) := fr_ad
  have hl := lv_entry ([.ref (ad 0), .int p0, .int p1]) (n := 4) (Nat.le_of_ble_eq_true rfl)
  rw [lg_entry_eq]
  generalize (lg_sl ([.ref (ad 0), .int p0, .int p1]) ++ List.replicate (4 - (lg_sl ([.ref (ad 0), .int p0, .int p1])).length) Slot.unset).toArray = ls at hl ⊢
  have hl : lv_has ls 4 [(0, .ref (ad 0)), (1, .int p0), (2, .int p1)] := hl
  refine lv_aload_n hx hb dL_walks_0 rfl (lv_at hl 0 rfl) ?_
  refine lv_iload_n hx hb dL_walks_1 rfl (lv_at hl 1 rfl) ?_
  refine lv_iload_n hx hb dL_walks_2 rfl (lv_at hl 2 rfl) ?_
  refine w_callxU (vx_runV (As := [.int p0, .int p1]) (rest := []) ⟨hx, hb, hml, hown, hts⟩ hM (cwV 2 hts gL_walks_X4_walk rfl rfl rfl (by decide +kernel) ⟨by show f9 + 1 ≤ 60; omega, by show 8 + (3 + 11) + o9 ≤ 3000; omega⟩) (w_preVX hK hP hX hS 0 (by decide) ⟨rfl, rfl⟩ rfl) rfl rfl hl.1 rfl (lv_room (Nat.le_of_ble_eq_true rfl)) dL_walks_3 ⟨(Nat.le_of_ble_eq_true rfl), (Nat.le_of_ble_eq_true rfl)⟩) hS (fun ce q9 H locs hP hS hce hcv hcl => ?_)
  refine vx_catch (name := eA) hown [] ⟨0, 7, 8, 31⟩ [] (by rw [hT9]; rfl) (fun z hz => nomatch hz) (by decide) (by decide) (hts (.classLink RL 31 eA) (List.mem_of_getElem? (i := 1) rfl)) (va_Nw.use rfl hX.2.2.1.2.2.2.2.1) hce hcv hcl ?_
  refine lv_astore_n (lv' := [(3, .ref q9), (0, .ref (ad 0)), (1, .int p0), (2, .int p1)]) hx hb dL_walks_8 rfl hl (by decide) rfl (fun ls hl => ?_)
  refine lv_bipush (v := (-3)) hx hb dL_walks_9 (by decide) ?_
  refine W.widen (k := 1) (n := 6) (by decide) (by decide) ?_
  exact w_iret hx hb hr hlocks hK hP hS ⟨rfl, rfl, rfl, rfl⟩ dL_walks_11
