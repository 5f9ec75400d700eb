/-! the law's helpers: what they need, and what each answers -/
def XA (ad K V : Nat → Nat) (tO tT sz : Nat) (U : State) : Prop := XS 116 ad sz U ∧ XL 116 ad K V tO tT sz U ∧ va_Nc eA eI U ∧ va_Nc eS eI U
theorem XA.go {ad K V : Nat → Nat} {tO tT : Nat} {s U : State} {H : Heap} {locs : List Loc} (h : XA ad K V tO tT s.heap.size s) (hS : va_S (fr 116 ad s.heap.size) s.heap H locs) (hU : U.heap = H) (hW : s.WarmedH U.vm) : XA ad K V tO tT H.size U := ⟨h.1.go hS hU hW, h.2.1.go hS hU hW, va_Nc.moved hW.alike h.2.2.1, va_Nc.moved hW.alike h.2.2.2⟩
def wPreA (D : va_G) (cA : Nat → ClassId) (ad K V : Nat → Nat) (tO tT : Nat) (I : SI) (J : SJ) (X : SX) (sz : Nat) : State → Prop := fun U => wPre 116 D cA ad I J X sz U ∧ XA ad K V tO tT sz U
theorem wPreA_blind {D : va_G} {cA : Nat → ClassId} {ad K V : Nat → Nat} {tO tT : Nat} {I : SI} {J : SJ} {X : SX} {sz : Nat} {As : List Value} : FrameBlind (va_Pc As (wPreA D cA ad K V tO tT I J X sz)) := fun a U g mk q => ⟨q.1, ⟨q.2.1.1, q.2.1.2.1, va_K.moved (u := U) (U := U.calling g mk a) (Vm.Alike.refl U.vm) q.2.1.2.2⟩, ⟨q.2.2.1.1.moved (U := U.calling g mk a) (Vm.Alike.refl U.vm), q.2.2.1.2.1.moved (U := U.calling g mk a) (Vm.Alike.refl U.vm), q.2.2.1.2.2.same (U := U.calling g mk a) rfl⟩, q.2.2.2.1.same (U := U.calling g mk a) rfl rfl, va_Nc.moved (U := U.calling g mk a) (Vm.Alike.refl U.vm) q.2.2.2.2.1, va_Nc.moved (U := U.calling g mk a) (Vm.Alike.refl U.vm) q.2.2.2.2.2⟩
theorem w_preSA {s : State} {H : Heap} {locs : List Loc} {D : va_G} {cA : Nat → ClassId} {ad K V : Nat → Nat} {tO tT : Nat} {I : SI} {J : SJ} {X : SX} {As : List Value} (hK : WK D cA s) (hP : WP 116 D cA ad I J X H) (hX : XA ad K V tO tT s.heap.size s) (hS : va_S (fr 116 ad s.heap.size) s.heap H locs) : PreS s H (va_Pc As (wPreA D cA ad K V tO tT I J X H.size)) As := ⟨wPreA_blind, fun U hU hW => ⟨rfl, ⟨by rw [hU], by rw [hU]; exact hP, va_K.moved hW.alike hK⟩, hX.go hS hU hW⟩⟩

set_option maxHeartbeats 4000000 in
set_option maxRecDepth 100000 in
theorem h_loan_ok (l : Launch) (D : va_G) (cA : Nat → ClassId) (ad K V : Nat → Nat) (tO tT : Nat) (hi : inj 116 ad) (I : SI) (J : SJ) (X : SX) (sz : Nat) (p0 p1 p2 : Int32) {f9 o9 : Nat} (hf9 : f9 ≤ 90) (ho9 : o9 ≤ 3000) (r : Int32) (I1 : SI) (J1 : SJ) (X1 : SX) (hM : Met l yX4_loan wsX4_loan ({ frames := f9, cells := 0, slots := 0, locals := o9 }) (va_Pc [.ref (ad 0), .int p0, .int p1, .int p2] (wPre 116 D cA ad I J X sz)) (qI 116 D cA ad sz r I1 J1 X1) 0 0 (fr 116 ad sz)) : Met l yL_loan wsL_loan ({ frames := 100, cells := 1, slots := 6, locals := 4000 }) (va_Pc [.ref (ad 0), .int p0, .int p1, .int p2, .ref (ad 114)] (wPreA D cA ad K V tO tT I J X sz)) (qI 116 D cA ad sz 0 I1 (st2 J1 114 0 r.toInt64) X1) 1 6 (fr 116 ad sz) := by
  refine va_MetW (cc := cL_loan) (maxL := 6) (ret := some .int) (hh := [(0, 12, 15, 13), (0, 12, 19, 15)]) (by decide) rfl ?_
  intro p e s m args below meth c s₁ B hml hv
  obtain ⟨rfl, ⟨rfl, hP, hK⟩, hX, hL, hN1, hN2⟩ := hv
  have hx := B.exec
  have hb := B.bytes
  have hr := B.returns
  have hts := atoms_spec (ws := wsL_loan) B.pre
  have hown : s.vm.findClass RL = some m.cls := findClass_of_methodNamed B.named
  have hlocks := B.notSynchronized
  have hS : va_S (fr 116 ad s.heap.size) s.heap s.heap [] := va_S.rf
  have hA : ∀ k, k < 116 → fr 116 ad s.heap.size (ad k) := fr_ad
  have hl := lv_entry ([.ref (ad 0), .int p0, .int p1, .int p2, .ref (ad 114)]) (n := 6) (Nat.le_of_ble_eq_true rfl)
  rw [lg_entry_eq]
  generalize (lg_sl ([.ref (ad 0), .int p0, .int p1, .int p2, .ref (ad 114)]) ++ List.replicate (6 - (lg_sl ([.ref (ad 0), .int p0, .int p1, .int p2, .ref (ad 114)])).length) Slot.unset).toArray = ls at hl ⊢
  have hl : lv_has ls 6 [(0, .ref (ad 0)), (1, .int p0), (2, .int p1), (3, .int p2), (4, .ref (ad 114))] := hl
  refine lv_aload hx hb dL_loan_0 (lv_at hl 4 rfl) ?_
  refine lv_iconst (v := 0) hx hb dL_loan_2 (by decide) ?_
  refine lv_aload_n hx hb dL_loan_3 rfl (lv_at hl 0 rfl) ?_
  refine lv_iload_n hx hb dL_loan_4 rfl (lv_at hl 1 rfl) ?_
  refine lv_iload_n hx hb dL_loan_5 rfl (lv_at hl 2 rfl) ?_
  refine lv_iload_n hx hb dL_loan_6 rfl (lv_at hl 3 rfl) ?_
  refine w_calli (va_runV (As := [.int p0, .int p1, .int p2]) (rest := [.int 0, .ref (ad 114)]) ⟨hx, hb, hml, hown, hts⟩ hM (cwV 3 hts gL_loan_X4_loan rfl rfl rfl (by decide +kernel) ⟨by show f9 + 1 ≤ 100; omega, by show 8 + (5 + 11) + o9 ≤ 4000; omega⟩) (w_preV hK hP 0 (by decide) ⟨rfl, rfl⟩ rfl) rfl rfl hl.1 rfl (lv_room (Nat.le_of_ble_eq_true rfl)) dL_loan_7 ⟨(Nat.le_of_ble_eq_true rfl), (Nat.le_of_ble_eq_true rfl)⟩) hS (fun H locs hP hS => ?_)
  refine lv_i2l (v := r.toInt64) hx hb dL_loan_10 rfl ?_
  refine w_last (v := r.toInt64) hx hb hK hP hi hA hS 114 0 ⟨rfl, by decide⟩ (by decide) (x := 0) rfl dL_loan_11 (fun H locs hP hS => ?_)
  refine lv_goto (tgt := 23) hx hb dL_loan_12 (by decide) ?_
  refine lv_iconst (v := 0) hx hb dL_loan_23 (by decide) ?_
  refine W.widen (k := 1) (n := 6) (by decide) (by decide) ?_
  exact w_iret hx hb hr hlocks hK hP hS ⟨rfl, rfl, rfl, rfl⟩ dL_loan_24

set_option maxHeartbeats 4000000 in
set_option maxRecDepth 100000 in
theorem h_loan_t1 (l : Launch) (D : va_G) (cA : Nat → ClassId) (ad K V : Nat → Nat) (tO tT : Nat) (hi : inj 116 ad) (I : SI) (J : SJ) (X : SX) (sz : Nat) (p0 p1 p2 : Int32) {f9 o9 : Nat} (hf9 : f9 ≤ 90) (ho9 : o9 ≤ 3000) (hM : vx_Met l yX4_loan wsX4_loan ({ frames := f9, cells := 1, slots := 6, locals := o9 }) (va_Pc [.ref (ad 0), .int p0, .int p1, .int p2] (wPreX 116 D cA ad I J X sz)) (nInt 116 ad sz) (xT 116 D cA ad sz eI I J X) 1 6 (fr 116 ad sz)) : Met l yL_loan wsL_loan ({ frames := 100, cells := 1, slots := 6, locals := 4000 }) (va_Pc [.ref (ad 0), .int p0, .int p1, .int p2, .ref (ad 114)] (wPreA D cA ad K V tO tT I J X sz)) (qI 116 D cA ad sz 1 I J X) 1 6 (fr 116 ad sz) := by
  refine va_MetW (cc := cL_loan) (maxL := 6) (ret := some .int) (hh := [(0, 12, 15, 13), (0, 12, 19, 15)]) (by decide) rfl ?_
  intro p e s m args below meth c s₁ B hml hv
  obtain ⟨rfl, ⟨rfl, hP, hK⟩, hX, hL, hN1, hN2⟩ := hv
  have hx := B.exec
  have hb := B.bytes
  have hr := B.returns
  have hts := atoms_spec (ws := wsL_loan) B.pre
  have hown : s.vm.findClass RL = some m.cls := findClass_of_methodNamed B.named
  have hlocks := B.notSynchronized
  have hT9 := vx_table (x := yL_loan) B (hts _ List.mem_cons_self)
  have hS : va_S (fr 116 ad s.heap.size) s.heap s.heap [] := va_S.rf
  have hA : ∀ k, k < 116 → fr 116 ad s.heap.size (ad k) := fr_ad
  have hl := lv_entry ([.ref (ad 0), .int p0, .int p1, .int p2, .ref (ad 114)]) (n := 6) (Nat.le_of_ble_eq_true rfl)
  rw [lg_entry_eq]
  generalize (lg_sl ([.ref (ad 0), .int p0, .int p1, .int p2, .ref (ad 114)]) ++ List.replicate (6 - (lg_sl ([.ref (ad 0), .int p0, .int p1, .int p2, .ref (ad 114)])).length) Slot.unset).toArray = ls at hl ⊢
  have hl : lv_has ls 6 [(0, .ref (ad 0)), (1, .int p0), (2, .int p1), (3, .int p2), (4, .ref (ad 114))] := hl
  refine lv_aload hx hb dL_loan_0 (lv_at hl 4 rfl) ?_
  refine lv_iconst (v := 0) hx hb dL_loan_2 (by decide) ?_
  refine lv_aload_n hx hb dL_loan_3 rfl (lv_at hl 0 rfl) ?_
  refine lv_iload_n hx hb dL_loan_4 rfl (lv_at hl 1 rfl) ?_
  refine lv_iload_n hx hb dL_loan_5 rfl (lv_at hl 2 rfl) ?_
  refine lv_iload_n hx hb dL_loan_6 rfl (lv_at hl 3 rfl) ?_
  refine w_callxI (vx_runV (As := [.int p0, .int p1, .int p2]) (rest := [.int 0, .ref (ad 114)]) ⟨hx, hb, hml, hown, hts⟩ hM (cwV 3 hts gL_loan_X4_loan rfl rfl rfl (by decide +kernel) ⟨by show f9 + 1 ≤ 100; omega, by show 8 + (5 + 11) + o9 ≤ 4000; omega⟩) (w_preVX hK hP hX hS 0 (by decide) ⟨rfl, rfl⟩ rfl) rfl rfl hl.1 rfl (lv_room (Nat.le_of_ble_eq_true rfl)) dL_loan_7 ⟨(Nat.le_of_ble_eq_true rfl), (Nat.le_of_ble_eq_true rfl)⟩) hS (fun ce q9 H locs hP hS hce hcv hcl => ?_)
  refine vx_catch (name := eI) hown [] ⟨0, 12, 15, 13⟩ [⟨0, 12, 19, 15⟩] (by rw [hT9]; rfl) (fun z hz => nomatch hz) (by decide) (by decide) (hts (.classLink RL 13 eI) (List.mem_of_getElem? (i := 1) rfl)) (va_Nw.use rfl hX.2.2.1.2.2.2.1) hce hcv hcl ?_
  refine lv_astore (lv' := [(5, .ref q9), (0, .ref (ad 0)), (1, .int p0), (2, .int p1), (3, .int p2), (4, .ref (ad 114))]) hx hb dL_loan_15 hl (by decide) rfl (fun ls hl => ?_)
  refine lv_iconst (v := 1) hx hb dL_loan_17 (by decide) ?_
  refine W.widen (k := 1) (n := 6) (by decide) (by decide) ?_
  exact w_iret hx hb hr hlocks hK hP hS ⟨rfl, rfl, rfl, rfl⟩ dL_loan_18

set_option maxHeartbeats 4000000 in
set_option maxRecDepth 100000 in
theorem h_loan_t2 (l : Launch) (D : va_G) (cA : Nat → ClassId) (ad K V : Nat → Nat) (tO tT : Nat) (hi : inj 116 ad) (I : SI) (J : SJ) (X : SX) (sz : Nat) (p0 p1 p2 : Int32) {f9 o9 : Nat} (hf9 : f9 ≤ 90) (ho9 : o9 ≤ 3000) (hM : vx_Met l yX4_loan wsX4_loan ({ frames := f9, cells := 1, slots := 6, locals := o9 }) (va_Pc [.ref (ad 0), .int p0, .int p1, .int p2] (wPreX 116 D cA ad I J X sz)) (nInt 116 ad sz) (xT 116 D cA ad sz eA I J X) 1 6 (fr 116 ad sz)) : Met l yL_loan wsL_loan ({ frames := 100, cells := 1, slots := 6, locals := 4000 }) (va_Pc [.ref (ad 0), .int p0, .int p1, .int p2, .ref (ad 114)] (wPreA D cA ad K V tO tT I J X sz)) (qI 116 D cA ad sz 2 I J X) 1 6 (fr 116 ad sz) := by
  refine va_MetW (cc := cL_loan) (maxL := 6) (ret := some .int) (hh := [(0, 12, 15, 13), (0, 12, 19, 15)]) (by decide) rfl ?_
  intro p e s m args below meth c s₁ B hml hv
  obtain ⟨rfl, ⟨rfl, hP, hK⟩, hX, hL, hN1, hN2⟩ := hv
  have hx := B.exec
  have hb := B.bytes
  have hr := B.returns
  have hts := atoms_spec (ws := wsL_loan) B.pre
  have hown : s.vm.findClass RL = some m.cls := findClass_of_methodNamed B.named
  have hlocks := B.notSynchronized
  have hT9 := vx_table (x := yL_loan) B (hts _ List.mem_cons_self)
  have hS : va_S (fr 116 ad s.heap.size) s.heap s.heap [] := va_S.rf
  have hA : ∀ k, k < 116 → fr 116 ad s.heap.size (ad k) := fr_ad
  have hl := lv_entry ([.ref (ad 0), .int p0, .int p1, .int p2, .ref (ad 114)]) (n := 6) (Nat.le_of_ble_eq_true rfl)
  rw [lg_entry_eq]
  generalize (lg_sl ([.ref (ad 0), .int p0, .int p1, .int p2, .ref (ad 114)]) ++ List.replicate (6 - (lg_sl ([.ref (ad 0), .int p0, .int p1, .int p2, .ref (ad 114)])).length) Slot.unset).toArray = ls at hl ⊢
  have hl : lv_has ls 6 [(0, .ref (ad 0)), (1, .int p0), (2, .int p1), (3, .int p2), (4, .ref (ad 114))] := hl
  refine lv_aload hx hb dL_loan_0 (lv_at hl 4 rfl) ?_
  refine lv_iconst (v := 0) hx hb dL_loan_2 (by decide) ?_
  refine lv_aload_n hx hb dL_loan_3 rfl (lv_at hl 0 rfl) ?_
  refine lv_iload_n hx hb dL_loan_4 rfl (lv_at hl 1 rfl) ?_
  refine lv_iload_n hx hb dL_loan_5 rfl (lv_at hl 2 rfl) ?_
  refine lv_iload_n hx hb dL_loan_6 rfl (lv_at hl 3 rfl) ?_
  refine w_callxI (vx_runV (As := [.int p0, .int p1, .int p2]) (rest := [.int 0, .ref (ad 114)]) ⟨hx, hb, hml, hown, hts⟩ hM (cwV 3 hts gL_loan_X4_loan rfl rfl rfl (by decide +kernel) ⟨by show f9 + 1 ≤ 100; omega, by show 8 + (5 + 11) + o9 ≤ 4000; omega⟩) (w_preVX hK hP hX hS 0 (by decide) ⟨rfl, rfl⟩ rfl) rfl rfl hl.1 rfl (lv_room (Nat.le_of_ble_eq_true rfl)) dL_loan_7 ⟨(Nat.le_of_ble_eq_true rfl), (Nat.le_of_ble_eq_true rfl)⟩) hS (fun ce q9 H locs hP hS hce hcv hcl => ?_)
  refine vx_catch (name := eA) hown [⟨0, 12, 15, 13⟩] ⟨0, 12, 19, 15⟩ [] (by rw [hT9]; rfl) (fun z hz => by rw [List.mem_singleton] at hz; subst hz; exact Or.inr ⟨by decide, eI, hts (.classLink RL 13 eI) (List.mem_of_getElem? (i := 1) rfl), hN1⟩) (by decide) (by decide) (hts (.classLink RL 15 eA) (List.mem_of_getElem? (i := 2) rfl)) (va_Nw.use rfl hX.2.2.1.2.2.2.2.1) hce hcv hcl ?_
  refine lv_astore (lv' := [(5, .ref q9), (0, .ref (ad 0)), (1, .int p0), (2, .int p1), (3, .int p2), (4, .ref (ad 114))]) hx hb dL_loan_19 hl (by decide) rfl (fun ls hl => ?_)
  refine lv_iconst (v := 2) hx hb dL_loan_21 (by decide) ?_
  refine W.widen (k := 1) (n := 6) (by decide) (by decide) ?_
  exact w_iret hx hb hr hlocks hK hP hS ⟨rfl, rfl, rfl, rfl⟩ dL_loan_22

set_option maxHeartbeats 4000000 in
set_option maxRecDepth 100000 in
theorem h_strike_ok (l : Launch) (D : va_G) (cA : Nat → ClassId) (ad K V : Nat → Nat) (tO tT : Nat) (hi : inj 116 ad) (I : SI) (J : SJ) (X : SX) (sz : Nat) (p0 p1 : Int32) {f9 o9 : Nat} (hf9 : f9 ≤ 90) (ho9 : o9 ≤ 3000) (r : Int32) (I1 : SI) (J1 : SJ) (X1 : SX) (hM : Met l yX4_strike wsX4_strike ({ frames := f9, cells := 0, slots := 0, locals := o9 }) (va_Pc [.ref (ad 0), .int p0, .int p1] (wPre 116 D cA ad I J X sz)) (qI 116 D cA ad sz r I1 J1 X1) 0 0 (fr 116 ad sz)) : Met l yL_strike wsL_strike ({ frames := 100, cells := 1, slots := 6, locals := 4000 }) (va_Pc [.ref (ad 0), .int p0, .int p1, .ref (ad 114)] (wPreA D cA ad K V tO tT I J X sz)) (qI 116 D cA ad sz 0 I1 (st2 J1 114 0 r.toInt64) X1) 1 6 (fr 116 ad sz) := by
  refine va_MetW (cc := cL_strike) (maxL := 5) (ret := some .int) (hh := [(0, 10, 13, 13), (0, 10, 17, 21)]) (by decide) rfl ?_
  intro p e s m args below meth c s₁ B hml hv
  obtain ⟨rfl, ⟨rfl, hP, hK⟩, hX, hL, hN1, hN2⟩ := hv
  have hx := B.exec
  have hb := B.bytes
  have hr := B.returns
  have hts := atoms_spec (ws := wsL_strike) B.pre
  have hown : s.vm.findClass RL = some m.cls := findClass_of_methodNamed B.named
  have hlocks := B.notSynchronized
  have hS : va_S (fr 116 ad s.heap.size) s.heap s.heap [] := va_S.rf
  have hA : ∀ k, k < 116 → fr 116 ad s.heap.size (ad k) := fr_ad
  have hl := lv_entry ([.ref (ad 0), .int p0, .int p1, .ref (ad 114)]) (n := 5) (Nat.le_of_ble_eq_true rfl)
  rw [lg_entry_eq]
  generalize (lg_sl ([.ref (ad 0), .int p0, .int p1, .ref (ad 114)]) ++ List.replicate (5 - (lg_sl ([.ref (ad 0), .int p0, .int p1, .ref (ad 114)])).length) Slot.unset).toArray = ls at hl ⊢
  have hl : lv_has ls 5 [(0, .ref (ad 0)), (1, .int p0), (2, .int p1), (3, .ref (ad 114))] := hl
  refine lv_aload_n hx hb dL_strike_0 rfl (lv_at hl 3 rfl) ?_
  refine lv_iconst (v := 0) hx hb dL_strike_1 (by decide) ?_
  refine lv_aload_n hx hb dL_strike_2 rfl (lv_at hl 0 rfl) ?_
  refine lv_iload_n hx hb dL_strike_3 rfl (lv_at hl 1 rfl) ?_
  refine lv_iload_n hx hb dL_strike_4 rfl (lv_at hl 2 rfl) ?_
  refine w_calli (va_runV (As := [.int p0, .int p1]) (rest := [.int 0, .ref (ad 114)]) ⟨hx, hb, hml, hown, hts⟩ hM (cwV 2 hts gL_strike_X4_strike rfl rfl rfl (by decide +kernel) ⟨by show f9 + 1 ≤ 100; omega, by show 8 + (4 + 11) + o9 ≤ 4000; omega⟩) (w_preV hK hP 0 (by decide) ⟨rfl, rfl⟩ rfl) rfl rfl hl.1 rfl (lv_room (Nat.le_of_ble_eq_true rfl)) dL_strike_5 ⟨(Nat.le_of_ble_eq_true rfl), (Nat.le_of_ble_eq_true rfl)⟩) hS (fun H locs hP hS => ?_)
  refine lv_i2l (v := r.toInt64) hx hb dL_strike_8 rfl ?_
  refine w_last (v := r.toInt64) hx hb hK hP hi hA hS 114 0 ⟨rfl, by decide⟩ (by decide) (x := 0) rfl dL_strike_9 (fun H locs hP hS => ?_)
  refine lv_goto (tgt := 21) hx hb dL_strike_10 (by decide) ?_
  refine lv_iconst (v := 0) hx hb dL_strike_21 (by decide) ?_
  refine W.widen (k := 1) (n := 6) (by decide) (by decide) ?_
  exact w_iret hx hb hr hlocks hK hP hS ⟨rfl, rfl, rfl, rfl⟩ dL_strike_22

set_option maxHeartbeats 4000000 in
set_option maxRecDepth 100000 in
theorem h_strike_t1 (l : Launch) (D : va_G) (cA : Nat → ClassId) (ad K V : Nat → Nat) (tO tT : Nat) (hi : inj 116 ad) (I : SI) (J : SJ) (X : SX) (sz : Nat) (p0 p1 : Int32) {f9 o9 : Nat} (hf9 : f9 ≤ 90) (ho9 : o9 ≤ 3000) (hM : vx_Met l yX4_strike wsX4_strike ({ frames := f9, cells := 1, slots := 6, locals := o9 }) (va_Pc [.ref (ad 0), .int p0, .int p1] (wPreX 116 D cA ad I J X sz)) (nInt 116 ad sz) (xT 116 D cA ad sz eI I J X) 1 6 (fr 116 ad sz)) : Met l yL_strike wsL_strike ({ frames := 100, cells := 1, slots := 6, locals := 4000 }) (va_Pc [.ref (ad 0), .int p0, .int p1, .ref (ad 114)] (wPreA D cA ad K V tO tT I J X sz)) (qI 116 D cA ad sz 1 I J X) 1 6 (fr 116 ad sz) := by
  refine va_MetW (cc := cL_strike) (maxL := 5) (ret := some .int) (hh := [(0, 10, 13, 13), (0, 10, 17, 21)]) (by decide) rfl ?_
  intro p e s m args below meth c s₁ B hml hv
  obtain ⟨rfl, ⟨rfl, hP, hK⟩, hX, hL, hN1, hN2⟩ := hv
  have hx := B.exec
  have hb := B.bytes
  have hr := B.returns
  have hts := atoms_spec (ws := wsL_strike) B.pre
  have hown : s.vm.findClass RL = some m.cls := findClass_of_methodNamed B.named
  have hlocks := B.notSynchronized
  have hT9 := vx_table (x := yL_strike) B (hts _ List.mem_cons_self)
  have hS : va_S (fr 116 ad s.heap.size) s.heap s.heap [] := va_S.rf
  have hA : ∀ k, k < 116 → fr 116 ad s.heap.size (ad k) := fr_ad
  have hl := lv_entry ([.ref (ad 0), .int p0, .int p1, .ref (ad 114)]) (n := 5) (Nat.le_of_ble_eq_true rfl)
  rw [lg_entry_eq]
  generalize (lg_sl ([.ref (ad 0), .int p0, .int p1, .ref (ad 114)]) ++ List.replicate (5 - (lg_sl ([.ref (ad 0), .int p0, .int p1, .ref (ad 114)])).length) Slot.unset).toArray = ls at hl ⊢
  have hl : lv_has ls 5 [(0, .ref (ad 0)), (1, .int p0), (2, .int p1), (3, .ref (ad 114))] := hl
  refine lv_aload_n hx hb dL_strike_0 rfl (lv_at hl 3 rfl) ?_
  refine lv_iconst (v := 0) hx hb dL_strike_1 (by decide) ?_
  refine lv_aload_n hx hb dL_strike_2 rfl (lv_at hl 0 rfl) ?_
  refine lv_iload_n hx hb dL_strike_3 rfl (lv_at hl 1 rfl) ?_
  refine lv_iload_n hx hb dL_strike_4 rfl (lv_at hl 2 rfl) ?_
  refine w_callxI (vx_runV (As := [.int p0, .int p1]) (rest := [.int 0, .ref (ad 114)]) ⟨hx, hb, hml, hown, hts⟩ hM (cwV 2 hts gL_strike_X4_strike rfl rfl rfl (by decide +kernel) ⟨by show f9 + 1 ≤ 100; omega, by show 8 + (4 + 11) + o9 ≤ 4000; omega⟩) (w_preVX hK hP hX hS 0 (by decide) ⟨rfl, rfl⟩ rfl) rfl rfl hl.1 rfl (lv_room (Nat.le_of_ble_eq_true rfl)) dL_strike_5 ⟨(Nat.le_of_ble_eq_true rfl), (Nat.le_of_ble_eq_true rfl)⟩) hS (fun ce q9 H locs hP hS hce hcv hcl => ?_)
  refine vx_catch (name := eI) hown [] ⟨0, 10, 13, 13⟩ [⟨0, 10, 17, 21⟩] (by rw [hT9]; rfl) (fun z hz => nomatch hz) (by decide) (by decide) (hts (.classLink RL 13 eI) (List.mem_of_getElem? (i := 1) rfl)) (va_Nw.use rfl hX.2.2.1.2.2.2.1) hce hcv hcl ?_
  refine lv_astore (lv' := [(4, .ref q9), (0, .ref (ad 0)), (1, .int p0), (2, .int p1), (3, .ref (ad 114))]) hx hb dL_strike_13 hl (by decide) rfl (fun ls hl => ?_)
  refine lv_iconst (v := 1) hx hb dL_strike_15 (by decide) ?_
  refine W.widen (k := 1) (n := 6) (by decide) (by decide) ?_
  exact w_iret hx hb hr hlocks hK hP hS ⟨rfl, rfl, rfl, rfl⟩ dL_strike_16

set_option maxHeartbeats 4000000 in
set_option maxRecDepth 100000 in
theorem h_strike_t2 (l : Launch) (D : va_G) (cA : Nat → ClassId) (ad K V : Nat → Nat) (tO tT : Nat) (hi : inj 116 ad) (I : SI) (J : SJ) (X : SX) (sz : Nat) (p0 p1 : Int32) {f9 o9 : Nat} (hf9 : f9 ≤ 90) (ho9 : o9 ≤ 3000) (hM : vx_Met l yX4_strike wsX4_strike ({ frames := f9, cells := 1, slots := 6, locals := o9 }) (va_Pc [.ref (ad 0), .int p0, .int p1] (wPreX 116 D cA ad I J X sz)) (nInt 116 ad sz) (xT 116 D cA ad sz eS I J X) 1 6 (fr 116 ad sz)) : Met l yL_strike wsL_strike ({ frames := 100, cells := 1, slots := 6, locals := 4000 }) (va_Pc [.ref (ad 0), .int p0, .int p1, .ref (ad 114)] (wPreA D cA ad K V tO tT I J X sz)) (qI 116 D cA ad sz 2 I J X) 1 6 (fr 116 ad sz) := by
  refine va_MetW (cc := cL_strike) (maxL := 5) (ret := some .int) (hh := [(0, 10, 13, 13), (0, 10, 17, 21)]) (by decide) rfl ?_
  intro p e s m args below meth c s₁ B hml hv
  obtain ⟨rfl, ⟨rfl, hP, hK⟩, hX, hL, hN1, hN2⟩ := hv
  have hx := B.exec
  have hb := B.bytes
  have hr := B.returns
  have hts := atoms_spec (ws := wsL_strike) B.pre
  have hown : s.vm.findClass RL = some m.cls := findClass_of_methodNamed B.named
  have hlocks := B.notSynchronized
  have hT9 := vx_table (x := yL_strike) B (hts _ List.mem_cons_self)
  have hS : va_S (fr 116 ad s.heap.size) s.heap s.heap [] := va_S.rf
  have hA : ∀ k, k < 116 → fr 116 ad s.heap.size (ad k) := fr_ad
  have hl := lv_entry ([.ref (ad 0), .int p0, .int p1, .ref (ad 114)]) (n := 5) (Nat.le_of_ble_eq_true rfl)
  rw [lg_entry_eq]
  generalize (lg_sl ([.ref (ad 0), .int p0, .int p1, .ref (ad 114)]) ++ List.replicate (5 - (lg_sl ([.ref (ad 0), .int p0, .int p1, .ref (ad 114)])).length) Slot.unset).toArray = ls at hl ⊢
  have hl : lv_has ls 5 [(0, .ref (ad 0)), (1, .int p0), (2, .int p1), (3, .ref (ad 114))] := hl
  refine lv_aload_n hx hb dL_strike_0 rfl (lv_at hl 3 rfl) ?_
  refine lv_iconst (v := 0) hx hb dL_strike_1 (by decide) ?_
  refine lv_aload_n hx hb dL_strike_2 rfl (lv_at hl 0 rfl) ?_
  refine lv_iload_n hx hb dL_strike_3 rfl (lv_at hl 1 rfl) ?_
  refine lv_iload_n hx hb dL_strike_4 rfl (lv_at hl 2 rfl) ?_
  refine w_callxI (vx_runV (As := [.int p0, .int p1]) (rest := [.int 0, .ref (ad 114)]) ⟨hx, hb, hml, hown, hts⟩ hM (cwV 2 hts gL_strike_X4_strike rfl rfl rfl (by decide +kernel) ⟨by show f9 + 1 ≤ 100; omega, by show 8 + (4 + 11) + o9 ≤ 4000; omega⟩) (w_preVX hK hP hX hS 0 (by decide) ⟨rfl, rfl⟩ rfl) rfl rfl hl.1 rfl (lv_room (Nat.le_of_ble_eq_true rfl)) dL_strike_5 ⟨(Nat.le_of_ble_eq_true rfl), (Nat.le_of_ble_eq_true rfl)⟩) hS (fun ce q9 H locs hP hS hce hcv hcl => ?_)
  refine vx_catch (name := eS) hown [⟨0, 10, 13, 13⟩] ⟨0, 10, 17, 21⟩ [] (by rw [hT9]; rfl) (fun z hz => by rw [List.mem_singleton] at hz; subst hz; exact Or.inr ⟨by decide, eI, hts (.classLink RL 13 eI) (List.mem_of_getElem? (i := 1) rfl), hN2⟩) (by decide) (by decide) (hts (.classLink RL 21 eS) (List.mem_of_getElem? (i := 2) rfl)) (va_Nw.use rfl hX.2.2.1.2.2.2.2.2) hce hcv hcl ?_
  refine lv_astore (lv' := [(4, .ref q9), (0, .ref (ad 0)), (1, .int p0), (2, .int p1), (3, .ref (ad 114))]) hx hb dL_strike_17 hl (by decide) rfl (fun ls hl => ?_)
  refine lv_iconst (v := 2) hx hb dL_strike_19 (by decide) ?_
  refine W.widen (k := 1) (n := 6) (by decide) (by decide) ?_
  exact w_iret hx hb hr hlocks hK hP hS ⟨rfl, rfl, rfl, rfl⟩ dL_strike_20

set_option maxHeartbeats 4000000 in
set_option maxRecDepth 100000 in
theorem h_bar_ok (l : Launch) (D : va_G) (cA : Nat → ClassId) (ad K V : Nat → Nat) (tO tT : Nat) (hi : inj 116 ad) (I : SI) (J : SJ) (X : SX) (sz : Nat) (p0 p1 : Int32) {f9 o9 : Nat} (hf9 : f9 ≤ 90) (ho9 : o9 ≤ 3000) (r : Int32) (I1 : SI) (J1 : SJ) (X1 : SX) (hM : Met l yX4_bar wsX4_bar ({ frames := f9, cells := 0, slots := 0, locals := o9 }) (va_Pc [.ref (ad 0), .int p0, .int p1] (wPre 116 D cA ad I J X sz)) (qI 116 D cA ad sz r I1 J1 X1) 0 0 (fr 116 ad sz)) : Met l yL_bar wsL_bar ({ frames := 100, cells := 1, slots := 6, locals := 4000 }) (va_Pc [.ref (ad 0), .int p0, .int p1, .ref (ad 114)] (wPreA D cA ad K V tO tT I J X sz)) (qI 116 D cA ad sz 0 I1 (st2 J1 114 0 r.toInt64) X1) 1 6 (fr 116 ad sz) := by
  refine va_MetW (cc := cL_bar) (maxL := 5) (ret := some .int) (hh := [(0, 10, 13, 13), (0, 10, 17, 15)]) (by decide) rfl ?_
  intro p e s m args below meth c s₁ B hml hv
  obtain ⟨rfl, ⟨rfl, hP, hK⟩, hX, hL, hN1, hN2⟩ := hv
  have hx := B.exec
  have hb := B.bytes
  have hr := B.returns
  have hts := atoms_spec (ws := wsL_bar) B.pre
  have hown : s.vm.findClass RL = some m.cls := findClass_of_methodNamed B.named
  have hlocks := B.notSynchronized
  have hS : va_S (fr 116 ad s.heap.size) s.heap s.heap [] := va_S.rf
  have hA : ∀ k, k < 116 → fr 116 ad s.heap.size (ad k) := fr_ad
  have hl := lv_entry ([.ref (ad 0), .int p0, .int p1, .ref (ad 114)]) (n := 5) (Nat.le_of_ble_eq_true rfl)
  rw [lg_entry_eq]
  generalize (lg_sl ([.ref (ad 0), .int p0, .int p1, .ref (ad 114)]) ++ List.replicate (5 - (lg_sl ([.ref (ad 0), .int p0, .int p1, .ref (ad 114)])).length) Slot.unset).toArray = ls at hl ⊢
  have hl : lv_has ls 5 [(0, .ref (ad 0)), (1, .int p0), (2, .int p1), (3, .ref (ad 114))] := hl
  refine lv_aload_n hx hb dL_bar_0 rfl (lv_at hl 3 rfl) ?_
  refine lv_iconst (v := 0) hx hb dL_bar_1 (by decide) ?_
  refine lv_aload_n hx hb dL_bar_2 rfl (lv_at hl 0 rfl) ?_
  refine lv_iload_n hx hb dL_bar_3 rfl (lv_at hl 1 rfl) ?_
  refine lv_iload_n hx hb dL_bar_4 rfl (lv_at hl 2 rfl) ?_
  refine w_calli (va_runV (As := [.int p0, .int p1]) (rest := [.int 0, .ref (ad 114)]) ⟨hx, hb, hml, hown, hts⟩ hM (cwV 2 hts gL_bar_X4_bar rfl rfl rfl (by decide +kernel) ⟨by show f9 + 1 ≤ 100; omega, by show 8 + (4 + 11) + o9 ≤ 4000; omega⟩) (w_preV hK hP 0 (by decide) ⟨rfl, rfl⟩ rfl) rfl rfl hl.1 rfl (lv_room (Nat.le_of_ble_eq_true rfl)) dL_bar_5 ⟨(Nat.le_of_ble_eq_true rfl), (Nat.le_of_ble_eq_true rfl)⟩) hS (fun H locs hP hS => ?_)
  refine lv_i2l (v := r.toInt64) hx hb dL_bar_8 rfl ?_
  refine w_last (v := r.toInt64) hx hb hK hP hi hA hS 114 0 ⟨rfl, by decide⟩ (by decide) (x := 0) rfl dL_bar_9 (fun H locs hP hS => ?_)
  refine lv_goto (tgt := 21) hx hb dL_bar_10 (by decide) ?_
  refine lv_iconst (v := 0) hx hb dL_bar_21 (by decide) ?_
  refine W.widen (k := 1) (n := 6) (by decide) (by decide) ?_
  exact w_iret hx hb hr hlocks hK hP hS ⟨rfl, rfl, rfl, rfl⟩ dL_bar_22

set_option maxHeartbeats 4000000 in
set_option maxRecDepth 100000 in
theorem h_bar_t1 (l : Launch) (D : va_G) (cA : Nat → ClassId) (ad K V : Nat → Nat) (tO tT : Nat) (hi : inj 116 ad) (I : SI) (J : SJ) (X : SX) (sz : Nat) (p0 p1 : Int32) {f9 o9 : Nat} (hf9 : f9 ≤ 90) (ho9 : o9 ≤ 3000) (hM : vx_Met l yX4_bar wsX4_bar ({ frames := f9, cells := 1, slots := 6, locals := o9 }) (va_Pc [.ref (ad 0), .int p0, .int p1] (wPreX 116 D cA ad I J X sz)) (nInt 116 ad sz) (xT 116 D cA ad sz eI I J X) 1 6 (fr 116 ad sz)) : Met l yL_bar wsL_bar ({ frames := 100, cells := 1, slots := 6, locals := 4000 }) (va_Pc [.ref (ad 0), .int p0, .int p1, .ref (ad 114)] (wPreA D cA ad K V tO tT I J X sz)) (qI 116 D cA ad sz 1 I J X) 1 6 (fr 116 ad sz) := by
  refine va_MetW (cc := cL_bar) (maxL := 5) (ret := some .int) (hh := [(0, 10, 13, 13), (0, 10, 17, 15)]) (by decide) rfl ?_
  intro p e s m args below meth c s₁ B hml hv
  obtain ⟨rfl, ⟨rfl, hP, hK⟩, hX, hL, hN1, hN2⟩ := hv
  have hx := B.exec
  have hb := B.bytes
  have hr := B.returns
  have hts := atoms_spec (ws := wsL_bar) B.pre
  have hown : s.vm.findClass RL = some m.cls := findClass_of_methodNamed B.named
  have hlocks := B.notSynchronized
  have hT9 := vx_table (x := yL_bar) B (hts _ List.mem_cons_self)
  have hS : va_S (fr 116 ad s.heap.size) s.heap s.heap [] := va_S.rf
  have hA : ∀ k, k < 116 → fr 116 ad s.heap.size (ad k) := fr_ad
  have hl := lv_entry ([.ref (ad 0), .int p0, .int p1, .ref (ad 114)]) (n := 5) (Nat.le_of_ble_eq_true rfl)
  rw [lg_entry_eq]
  generalize (lg_sl ([.ref (ad 0), .int p0, .int p1, .ref (ad 114)]) ++ List.replicate (5 - (lg_sl ([.ref (ad 0), .int p0, .int p1, .ref (ad 114)])).length) Slot.unset).toArray = ls at hl ⊢
  have hl : lv_has ls 5 [(0, .ref (ad 0)), (1, .int p0), (2, .int p1), (3, .ref (ad 114))] := hl
  refine lv_aload_n hx hb dL_bar_0 rfl (lv_at hl 3 rfl) ?_
  refine lv_iconst (v := 0) hx hb dL_bar_1 (by decide) ?_
  refine lv_aload_n hx hb dL_bar_2 rfl (lv_at hl 0 rfl) ?_
  refine lv_iload_n hx hb dL_bar_3 rfl (lv_at hl 1 rfl) ?_
  refine lv_iload_n hx hb dL_bar_4 rfl (lv_at hl 2 rfl) ?_
  refine w_callxI (vx_runV (As := [.int p0, .int p1]) (rest := [.int 0, .ref (ad 114)]) ⟨hx, hb, hml, hown, hts⟩ hM (cwV 2 hts gL_bar_X4_bar rfl rfl rfl (by decide +kernel) ⟨by show f9 + 1 ≤ 100; omega, by show 8 + (4 + 11) + o9 ≤ 4000; omega⟩) (w_preVX hK hP hX hS 0 (by decide) ⟨rfl, rfl⟩ rfl) rfl rfl hl.1 rfl (lv_room (Nat.le_of_ble_eq_true rfl)) dL_bar_5 ⟨(Nat.le_of_ble_eq_true rfl), (Nat.le_of_ble_eq_true rfl)⟩) hS (fun ce q9 H locs hP hS hce hcv hcl => ?_)
  refine vx_catch (name := eI) hown [] ⟨0, 10, 13, 13⟩ [⟨0, 10, 17, 15⟩] (by rw [hT9]; rfl) (fun z hz => nomatch hz) (by decide) (by decide) (hts (.classLink RL 13 eI) (List.mem_of_getElem? (i := 1) rfl)) (va_Nw.use rfl hX.2.2.1.2.2.2.1) hce hcv hcl ?_
  refine lv_astore (lv' := [(4, .ref q9), (0, .ref (ad 0)), (1, .int p0), (2, .int p1), (3, .ref (ad 114))]) hx hb dL_bar_13 hl (by decide) rfl (fun ls hl => ?_)
  refine lv_iconst (v := 1) hx hb dL_bar_15 (by decide) ?_
  refine W.widen (k := 1) (n := 6) (by decide) (by decide) ?_
  exact w_iret hx hb hr hlocks hK hP hS ⟨rfl, rfl, rfl, rfl⟩ dL_bar_16

set_option maxHeartbeats 4000000 in
set_option maxRecDepth 100000 in
theorem h_bar_t2 (l : Launch) (D : va_G) (cA : Nat → ClassId) (ad K V : Nat → Nat) (tO tT : Nat) (hi : inj 116 ad) (I : SI) (J : SJ) (X : SX) (sz : Nat) (p0 p1 : Int32) {f9 o9 : Nat} (hf9 : f9 ≤ 90) (ho9 : o9 ≤ 3000) (hM : vx_Met l yX4_bar wsX4_bar ({ frames := f9, cells := 1, slots := 6, locals := o9 }) (va_Pc [.ref (ad 0), .int p0, .int p1] (wPreX 116 D cA ad I J X sz)) (nInt 116 ad sz) (xT 116 D cA ad sz eA I J X) 1 6 (fr 116 ad sz)) : Met l yL_bar wsL_bar ({ frames := 100, cells := 1, slots := 6, locals := 4000 }) (va_Pc [.ref (ad 0), .int p0, .int p1, .ref (ad 114)] (wPreA D cA ad K V tO tT I J X sz)) (qI 116 D cA ad sz 2 I J X) 1 6 (fr 116 ad sz) := by
  refine va_MetW (cc := cL_bar) (maxL := 5) (ret := some .int) (hh := [(0, 10, 13, 13), (0, 10, 17, 15)]) (by decide) rfl ?_
  intro p e s m args below meth c s₁ B hml hv
  obtain ⟨rfl, ⟨rfl, hP, hK⟩, hX, hL, hN1, hN2⟩ := hv
  have hx := B.exec
  have hb := B.bytes
  have hr := B.returns
  have hts := atoms_spec (ws := wsL_bar) B.pre
  have hown : s.vm.findClass RL = some m.cls := findClass_of_methodNamed B.named
  have hlocks := B.notSynchronized
  have hT9 := vx_table (x := yL_bar) B (hts _ List.mem_cons_self)
  have hS : va_S (fr 116 ad s.heap.size) s.heap s.heap [] := va_S.rf
  have hA : ∀ k, k < 116 → fr 116 ad s.heap.size (ad k) := fr_ad
  have hl := lv_entry ([.ref (ad 0), .int p0, .int p1, .ref (ad 114)]) (n := 5) (Nat.le_of_ble_eq_true rfl)
  rw [lg_entry_eq]
  generalize (lg_sl ([.ref (ad 0), .int p0, .int p1, .ref (ad 114)]) ++ List.replicate (5 - (lg_sl ([.ref (ad 0), .int p0, .int p1, .ref (ad 114)])).length) Slot.unset).toArray = ls at hl ⊢
  have hl : lv_has ls 5 [(0, .ref (ad 0)), (1, .int p0), (2, .int p1), (3, .ref (ad 114))] := hl
  refine lv_aload_n hx hb dL_bar_0 rfl (lv_at hl 3 rfl) ?_
  refine lv_iconst (v := 0) hx hb dL_bar_1 (by decide) ?_
  refine lv_aload_n hx hb dL_bar_2 rfl (lv_at hl 0 rfl) ?_
  refine lv_iload_n hx hb dL_bar_3 rfl (lv_at hl 1 rfl) ?_
  refine lv_iload_n hx hb dL_bar_4 rfl (lv_at hl 2 rfl) ?_
  refine w_callxI (vx_runV (As := [.int p0, .int p1]) (rest := [.int 0, .ref (ad 114)]) ⟨hx, hb, hml, hown, hts⟩ hM (cwV 2 hts gL_bar_X4_bar rfl rfl rfl (by decide +kernel) ⟨by show f9 + 1 ≤ 100; omega, by show 8 + (4 + 11) + o9 ≤ 4000; omega⟩) (w_preVX hK hP hX hS 0 (by decide) ⟨rfl, rfl⟩ rfl) rfl rfl hl.1 rfl (lv_room (Nat.le_of_ble_eq_true rfl)) dL_bar_5 ⟨(Nat.le_of_ble_eq_true rfl), (Nat.le_of_ble_eq_true rfl)⟩) hS (fun ce q9 H locs hP hS hce hcv hcl => ?_)
  refine vx_catch (name := eA) hown [⟨0, 10, 13, 13⟩] ⟨0, 10, 17, 15⟩ [] (by rw [hT9]; rfl) (fun z hz => by rw [List.mem_singleton] at hz; subst hz; exact Or.inr ⟨by decide, eI, hts (.classLink RL 13 eI) (List.mem_of_getElem? (i := 1) rfl), hN1⟩) (by decide) (by decide) (hts (.classLink RL 15 eA) (List.mem_of_getElem? (i := 2) rfl)) (va_Nw.use rfl hX.2.2.1.2.2.2.2.1) hce hcv hcl ?_
  refine lv_astore (lv' := [(4, .ref q9), (0, .ref (ad 0)), (1, .int p0), (2, .int p1), (3, .ref (ad 114))]) hx hb dL_bar_17 hl (by decide) rfl (fun ls hl => ?_)
  refine lv_iconst (v := 2) hx hb dL_bar_19 (by decide) ?_
  refine W.widen (k := 1) (n := 6) (by decide) (by decide) ?_
  exact w_iret hx hb hr hlocks hK hP hS ⟨rfl, rfl, rfl, rfl⟩ dL_bar_20

set_option maxHeartbeats 4000000 in
set_option maxRecDepth 100000 in
theorem h_walk_ok (l : Launch) (D : va_G) (cA : Nat → ClassId) (ad K V : Nat → Nat) (tO tT : Nat) (hi : inj 116 ad) (I : SI) (J : SJ) (X : SX) (sz : Nat) (p0 p1 : Int32) {f9 o9 : Nat} (hf9 : f9 ≤ 90) (ho9 : o9 ≤ 3000) (I1 : SI) (J1 : SJ) (X1 : SX) (hM : Met l yX4_walk wsX4_walk ({ frames := f9, cells := 0, slots := 0, locals := o9 }) (va_Pc [.ref (ad 0), .int p0, .int p1] (wPre 116 D cA ad I J X sz)) (qV 116 D cA ad sz I1 J1 X1) 0 0 (fr 116 ad sz)) : Met l yL_walk wsL_walk ({ frames := 100, cells := 1, slots := 6, locals := 4000 }) (va_Pc [.ref (ad 0), .int p0, .int p1] (wPreA D cA ad K V tO tT I J X sz)) (qI 116 D cA ad sz 0 I1 J1 X1) 1 6 (fr 116 ad sz) := by
  refine va_MetW (cc := cL_walk) (maxL := 4) (ret := some .int) (hh := [(0, 6, 9, 15)]) (by decide) rfl ?_
  intro p e s m args below meth c s₁ B hml hv
  obtain ⟨rfl, ⟨rfl, hP, hK⟩, hX, hL, hN1, hN2⟩ := hv
  have hx := B.exec
  have hb := B.bytes
  have hr := B.returns
  have hts := atoms_spec (ws := wsL_walk) B.pre
  have hown : s.vm.findClass RL = some m.cls := findClass_of_methodNamed B.named
  have hlocks := B.notSynchronized
  have hS : va_S (fr 116 ad s.heap.size) s.heap s.heap [] := va_S.rf
  have hA : ∀ k, k < 116 → fr 116 ad s.heap.size (ad k) := fr_ad
  have hl := lv_entry ([.ref (ad 0), .int p0, .int p1]) (n := 4) (Nat.le_of_ble_eq_true rfl)
  rw [lg_entry_eq]
  generalize (lg_sl ([.ref (ad 0), .int p0, .int p1]) ++ List.replicate (4 - (lg_sl ([.ref (ad 0), .int p0, .int p1])).length) Slot.unset).toArray = ls at hl ⊢
  have hl : lv_has ls 4 [(0, .ref (ad 0)), (1, .int p0), (2, .int p1)] := hl
  refine lv_aload_n hx hb dL_walk_0 rfl (lv_at hl 0 rfl) ?_
  refine lv_iload_n hx hb dL_walk_1 rfl (lv_at hl 1 rfl) ?_
  refine lv_iload_n hx hb dL_walk_2 rfl (lv_at hl 2 rfl) ?_
  refine w_callv (va_runV (As := [.int p0, .int p1]) (rest := []) ⟨hx, hb, hml, hown, hts⟩ hM (cwV 2 hts gL_walk_X4_walk rfl rfl rfl (by decide +kernel) ⟨by show f9 + 1 ≤ 100; omega, by show 8 + (3 + 11) + o9 ≤ 4000; omega⟩) (w_preV hK hP 0 (by decide) ⟨rfl, rfl⟩ rfl) rfl rfl hl.1 rfl (lv_room (Nat.le_of_ble_eq_true rfl)) dL_walk_3 ⟨(Nat.le_of_ble_eq_true rfl), (Nat.le_of_ble_eq_true rfl)⟩) hS (fun H locs hP hS => ?_)
  refine lv_goto (tgt := 12) hx hb dL_walk_6 (by decide) ?_
  refine lv_iconst (v := 0) hx hb dL_walk_12 (by decide) ?_
  refine W.widen (k := 1) (n := 6) (by decide) (by decide) ?_
  exact w_iret hx hb hr hlocks hK hP hS ⟨rfl, rfl, rfl, rfl⟩ dL_walk_13

set_option maxHeartbeats 4000000 in
set_option maxRecDepth 100000 in
theorem h_walk_t1 (l : Launch) (D : va_G) (cA : Nat → ClassId) (ad K V : Nat → Nat) (tO tT : Nat) (hi : inj 116 ad) (I : SI) (J : SJ) (X : SX) (sz : Nat) (p0 p1 : Int32) {f9 o9 : Nat} (hf9 : f9 ≤ 90) (ho9 : o9 ≤ 3000) (hM : vx_Met l yX4_walk wsX4_walk ({ frames := f9, cells := 1, slots := 6, locals := o9 }) (va_Pc [.ref (ad 0), .int p0, .int p1] (wPreX 116 D cA ad I J X sz)) (nV 116 ad sz) (xT 116 D cA ad sz eA I J X) 1 6 (fr 116 ad sz)) : Met l yL_walk wsL_walk ({ frames := 100, cells := 1, slots := 6, locals := 4000 }) (va_Pc [.ref (ad 0), .int p0, .int p1] (wPreA D cA ad K V tO tT I J X sz)) (qI 116 D cA ad sz 1 I J X) 1 6 (fr 116 ad sz) := by
  refine va_MetW (cc := cL_walk) (maxL := 4) (ret := some .int) (hh := [(0, 6, 9, 15)]) (by decide) rfl ?_
  intro p e s m args below meth c s₁ B hml hv
  obtain ⟨rfl, ⟨rfl, hP, hK⟩, hX, hL, hN1, hN2⟩ := hv
  have hx := B.exec
  have hb := B.bytes
  have hr := B.returns
  have hts := atoms_spec (ws := wsL_walk) B.pre
  have hown : s.vm.findClass RL = some m.cls := findClass_of_methodNamed B.named
  have hlocks := B.notSynchronized
  have hT9 := vx_table (x := yL_walk) B (hts _ List.mem_cons_self)
  have hS : va_S (fr 116 ad s.heap.size) s.heap s.heap [] := va_S.rf
  have hA : ∀ k, k < 116 → fr 116 ad s.heap.size (ad k) := fr_ad
  have hl := lv_entry ([.ref (ad 0), .int p0, .int p1]) (n := 4) (Nat.le_of_ble_eq_true rfl)
  rw [lg_entry_eq]
  generalize (lg_sl ([.ref (ad 0), .int p0, .int p1]) ++ List.replicate (4 - (lg_sl ([.ref (ad 0), .int p0, .int p1])).length) Slot.unset).toArray = ls at hl ⊢
  have hl : lv_has ls 4 [(0, .ref (ad 0)), (1, .int p0), (2, .int p1)] := hl
  refine lv_aload_n hx hb dL_walk_0 rfl (lv_at hl 0 rfl) ?_
  refine lv_iload_n hx hb dL_walk_1 rfl (lv_at hl 1 rfl) ?_
  refine lv_iload_n hx hb dL_walk_2 rfl (lv_at hl 2 rfl) ?_
  refine w_callxU (vx_runV (As := [.int p0, .int p1]) (rest := []) ⟨hx, hb, hml, hown, hts⟩ hM (cwV 2 hts gL_walk_X4_walk rfl rfl rfl (by decide +kernel) ⟨by show f9 + 1 ≤ 100; omega, by show 8 + (3 + 11) + o9 ≤ 4000; omega⟩) (w_preVX hK hP hX hS 0 (by decide) ⟨rfl, rfl⟩ rfl) rfl rfl hl.1 rfl (lv_room (Nat.le_of_ble_eq_true rfl)) dL_walk_3 ⟨(Nat.le_of_ble_eq_true rfl), (Nat.le_of_ble_eq_true rfl)⟩) hS (fun ce q9 H locs hP hS hce hcv hcl => ?_)
  refine vx_catch (name := eA) hown [] ⟨0, 6, 9, 15⟩ [] (by rw [hT9]; rfl) (fun z hz => nomatch hz) (by decide) (by decide) (hts (.classLink RL 15 eA) (List.mem_of_getElem? (i := 1) rfl)) (va_Nw.use rfl hX.2.2.1.2.2.2.2.1) hce hcv hcl ?_
  refine lv_astore_n (lv' := [(3, .ref q9), (0, .ref (ad 0)), (1, .int p0), (2, .int p1)]) hx hb dL_walk_9 rfl hl (by decide) rfl (fun ls hl => ?_)
  refine lv_iconst (v := 1) hx hb dL_walk_10 (by decide) ?_
  refine W.widen (k := 1) (n := 6) (by decide) (by decide) ?_
  exact w_iret hx hb hr hlocks hK hP hS ⟨rfl, rfl, rfl, rfl⟩ dL_walk_11

set_option maxHeartbeats 4000000 in
set_option maxRecDepth 100000 in
theorem h_landed_ok (l : Launch) (D : va_G) (cA : Nat → ClassId) (ad K V : Nat → Nat) (tO tT : Nat) (hi : inj 116 ad) (I : SI) (J : SJ) (X : SX) (sz : Nat) (p0 p1 : Int32) {f9 o9 : Nat} (hf9 : f9 ≤ 90) (ho9 : o9 ≤ 3000) (r : Int32) (I1 : SI) (J1 : SJ) (X1 : SX) (hM : Met l yX4_landed wsX4_landed ({ frames := f9, cells := 0, slots := 0, locals := o9 }) (va_Pc [.ref (ad 0), .int p0, .int p1] (wPre 116 D cA ad I J X sz)) (qI 116 D cA ad sz r I1 J1 X1) 0 0 (fr 116 ad sz)) : Met l yL_landed wsL_landed ({ frames := 100, cells := 1, slots := 6, locals := 4000 }) (va_Pc [.ref (ad 0), .int p0, .int p1, .ref (ad 114)] (wPreA D cA ad K V tO tT I J X sz)) (qI 116 D cA ad sz 0 I1 (st2 J1 114 0 r.toInt64) X1) 1 6 (fr 116 ad sz) := by
  refine va_MetW (cc := cL_landed) (maxL := 5) (ret := some .int) (hh := [(0, 10, 13, 13)]) (by decide) rfl ?_
  intro p e s m args below meth c s₁ B hml hv
  obtain ⟨rfl, ⟨rfl, hP, hK⟩, hX, hL, hN1, hN2⟩ := hv
  have hx := B.exec
  have hb := B.bytes
  have hr := B.returns
  have hts := atoms_spec (ws := wsL_landed) B.pre
  have hown : s.vm.findClass RL = some m.cls := findClass_of_methodNamed B.named
  have hlocks := B.notSynchronized
  have hS : va_S (fr 116 ad s.heap.size) s.heap s.heap [] := va_S.rf
  have hA : ∀ k, k < 116 → fr 116 ad s.heap.size (ad k) := fr_ad
  have hl := lv_entry ([.ref (ad 0), .int p0, .int p1, .ref (ad 114)]) (n := 5) (Nat.le_of_ble_eq_true rfl)
  rw [lg_entry_eq]
  generalize (lg_sl ([.ref (ad 0), .int p0, .int p1, .ref (ad 114)]) ++ List.replicate (5 - (lg_sl ([.ref (ad 0), .int p0, .int p1, .ref (ad 114)])).length) Slot.unset).toArray = ls at hl ⊢
  have hl : lv_has ls 5 [(0, .ref (ad 0)), (1, .int p0), (2, .int p1), (3, .ref (ad 114))] := hl
  refine lv_aload_n hx hb dL_landed_0 rfl (lv_at hl 3 rfl) ?_
  refine lv_iconst (v := 0) hx hb dL_landed_1 (by decide) ?_
  refine lv_aload_n hx hb dL_landed_2 rfl (lv_at hl 0 rfl) ?_
  refine lv_iload_n hx hb dL_landed_3 rfl (lv_at hl 1 rfl) ?_
  refine lv_iload_n hx hb dL_landed_4 rfl (lv_at hl 2 rfl) ?_
  refine w_calli (va_runV (As := [.int p0, .int p1]) (rest := [.int 0, .ref (ad 114)]) ⟨hx, hb, hml, hown, hts⟩ hM (cwV 2 hts gL_landed_X4_landed rfl rfl rfl (by decide +kernel) ⟨by show f9 + 1 ≤ 100; omega, by show 8 + (3 + 11) + o9 ≤ 4000; omega⟩) (w_preV hK hP 0 (by decide) ⟨rfl, rfl⟩ rfl) rfl rfl hl.1 rfl (lv_room (Nat.le_of_ble_eq_true rfl)) dL_landed_5 ⟨(Nat.le_of_ble_eq_true rfl), (Nat.le_of_ble_eq_true rfl)⟩) hS (fun H locs hP hS => ?_)
  refine lv_i2l (v := r.toInt64) hx hb dL_landed_8 rfl ?_
  refine w_last (v := r.toInt64) hx hb hK hP hi hA hS 114 0 ⟨rfl, by decide⟩ (by decide) (x := 0) rfl dL_landed_9 (fun H locs hP hS => ?_)
  refine lv_goto (tgt := 17) hx hb dL_landed_10 (by decide) ?_
  refine lv_iconst (v := 0) hx hb dL_landed_17 (by decide) ?_
  refine W.widen (k := 1) (n := 6) (by decide) (by decide) ?_
  exact w_iret hx hb hr hlocks hK hP hS ⟨rfl, rfl, rfl, rfl⟩ dL_landed_18

set_option maxHeartbeats 4000000 in
set_option maxRecDepth 100000 in
theorem h_landed_t1 (l : Launch) (D : va_G) (cA : Nat → ClassId) (ad K V : Nat → Nat) (tO tT : Nat) (hi : inj 116 ad) (I : SI) (J : SJ) (X : SX) (sz : Nat) (p0 p1 : Int32) {f9 o9 : Nat} (hf9 : f9 ≤ 90) (ho9 : o9 ≤ 3000) (hM : vx_Met l yX4_landed wsX4_landed ({ frames := f9, cells := 1, slots := 6, locals := o9 }) (va_Pc [.ref (ad 0), .int p0, .int p1] (wPreX 116 D cA ad I J X sz)) (nInt 116 ad sz) (xT 116 D cA ad sz eI I J X) 1 6 (fr 116 ad sz)) : Met l yL_landed wsL_landed ({ frames := 100, cells := 1, slots := 6, locals := 4000 }) (va_Pc [.ref (ad 0), .int p0, .int p1, .ref (ad 114)] (wPreA D cA ad K V tO tT I J X sz)) (qI 116 D cA ad sz 1 I J X) 1 6 (fr 116 ad sz) := by
  refine va_MetW (cc := cL_landed) (maxL := 5) (ret := some .int) (hh := [(0, 10, 13, 13)]) (by decide) rfl ?_
  intro p e s m args below meth c s₁ B hml hv
  obtain ⟨rfl, ⟨rfl, hP, hK⟩, hX, hL, hN1, hN2⟩ := hv
  have hx := B.exec
  have hb := B.bytes
  have hr := B.returns
  have hts := atoms_spec (ws := wsL_landed) B.pre
  have hown : s.vm.findClass RL = some m.cls := findClass_of_methodNamed B.named
  have hlocks := B.notSynchronized
  have hT9 := vx_table (x := yL_landed) B (hts _ List.mem_cons_self)
  have hS : va_S (fr 116 ad s.heap.size) s.heap s.heap [] := va_S.rf
  have hA : ∀ k, k < 116 → fr 116 ad s.heap.size (ad k) := fr_ad
  have hl := lv_entry ([.ref (ad 0), .int p0, .int p1, .ref (ad 114)]) (n := 5) (Nat.le_of_ble_eq_true rfl)
  rw [lg_entry_eq]
  generalize (lg_sl ([.ref (ad 0), .int p0, .int p1, .ref (ad 114)]) ++ List.replicate (5 - (lg_sl ([.ref (ad 0), .int p0, .int p1, .ref (ad 114)])).length) Slot.unset).toArray = ls at hl ⊢
  have hl : lv_has ls 5 [(0, .ref (ad 0)), (1, .int p0), (2, .int p1), (3, .ref (ad 114))] := hl
  refine lv_aload_n hx hb dL_landed_0 rfl (lv_at hl 3 rfl) ?_
  refine lv_iconst (v := 0) hx hb dL_landed_1 (by decide) ?_
  refine lv_aload_n hx hb dL_landed_2 rfl (lv_at hl 0 rfl) ?_
  refine lv_iload_n hx hb dL_landed_3 rfl (lv_at hl 1 rfl) ?_
  refine lv_iload_n hx hb dL_landed_4 rfl (lv_at hl 2 rfl) ?_
  refine w_callxI (vx_runV (As := [.int p0, .int p1]) (rest := [.int 0, .ref (ad 114)]) ⟨hx, hb, hml, hown, hts⟩ hM (cwV 2 hts gL_landed_X4_landed rfl rfl rfl (by decide +kernel) ⟨by show f9 + 1 ≤ 100; omega, by show 8 + (3 + 11) + o9 ≤ 4000; omega⟩) (w_preVX hK hP hX hS 0 (by decide) ⟨rfl, rfl⟩ rfl) rfl rfl hl.1 rfl (lv_room (Nat.le_of_ble_eq_true rfl)) dL_landed_5 ⟨(Nat.le_of_ble_eq_true rfl), (Nat.le_of_ble_eq_true rfl)⟩) hS (fun ce q9 H locs hP hS hce hcv hcl => ?_)
  refine vx_catch (name := eI) hown [] ⟨0, 10, 13, 13⟩ [] (by rw [hT9]; rfl) (fun z hz => nomatch hz) (by decide) (by decide) (hts (.classLink RL 13 eI) (List.mem_of_getElem? (i := 1) rfl)) (va_Nw.use rfl hX.2.2.1.2.2.2.1) hce hcv hcl ?_
  refine lv_astore (lv' := [(4, .ref q9), (0, .ref (ad 0)), (1, .int p0), (2, .int p1), (3, .ref (ad 114))]) hx hb dL_landed_13 hl (by decide) rfl (fun ls hl => ?_)
  refine lv_iconst (v := 1) hx hb dL_landed_15 (by decide) ?_
  refine W.widen (k := 1) (n := 6) (by decide) (by decide) ?_
  exact w_iret hx hb hr hlocks hK hP hS ⟨rfl, rfl, rfl, rfl⟩ dL_landed_16

set_option maxHeartbeats 4000000 in
set_option maxRecDepth 100000 in
theorem h_rest_ok (l : Launch) (D : va_G) (cA : Nat → ClassId) (ad K V : Nat → Nat) (tO tT : Nat) (hi : inj 116 ad) (I : SI) (J : SJ) (X : SX) (sz : Nat) (p0 p1 : Int32) {f9 o9 : Nat} (hf9 : f9 ≤ 90) (ho9 : o9 ≤ 3000) (r : Int32) (I1 : SI) (J1 : SJ) (X1 : SX) (hM : Met l yX4_rest wsX4_rest ({ frames := f9, cells := 0, slots := 0, locals := o9 }) (va_Pc [.ref (ad 0), .int p0, .int p1] (wPre 116 D cA ad I J X sz)) (qI 116 D cA ad sz r I1 J1 X1) 0 0 (fr 116 ad sz)) : Met l yL_rest wsL_rest ({ frames := 100, cells := 1, slots := 6, locals := 4000 }) (va_Pc [.ref (ad 0), .int p0, .int p1, .ref (ad 114)] (wPreA D cA ad K V tO tT I J X sz)) (qI 116 D cA ad sz 0 I1 (st2 J1 114 0 r.toInt64) X1) 1 6 (fr 116 ad sz) := by
  refine va_MetW (cc := cL_rest) (maxL := 5) (ret := some .int) (hh := [(0, 10, 13, 13)]) (by decide) rfl ?_
  intro p e s m args below meth c s₁ B hml hv
  obtain ⟨rfl, ⟨rfl, hP, hK⟩, hX, hL, hN1, hN2⟩ := hv
  have hx := B.exec
  have hb := B.bytes
  have hr := B.returns
  have hts := atoms_spec (ws := wsL_rest) B.pre
  have hown : s.vm.findClass RL = some m.cls := findClass_of_methodNamed B.named
  have hlocks := B.notSynchronized
  have hS : va_S (fr 116 ad s.heap.size) s.heap s.heap [] := va_S.rf
  have hA : ∀ k, k < 116 → fr 116 ad s.heap.size (ad k) := fr_ad
  have hl := lv_entry ([.ref (ad 0), .int p0, .int p1, .ref (ad 114)]) (n := 5) (Nat.le_of_ble_eq_true rfl)
  rw [lg_entry_eq]
  generalize (lg_sl ([.ref (ad 0), .int p0, .int p1, .ref (ad 114)]) ++ List.replicate (5 - (lg_sl ([.ref (ad 0), .int p0, .int p1, .ref (ad 114)])).length) Slot.unset).toArray = ls at hl ⊢
  have hl : lv_has ls 5 [(0, .ref (ad 0)), (1, .int p0), (2, .int p1), (3, .ref (ad 114))] := hl
  refine lv_aload_n hx hb dL_rest_0 rfl (lv_at hl 3 rfl) ?_
  refine lv_iconst (v := 0) hx hb dL_rest_1 (by decide) ?_
  refine lv_aload_n hx hb dL_rest_2 rfl (lv_at hl 0 rfl) ?_
  refine lv_iload_n hx hb dL_rest_3 rfl (lv_at hl 1 rfl) ?_
  refine lv_iload_n hx hb dL_rest_4 rfl (lv_at hl 2 rfl) ?_
  refine w_calli (va_runV (As := [.int p0, .int p1]) (rest := [.int 0, .ref (ad 114)]) ⟨hx, hb, hml, hown, hts⟩ hM (cwV 2 hts gL_rest_X4_rest rfl rfl rfl (by decide +kernel) ⟨by show f9 + 1 ≤ 100; omega, by show 8 + (3 + 11) + o9 ≤ 4000; omega⟩) (w_preV hK hP 0 (by decide) ⟨rfl, rfl⟩ rfl) rfl rfl hl.1 rfl (lv_room (Nat.le_of_ble_eq_true rfl)) dL_rest_5 ⟨(Nat.le_of_ble_eq_true rfl), (Nat.le_of_ble_eq_true rfl)⟩) hS (fun H locs hP hS => ?_)
  refine lv_i2l (v := r.toInt64) hx hb dL_rest_8 rfl ?_
  refine w_last (v := r.toInt64) hx hb hK hP hi hA hS 114 0 ⟨rfl, by decide⟩ (by decide) (x := 0) rfl dL_rest_9 (fun H locs hP hS => ?_)
  refine lv_goto (tgt := 17) hx hb dL_rest_10 (by decide) ?_
  refine lv_iconst (v := 0) hx hb dL_rest_17 (by decide) ?_
  refine W.widen (k := 1) (n := 6) (by decide) (by decide) ?_
  exact w_iret hx hb hr hlocks hK hP hS ⟨rfl, rfl, rfl, rfl⟩ dL_rest_18

set_option maxHeartbeats 4000000 in
set_option maxRecDepth 100000 in
theorem h_rest_t1 (l : Launch) (D : va_G) (cA : Nat → ClassId) (ad K V : Nat → Nat) (tO tT : Nat) (hi : inj 116 ad) (I : SI) (J : SJ) (X : SX) (sz : Nat) (p0 p1 : Int32) {f9 o9 : Nat} (hf9 : f9 ≤ 90) (ho9 : o9 ≤ 3000) (hM : vx_Met l yX4_rest wsX4_rest ({ frames := f9, cells := 1, slots := 6, locals := o9 }) (va_Pc [.ref (ad 0), .int p0, .int p1] (wPreX 116 D cA ad I J X sz)) (nInt 116 ad sz) (xT 116 D cA ad sz eI I J X) 1 6 (fr 116 ad sz)) : Met l yL_rest wsL_rest ({ frames := 100, cells := 1, slots := 6, locals := 4000 }) (va_Pc [.ref (ad 0), .int p0, .int p1, .ref (ad 114)] (wPreA D cA ad K V tO tT I J X sz)) (qI 116 D cA ad sz 1 I J X) 1 6 (fr 116 ad sz) := by
  refine va_MetW (cc := cL_rest) (maxL := 5) (ret := some .int) (hh := [(0, 10, 13, 13)]) (by decide) rfl ?_
  intro p e s m args below meth c s₁ B hml hv
  obtain ⟨rfl, ⟨rfl, hP, hK⟩, hX, hL, hN1, hN2⟩ := hv
  have hx := B.exec
  have hb := B.bytes
  have hr := B.returns
  have hts := atoms_spec (ws := wsL_rest) B.pre
  have hown : s.vm.findClass RL = some m.cls := findClass_of_methodNamed B.named
  have hlocks := B.notSynchronized
  have hT9 := vx_table (x := yL_rest) B (hts _ List.mem_cons_self)
  have hS : va_S (fr 116 ad s.heap.size) s.heap s.heap [] := va_S.rf
  have hA : ∀ k, k < 116 → fr 116 ad s.heap.size (ad k) := fr_ad
  have hl := lv_entry ([.ref (ad 0), .int p0, .int p1, .ref (ad 114)]) (n := 5) (Nat.le_of_ble_eq_true rfl)
  rw [lg_entry_eq]
  generalize (lg_sl ([.ref (ad 0), .int p0, .int p1, .ref (ad 114)]) ++ List.replicate (5 - (lg_sl ([.ref (ad 0), .int p0, .int p1, .ref (ad 114)])).length) Slot.unset).toArray = ls at hl ⊢
  have hl : lv_has ls 5 [(0, .ref (ad 0)), (1, .int p0), (2, .int p1), (3, .ref (ad 114))] := hl
  refine lv_aload_n hx hb dL_rest_0 rfl (lv_at hl 3 rfl) ?_
  refine lv_iconst (v := 0) hx hb dL_rest_1 (by decide) ?_
  refine lv_aload_n hx hb dL_rest_2 rfl (lv_at hl 0 rfl) ?_
  refine lv_iload_n hx hb dL_rest_3 rfl (lv_at hl 1 rfl) ?_
  refine lv_iload_n hx hb dL_rest_4 rfl (lv_at hl 2 rfl) ?_
  refine w_callxI (vx_runV (As := [.int p0, .int p1]) (rest := [.int 0, .ref (ad 114)]) ⟨hx, hb, hml, hown, hts⟩ hM (cwV 2 hts gL_rest_X4_rest rfl rfl rfl (by decide +kernel) ⟨by show f9 + 1 ≤ 100; omega, by show 8 + (3 + 11) + o9 ≤ 4000; omega⟩) (w_preVX hK hP hX hS 0 (by decide) ⟨rfl, rfl⟩ rfl) rfl rfl hl.1 rfl (lv_room (Nat.le_of_ble_eq_true rfl)) dL_rest_5 ⟨(Nat.le_of_ble_eq_true rfl), (Nat.le_of_ble_eq_true rfl)⟩) hS (fun ce q9 H locs hP hS hce hcv hcl => ?_)
  refine vx_catch (name := eI) hown [] ⟨0, 10, 13, 13⟩ [] (by rw [hT9]; rfl) (fun z hz => nomatch hz) (by decide) (by decide) (hts (.classLink RL 13 eI) (List.mem_of_getElem? (i := 1) rfl)) (va_Nw.use rfl hX.2.2.1.2.2.2.1) hce hcv hcl ?_
  refine lv_astore (lv' := [(4, .ref q9), (0, .ref (ad 0)), (1, .int p0), (2, .int p1), (3, .ref (ad 114))]) hx hb dL_rest_13 hl (by decide) rfl (fun ls hl => ?_)
  refine lv_iconst (v := 1) hx hb dL_rest_15 (by decide) ?_
  refine W.widen (k := 1) (n := 6) (by decide) (by decide) ?_
  exact w_iret hx hb hr hlocks hK hP hS ⟨rfl, rfl, rfl, rfl⟩ dL_rest_16

set_option maxHeartbeats 4000000 in
set_option maxRecDepth 100000 in
theorem h_sent_ok (l : Launch) (D : va_G) (cA : Nat → ClassId) (ad K V : Nat → Nat) (tO tT : Nat) (hi : inj 116 ad) (I : SI) (J : SJ) (X : SX) (sz : Nat) (p0 p1 p2 : Int32) {f9 o9 : Nat} (hf9 : f9 ≤ 90) (ho9 : o9 ≤ 3000) (r : Int32) (I1 : SI) (J1 : SJ) (X1 : SX) (hM : Met l yX4_sent wsX4_sent ({ frames := f9, cells := 0, slots := 0, locals := o9 }) (va_Pc [.ref (ad 0), .int p0, .int p1, .int p2] (wPre 116 D cA ad I J X sz)) (qI 116 D cA ad sz r I1 J1 X1) 0 0 (fr 116 ad sz)) : Met l yL_sent wsL_sent ({ frames := 100, cells := 1, slots := 6, locals := 4000 }) (va_Pc [.ref (ad 0), .int p0, .int p1, .int p2, .ref (ad 114)] (wPreA D cA ad K V tO tT I J X sz)) (qI 116 D cA ad sz 0 I1 (st2 J1 114 0 r.toInt64) X1) 1 6 (fr 116 ad sz) := by
  refine va_MetW (cc := cL_sent) (maxL := 6) (ret := some .int) (hh := [(0, 12, 15, 13)]) (by decide) rfl ?_
  intro p e s m args below meth c s₁ B hml hv
  obtain ⟨rfl, ⟨rfl, hP, hK⟩, hX, hL, hN1, hN2⟩ := hv
  have hx := B.exec
  have hb := B.bytes
  have hr := B.returns
  have hts := atoms_spec (ws := wsL_sent) B.pre
  have hown : s.vm.findClass RL = some m.cls := findClass_of_methodNamed B.named
  have hlocks := B.notSynchronized
  have hS : va_S (fr 116 ad s.heap.size) s.heap s.heap [] := va_S.rf
  have hA : ∀ k, k < 116 → fr 116 ad s.heap.size (ad k) := fr_ad
  have hl := lv_entry ([.ref (ad 0), .int p0, .int p1, .int p2, .ref (ad 114)]) (n := 6) (Nat.le_of_ble_eq_true rfl)
  rw [lg_entry_eq]
  generalize (lg_sl ([.ref (ad 0), .int p0, .int p1, .int p2, .ref (ad 114)]) ++ List.replicate (6 - (lg_sl ([.ref (ad 0), .int p0, .int p1, .int p2, .ref (ad 114)])).length) Slot.unset).toArray = ls at hl ⊢
  have hl : lv_has ls 6 [(0, .ref (ad 0)), (1, .int p0), (2, .int p1), (3, .int p2), (4, .ref (ad 114))] := hl
  refine lv_aload hx hb dL_sent_0 (lv_at hl 4 rfl) ?_
  refine lv_iconst (v := 0) hx hb dL_sent_2 (by decide) ?_
  refine lv_aload_n hx hb dL_sent_3 rfl (lv_at hl 0 rfl) ?_
  refine lv_iload_n hx hb dL_sent_4 rfl (lv_at hl 1 rfl) ?_
  refine lv_iload_n hx hb dL_sent_5 rfl (lv_at hl 2 rfl) ?_
  refine lv_iload_n hx hb dL_sent_6 rfl (lv_at hl 3 rfl) ?_
  refine w_calli (va_runV (As := [.int p0, .int p1, .int p2]) (rest := [.int 0, .ref (ad 114)]) ⟨hx, hb, hml, hown, hts⟩ hM (cwV 3 hts gL_sent_X4_sent rfl rfl rfl (by decide +kernel) ⟨by show f9 + 1 ≤ 100; omega, by show 8 + (4 + 11) + o9 ≤ 4000; omega⟩) (w_preV hK hP 0 (by decide) ⟨rfl, rfl⟩ rfl) rfl rfl hl.1 rfl (lv_room (Nat.le_of_ble_eq_true rfl)) dL_sent_7 ⟨(Nat.le_of_ble_eq_true rfl), (Nat.le_of_ble_eq_true rfl)⟩) hS (fun H locs hP hS => ?_)
  refine lv_i2l (v := r.toInt64) hx hb dL_sent_10 rfl ?_
  refine w_last (v := r.toInt64) hx hb hK hP hi hA hS 114 0 ⟨rfl, by decide⟩ (by decide) (x := 0) rfl dL_sent_11 (fun H locs hP hS => ?_)
  refine lv_goto (tgt := 19) hx hb dL_sent_12 (by decide) ?_
  refine lv_iconst (v := 0) hx hb dL_sent_19 (by decide) ?_
  refine W.widen (k := 1) (n := 6) (by decide) (by decide) ?_
  exact w_iret hx hb hr hlocks hK hP hS ⟨rfl, rfl, rfl, rfl⟩ dL_sent_20

set_option maxHeartbeats 4000000 in
set_option maxRecDepth 100000 in
theorem h_sent_t1 (l : Launch) (D : va_G) (cA : Nat → ClassId) (ad K V : Nat → Nat) (tO tT : Nat) (hi : inj 116 ad) (I : SI) (J : SJ) (X : SX) (sz : Nat) (p0 p1 p2 : Int32) {f9 o9 : Nat} (hf9 : f9 ≤ 90) (ho9 : o9 ≤ 3000) (hM : vx_Met l yX4_sent wsX4_sent ({ frames := f9, cells := 1, slots := 6, locals := o9 }) (va_Pc [.ref (ad 0), .int p0, .int p1, .int p2] (wPreX 116 D cA ad I J X sz)) (nInt 116 ad sz) (xT 116 D cA ad sz eI I J X) 1 6 (fr 116 ad sz)) : Met l yL_sent wsL_sent ({ frames := 100, cells := 1, slots := 6, locals := 4000 }) (va_Pc [.ref (ad 0), .int p0, .int p1, .int p2, .ref (ad 114)] (wPreA D cA ad K V tO tT I J X sz)) (qI 116 D cA ad sz 1 I J X) 1 6 (fr 116 ad sz) := by
  refine va_MetW (cc := cL_sent) (maxL := 6) (ret := some .int) (hh := [(0, 12, 15, 13)]) (by decide) rfl ?_
  intro p e s m args below meth c s₁ B hml hv
  obtain ⟨rfl, ⟨rfl, hP, hK⟩, hX, hL, hN1, hN2⟩ := hv
  have hx := B.exec
  have hb := B.bytes
  have hr := B.returns
  have hts := atoms_spec (ws := wsL_sent) B.pre
  have hown : s.vm.findClass RL = some m.cls := findClass_of_methodNamed B.named
  have hlocks := B.notSynchronized
  have hT9 := vx_table (x := yL_sent) B (hts _ List.mem_cons_self)
  have hS : va_S (fr 116 ad s.heap.size) s.heap s.heap [] := va_S.rf
  have hA : ∀ k, k < 116 → fr 116 ad s.heap.size (ad k) := fr_ad
  have hl := lv_entry ([.ref (ad 0), .int p0, .int p1, .int p2, .ref (ad 114)]) (n := 6) (Nat.le_of_ble_eq_true rfl)
  rw [lg_entry_eq]
  generalize (lg_sl ([.ref (ad 0), .int p0, .int p1, .int p2, .ref (ad 114)]) ++ List.replicate (6 - (lg_sl ([.ref (ad 0), .int p0, .int p1, .int p2, .ref (ad 114)])).length) Slot.unset).toArray = ls at hl ⊢
  have hl : lv_has ls 6 [(0, .ref (ad 0)), (1, .int p0), (2, .int p1), (3, .int p2), (4, .ref (ad 114))] := hl
  refine lv_aload hx hb dL_sent_0 (lv_at hl 4 rfl) ?_
  refine lv_iconst (v := 0) hx hb dL_sent_2 (by decide) ?_
  refine lv_aload_n hx hb dL_sent_3 rfl (lv_at hl 0 rfl) ?_
  refine lv_iload_n hx hb dL_sent_4 rfl (lv_at hl 1 rfl) ?_
  refine lv_iload_n hx hb dL_sent_5 rfl (lv_at hl 2 rfl) ?_
  refine lv_iload_n hx hb dL_sent_6 rfl (lv_at hl 3 rfl) ?_
  refine w_callxI (vx_runV (As := [.int p0, .int p1, .int p2]) (rest := [.int 0, .ref (ad 114)]) ⟨hx, hb, hml, hown, hts⟩ hM (cwV 3 hts gL_sent_X4_sent rfl rfl rfl (by decide +kernel) ⟨by show f9 + 1 ≤ 100; omega, by show 8 + (4 + 11) + o9 ≤ 4000; omega⟩) (w_preVX hK hP hX hS 0 (by decide) ⟨rfl, rfl⟩ rfl) rfl rfl hl.1 rfl (lv_room (Nat.le_of_ble_eq_true rfl)) dL_sent_7 ⟨(Nat.le_of_ble_eq_true rfl), (Nat.le_of_ble_eq_true rfl)⟩) hS (fun ce q9 H locs hP hS hce hcv hcl => ?_)
  refine vx_catch (name := eI) hown [] ⟨0, 12, 15, 13⟩ [] (by rw [hT9]; rfl) (fun z hz => nomatch hz) (by decide) (by decide) (hts (.classLink RL 13 eI) (List.mem_of_getElem? (i := 1) rfl)) (va_Nw.use rfl hX.2.2.1.2.2.2.1) hce hcv hcl ?_
  refine lv_astore (lv' := [(5, .ref q9), (0, .ref (ad 0)), (1, .int p0), (2, .int p1), (3, .int p2), (4, .ref (ad 114))]) hx hb dL_sent_15 hl (by decide) rfl (fun ls hl => ?_)
  refine lv_iconst (v := 1) hx hb dL_sent_17 (by decide) ?_
  refine W.widen (k := 1) (n := 6) (by decide) (by decide) ?_
  exact w_iret hx hb hr hlocks hK hP hS ⟨rfl, rfl, rfl, rfl⟩ dL_sent_18

set_option maxHeartbeats 4000000 in
set_option maxRecDepth 100000 in
theorem h_listed_ok (l : Launch) (D : va_G) (cA : Nat → ClassId) (ad K V : Nat → Nat) (tO tT : Nat) (hi : inj 116 ad) (I : SI) (J : SJ) (X : SX) (sz : Nat) (p0 p1 : Int32) {f9 o9 : Nat} (hf9 : f9 ≤ 90) (ho9 : o9 ≤ 3000) (r : Int32) (I1 : SI) (J1 : SJ) (X1 : SX) (hM : Met l yX4_listed wsX4_listed ({ frames := f9, cells := 0, slots := 0, locals := o9 }) (va_Pc [.ref (ad 0), .int p0, .int p1] (wPre 116 D cA ad I J X sz)) (qI 116 D cA ad sz r I1 J1 X1) 0 0 (fr 116 ad sz)) : Met l yL_listed wsL_listed ({ frames := 100, cells := 1, slots := 6, locals := 4000 }) (va_Pc [.ref (ad 0), .int p0, .int p1, .ref (ad 114)] (wPreA D cA ad K V tO tT I J X sz)) (qI 116 D cA ad sz 0 I1 (st2 J1 114 0 r.toInt64) X1) 1 6 (fr 116 ad sz) := by
  refine va_MetW (cc := cL_listed) (maxL := 5) (ret := some .int) (hh := [(0, 10, 13, 13)]) (by decide) rfl ?_
  intro p e s m args below meth c s₁ B hml hv
  obtain ⟨rfl, ⟨rfl, hP, hK⟩, hX, hL, hN1, hN2⟩ := hv
  have hx := B.exec
  have hb := B.bytes
  have hr := B.returns
  have hts := atoms_spec (ws := wsL_listed) B.pre
  have hown : s.vm.findClass RL = some m.cls := findClass_of_methodNamed B.named
  have hlocks := B.notSynchronized
  have hS : va_S (fr 116 ad s.heap.size) s.heap s.heap [] := va_S.rf
  have hA : ∀ k, k < 116 → fr 116 ad s.heap.size (ad k) := fr_ad
  have hl := lv_entry ([.ref (ad 0), .int p0, .int p1, .ref (ad 114)]) (n := 5) (Nat.le_of_ble_eq_true rfl)
  rw [lg_entry_eq]
  generalize (lg_sl ([.ref (ad 0), .int p0, .int p1, .ref (ad 114)]) ++ List.replicate (5 - (lg_sl ([.ref (ad 0), .int p0, .int p1, .ref (ad 114)])).length) Slot.unset).toArray = ls at hl ⊢
  have hl : lv_has ls 5 [(0, .ref (ad 0)), (1, .int p0), (2, .int p1), (3, .ref (ad 114))] := hl
  refine lv_aload_n hx hb dL_listed_0 rfl (lv_at hl 3 rfl) ?_
  refine lv_iconst (v := 0) hx hb dL_listed_1 (by decide) ?_
  refine lv_aload_n hx hb dL_listed_2 rfl (lv_at hl 0 rfl) ?_
  refine lv_iload_n hx hb dL_listed_3 rfl (lv_at hl 1 rfl) ?_
  refine lv_iload_n hx hb dL_listed_4 rfl (lv_at hl 2 rfl) ?_
  refine w_calli (va_runV (As := [.int p0, .int p1]) (rest := [.int 0, .ref (ad 114)]) ⟨hx, hb, hml, hown, hts⟩ hM (cwV 2 hts gL_listed_X4_listed rfl rfl rfl (by decide +kernel) ⟨by show f9 + 1 ≤ 100; omega, by show 8 + (4 + 11) + o9 ≤ 4000; omega⟩) (w_preV hK hP 0 (by decide) ⟨rfl, rfl⟩ rfl) rfl rfl hl.1 rfl (lv_room (Nat.le_of_ble_eq_true rfl)) dL_listed_5 ⟨(Nat.le_of_ble_eq_true rfl), (Nat.le_of_ble_eq_true rfl)⟩) hS (fun H locs hP hS => ?_)
  refine lv_i2l (v := r.toInt64) hx hb dL_listed_8 rfl ?_
  refine w_last (v := r.toInt64) hx hb hK hP hi hA hS 114 0 ⟨rfl, by decide⟩ (by decide) (x := 0) rfl dL_listed_9 (fun H locs hP hS => ?_)
  refine lv_goto (tgt := 17) hx hb dL_listed_10 (by decide) ?_
  refine lv_iconst (v := 0) hx hb dL_listed_17 (by decide) ?_
  refine W.widen (k := 1) (n := 6) (by decide) (by decide) ?_
  exact w_iret hx hb hr hlocks hK hP hS ⟨rfl, rfl, rfl, rfl⟩ dL_listed_18

set_option maxHeartbeats 4000000 in
set_option maxRecDepth 100000 in
theorem h_listed_t1 (l : Launch) (D : va_G) (cA : Nat → ClassId) (ad K V : Nat → Nat) (tO tT : Nat) (hi : inj 116 ad) (I : SI) (J : SJ) (X : SX) (sz : Nat) (p0 p1 : Int32) {f9 o9 : Nat} (hf9 : f9 ≤ 90) (ho9 : o9 ≤ 3000) (hM : vx_Met l yX4_listed wsX4_listed ({ frames := f9, cells := 1, slots := 6, locals := o9 }) (va_Pc [.ref (ad 0), .int p0, .int p1] (wPreX 116 D cA ad I J X sz)) (nInt 116 ad sz) (xT 116 D cA ad sz eI I J X) 1 6 (fr 116 ad sz)) : Met l yL_listed wsL_listed ({ frames := 100, cells := 1, slots := 6, locals := 4000 }) (va_Pc [.ref (ad 0), .int p0, .int p1, .ref (ad 114)] (wPreA D cA ad K V tO tT I J X sz)) (qI 116 D cA ad sz 1 I J X) 1 6 (fr 116 ad sz) := by
  refine va_MetW (cc := cL_listed) (maxL := 5) (ret := some .int) (hh := [(0, 10, 13, 13)]) (by decide) rfl ?_
  intro p e s m args below meth c s₁ B hml hv
  obtain ⟨rfl, ⟨rfl, hP, hK⟩, hX, hL, hN1, hN2⟩ := hv
  have hx := B.exec
  have hb := B.bytes
  have hr := B.returns
  have hts := atoms_spec (ws := wsL_listed) B.pre
  have hown : s.vm.findClass RL = some m.cls := findClass_of_methodNamed B.named
  have hlocks := B.notSynchronized
  have hT9 := vx_table (x := yL_listed) B (hts _ List.mem_cons_self)
  have hS : va_S (fr 116 ad s.heap.size) s.heap s.heap [] := va_S.rf
  have hA : ∀ k, k < 116 → fr 116 ad s.heap.size (ad k) := fr_ad
  have hl := lv_entry ([.ref (ad 0), .int p0, .int p1, .ref (ad 114)]) (n := 5) (Nat.le_of_ble_eq_true rfl)
  rw [lg_entry_eq]
  generalize (lg_sl ([.ref (ad 0), .int p0, .int p1, .ref (ad 114)]) ++ List.replicate (5 - (lg_sl ([.ref (ad 0), .int p0, .int p1, .ref (ad 114)])).length) Slot.unset).toArray = ls at hl ⊢
  have hl : lv_has ls 5 [(0, .ref (ad 0)), (1, .int p0), (2, .int p1), (3, .ref (ad 114))] := hl
  refine lv_aload_n hx hb dL_listed_0 rfl (lv_at hl 3 rfl) ?_
  refine lv_iconst (v := 0) hx hb dL_listed_1 (by decide) ?_
  refine lv_aload_n hx hb dL_listed_2 rfl (lv_at hl 0 rfl) ?_
  refine lv_iload_n hx hb dL_listed_3 rfl (lv_at hl 1 rfl) ?_
  refine lv_iload_n hx hb dL_listed_4 rfl (lv_at hl 2 rfl) ?_
  refine w_callxI (vx_runV (As := [.int p0, .int p1]) (rest := [.int 0, .ref (ad 114)]) ⟨hx, hb, hml, hown, hts⟩ hM (cwV 2 hts gL_listed_X4_listed rfl rfl rfl (by decide +kernel) ⟨by show f9 + 1 ≤ 100; omega, by show 8 + (4 + 11) + o9 ≤ 4000; omega⟩) (w_preVX hK hP hX hS 0 (by decide) ⟨rfl, rfl⟩ rfl) rfl rfl hl.1 rfl (lv_room (Nat.le_of_ble_eq_true rfl)) dL_listed_5 ⟨(Nat.le_of_ble_eq_true rfl), (Nat.le_of_ble_eq_true rfl)⟩) hS (fun ce q9 H locs hP hS hce hcv hcl => ?_)
  refine vx_catch (name := eI) hown [] ⟨0, 10, 13, 13⟩ [] (by rw [hT9]; rfl) (fun z hz => nomatch hz) (by decide) (by decide) (hts (.classLink RL 13 eI) (List.mem_of_getElem? (i := 1) rfl)) (va_Nw.use rfl hX.2.2.1.2.2.2.1) hce hcv hcl ?_
  refine lv_astore (lv' := [(4, .ref q9), (0, .ref (ad 0)), (1, .int p0), (2, .int p1), (3, .ref (ad 114))]) hx hb dL_listed_13 hl (by decide) rfl (fun ls hl => ?_)
  refine lv_iconst (v := 1) hx hb dL_listed_15 (by decide) ?_
  refine W.widen (k := 1) (n := 6) (by decide) (by decide) ?_
  exact w_iret hx hb hr hlocks hK hP hS ⟨rfl, rfl, rfl, rfl⟩ dL_listed_16

set_option maxHeartbeats 4000000 in
set_option maxRecDepth 100000 in
theorem h_way_ok (l : Launch) (D : va_G) (cA : Nat → ClassId) (ad K V : Nat → Nat) (tO tT : Nat) (hi : inj 116 ad) (I : SI) (J : SJ) (X : SX) (sz : Nat) (p0 p1 p2 p3 : Int32) {f9 o9 : Nat} (hf9 : f9 ≤ 90) (ho9 : o9 ≤ 3000) (r : Int32) (I1 : SI) (J1 : SJ) (X1 : SX) (hM : Met l yX4_way wsX4_way ({ frames := f9, cells := 0, slots := 0, locals := o9 }) (va_Pc [.ref (ad 0), .int p0, .int p1, .int p2, .int p3] (wPre 116 D cA ad I J X sz)) (qI 116 D cA ad sz r I1 J1 X1) 0 0 (fr 116 ad sz)) : Met l yL_way wsL_way ({ frames := 100, cells := 1, slots := 6, locals := 4000 }) (va_Pc [.ref (ad 0), .int p0, .int p1, .int p2, .int p3, .ref (ad 114)] (wPreA D cA ad K V tO tT I J X sz)) (qI 116 D cA ad sz 0 I1 (st2 J1 114 0 r.toInt64) X1) 1 6 (fr 116 ad sz) := by
  refine va_MetW (cc := cL_way) (maxL := 7) (ret := some .int) (hh := [(0, 14, 17, 13), (0, 14, 21, 15)]) (by decide) rfl ?_
  intro p e s m args below meth c s₁ B hml hv
  obtain ⟨rfl, ⟨rfl, hP, hK⟩, hX, hL, hN1, hN2⟩ := hv
  have hx := B.exec
  have hb := B.bytes
  have hr := B.returns
  have hts := atoms_spec (ws := wsL_way) B.pre
  have hown : s.vm.findClass RL = some m.cls := findClass_of_methodNamed B.named
  have hlocks := B.notSynchronized
  have hS : va_S (fr 116 ad s.heap.size) s.heap s.heap [] := va_S.rf
  have hA : ∀ k, k < 116 → fr 116 ad s.heap.size (ad k) := fr_ad
  have hl := lv_entry ([.ref (ad 0), .int p0, .int p1, .int p2, .int p3, .ref (ad 114)]) (n := 7) (Nat.le_of_ble_eq_true rfl)
  rw [lg_entry_eq]
  generalize (lg_sl ([.ref (ad 0), .int p0, .int p1, .int p2, .int p3, .ref (ad 114)]) ++ List.replicate (7 - (lg_sl ([.ref (ad 0), .int p0, .int p1, .int p2, .int p3, .ref (ad 114)])).length) Slot.unset).toArray = ls at hl ⊢
  have hl : lv_has ls 7 [(0, .ref (ad 0)), (1, .int p0), (2, .int p1), (3, .int p2), (4, .int p3), (5, .ref (ad 114))] := hl
  refine lv_aload hx hb dL_way_0 (lv_at hl 5 rfl) ?_
  refine lv_iconst (v := 0) hx hb dL_way_2 (by decide) ?_
  refine lv_aload_n hx hb dL_way_3 rfl (lv_at hl 0 rfl) ?_
  refine lv_iload_n hx hb dL_way_4 rfl (lv_at hl 1 rfl) ?_
  refine lv_iload_n hx hb dL_way_5 rfl (lv_at hl 2 rfl) ?_
  refine lv_iload_n hx hb dL_way_6 rfl (lv_at hl 3 rfl) ?_
  refine lv_iload hx hb dL_way_7 (lv_at hl 4 rfl) ?_
  refine w_calli (va_runV (As := [.int p0, .int p1, .int p2, .int p3]) (rest := [.int 0, .ref (ad 114)]) ⟨hx, hb, hml, hown, hts⟩ hM (cwV 4 hts gL_way_X4_way rfl rfl rfl (by decide +kernel) ⟨by show f9 + 1 ≤ 100; omega, by show 8 + (6 + 11) + o9 ≤ 4000; omega⟩) (w_preV hK hP 0 (by decide) ⟨rfl, rfl⟩ rfl) rfl rfl hl.1 rfl (lv_room (Nat.le_of_ble_eq_true rfl)) dL_way_9 ⟨(Nat.le_of_ble_eq_true rfl), (Nat.le_of_ble_eq_true rfl)⟩) hS (fun H locs hP hS => ?_)
  refine lv_i2l (v := r.toInt64) hx hb dL_way_12 rfl ?_
  refine w_last (v := r.toInt64) hx hb hK hP hi hA hS 114 0 ⟨rfl, by decide⟩ (by decide) (x := 0) rfl dL_way_13 (fun H locs hP hS => ?_)
  refine lv_goto (tgt := 25) hx hb dL_way_14 (by decide) ?_
  refine lv_iconst (v := 0) hx hb dL_way_25 (by decide) ?_
  refine W.widen (k := 1) (n := 6) (by decide) (by decide) ?_
  exact w_iret hx hb hr hlocks hK hP hS ⟨rfl, rfl, rfl, rfl⟩ dL_way_26

set_option maxHeartbeats 4000000 in
set_option maxRecDepth 100000 in
theorem h_way_t1 (l : Launch) (D : va_G) (cA : Nat → ClassId) (ad K V : Nat → Nat) (tO tT : Nat) (hi : inj 116 ad) (I : SI) (J : SJ) (X : SX) (sz : Nat) (p0 p1 p2 p3 : Int32) {f9 o9 : Nat} (hf9 : f9 ≤ 90) (ho9 : o9 ≤ 3000) (hM : vx_Met l yX4_way wsX4_way ({ frames := f9, cells := 1, slots := 6, locals := o9 }) (va_Pc [.ref (ad 0), .int p0, .int p1, .int p2, .int p3] (wPreX 116 D cA ad I J X sz)) (nInt 116 ad sz) (xT 116 D cA ad sz eI I J X) 1 6 (fr 116 ad sz)) : Met l yL_way wsL_way ({ frames := 100, cells := 1, slots := 6, locals := 4000 }) (va_Pc [.ref (ad 0), .int p0, .int p1, .int p2, .int p3, .ref (ad 114)] (wPreA D cA ad K V tO tT I J X sz)) (qI 116 D cA ad sz 1 I J X) 1 6 (fr 116 ad sz) := by
  refine va_MetW (cc := cL_way) (maxL := 7) (ret := some .int) (hh := [(0, 14, 17, 13), (0, 14, 21, 15)]) (by decide) rfl ?_
  intro p e s m args below meth c s₁ B hml hv
  obtain ⟨rfl, ⟨rfl, hP, hK⟩, hX, hL, hN1, hN2⟩ := hv
  have hx := B.exec
  have hb := B.bytes
  have hr := B.returns
  have hts := atoms_spec (ws := wsL_way) B.pre
  have hown : s.vm.findClass RL = some m.cls := findClass_of_methodNamed B.named
  have hlocks := B.notSynchronized
  have hT9 := vx_table (x := yL_way) B (hts _ List.mem_cons_self)
  have hS : va_S (fr 116 ad s.heap.size) s.heap s.heap [] := va_S.rf
  have hA : ∀ k, k < 116 → fr 116 ad s.heap.size (ad k) := fr_ad
  have hl := lv_entry ([.ref (ad 0), .int p0, .int p1, .int p2, .int p3, .ref (ad 114)]) (n := 7) (Nat.le_of_ble_eq_true rfl)
  rw [lg_entry_eq]
  generalize (lg_sl ([.ref (ad 0), .int p0, .int p1, .int p2, .int p3, .ref (ad 114)]) ++ List.replicate (7 - (lg_sl ([.ref (ad 0), .int p0, .int p1, .int p2, .int p3, .ref (ad 114)])).length) Slot.unset).toArray = ls at hl ⊢
  have hl : lv_has ls 7 [(0, .ref (ad 0)), (1, .int p0), (2, .int p1), (3, .int p2), (4, .int p3), (5, .ref (ad 114))] := hl
  refine lv_aload hx hb dL_way_0 (lv_at hl 5 rfl) ?_
  refine lv_iconst (v := 0) hx hb dL_way_2 (by decide) ?_
  refine lv_aload_n hx hb dL_way_3 rfl (lv_at hl 0 rfl) ?_
  refine lv_iload_n hx hb dL_way_4 rfl (lv_at hl 1 rfl) ?_
  refine lv_iload_n hx hb dL_way_5 rfl (lv_at hl 2 rfl) ?_
  refine lv_iload_n hx hb dL_way_6 rfl (lv_at hl 3 rfl) ?_
  refine lv_iload hx hb dL_way_7 (lv_at hl 4 rfl) ?_
  refine w_callxI (vx_runV (As := [.int p0, .int p1, .int p2, .int p3]) (rest := [.int 0, .ref (ad 114)]) ⟨hx, hb, hml, hown, hts⟩ hM (cwV 4 hts gL_way_X4_way rfl rfl rfl (by decide +kernel) ⟨by show f9 + 1 ≤ 100; omega, by show 8 + (6 + 11) + o9 ≤ 4000; omega⟩) (w_preVX hK hP hX hS 0 (by decide) ⟨rfl, rfl⟩ rfl) rfl rfl hl.1 rfl (lv_room (Nat.le_of_ble_eq_true rfl)) dL_way_9 ⟨(Nat.le_of_ble_eq_true rfl), (Nat.le_of_ble_eq_true rfl)⟩) hS (fun ce q9 H locs hP hS hce hcv hcl => ?_)
  refine vx_catch (name := eI) hown [] ⟨0, 14, 17, 13⟩ [⟨0, 14, 21, 15⟩] (by rw [hT9]; rfl) (fun z hz => nomatch hz) (by decide) (by decide) (hts (.classLink RL 13 eI) (List.mem_of_getElem? (i := 1) rfl)) (va_Nw.use rfl hX.2.2.1.2.2.2.1) hce hcv hcl ?_
  refine lv_astore (lv' := [(6, .ref q9), (0, .ref (ad 0)), (1, .int p0), (2, .int p1), (3, .int p2), (4, .int p3), (5, .ref (ad 114))]) hx hb dL_way_17 hl (by decide) rfl (fun ls hl => ?_)
  refine lv_iconst (v := 1) hx hb dL_way_19 (by decide) ?_
  refine W.widen (k := 1) (n := 6) (by decide) (by decide) ?_
  exact w_iret hx hb hr hlocks hK hP hS ⟨rfl, rfl, rfl, rfl⟩ dL_way_20

set_option maxHeartbeats 4000000 in
set_option maxRecDepth 100000 in
theorem h_way_t2 (l : Launch) (D : va_G) (cA : Nat → ClassId) (ad K V : Nat → Nat) (tO tT : Nat) (hi : inj 116 ad) (I : SI) (J : SJ) (X : SX) (sz : Nat) (p0 p1 p2 p3 : Int32) {f9 o9 : Nat} (hf9 : f9 ≤ 90) (ho9 : o9 ≤ 3000) (hM : vx_Met l yX4_way wsX4_way ({ frames := f9, cells := 1, slots := 6, locals := o9 }) (va_Pc [.ref (ad 0), .int p0, .int p1, .int p2, .int p3] (wPreX 116 D cA ad I J X sz)) (nInt 116 ad sz) (xT 116 D cA ad sz eA I J X) 1 6 (fr 116 ad sz)) : Met l yL_way wsL_way ({ frames := 100, cells := 1, slots := 6, locals := 4000 }) (va_Pc [.ref (ad 0), .int p0, .int p1, .int p2, .int p3, .ref (ad 114)] (wPreA D cA ad K V tO tT I J X sz)) (qI 116 D cA ad sz 2 I J X) 1 6 (fr 116 ad sz) := by
  refine va_MetW (cc := cL_way) (maxL := 7) (ret := some .int) (hh := [(0, 14, 17, 13), (0, 14, 21, 15)]) (by decide) rfl ?_
  intro p e s m args below meth c s₁ B hml hv
  obtain ⟨rfl, ⟨rfl, hP, hK⟩, hX, hL, hN1, hN2⟩ := hv
  have hx := B.exec
  have hb := B.bytes
  have hr := B.returns
  have hts := atoms_spec (ws := wsL_way) B.pre
  have hown : s.vm.findClass RL = some m.cls := findClass_of_methodNamed B.named
  have hlocks := B.notSynchronized
  have hT9 := vx_table (x := yL_way) B (hts _ List.mem_cons_self)
  have hS : va_S (fr 116 ad s.heap.size) s.heap s.heap [] := va_S.rf
  have hA : ∀ k, k < 116 → fr 116 ad s.heap.size (ad k) := fr_ad
  have hl := lv_entry ([.ref (ad 0), .int p0, .int p1, .int p2, .int p3, .ref (ad 114)]) (n := 7) (Nat.le_of_ble_eq_true rfl)
  rw [lg_entry_eq]
  generalize (lg_sl ([.ref (ad 0), .int p0, .int p1, .int p2, .int p3, .ref (ad 114)]) ++ List.replicate (7 - (lg_sl ([.ref (ad 0), .int p0, .int p1, .int p2, .int p3, .ref (ad 114)])).length) Slot.unset).toArray = ls at hl ⊢
  have hl : lv_has ls 7 [(0, .ref (ad 0)), (1, .int p0), (2, .int p1), (3, .int p2), (4, .int p3), (5, .ref (ad 114))] := hl
  refine lv_aload hx hb dL_way_0 (lv_at hl 5 rfl) ?_
  refine lv_iconst (v := 0) hx hb dL_way_2 (by decide) ?_
  refine lv_aload_n hx hb dL_way_3 rfl (lv_at hl 0 rfl) ?_
  refine lv_iload_n hx hb dL_way_4 rfl (lv_at hl 1 rfl) ?_
  refine lv_iload_n hx hb dL_way_5 rfl (lv_at hl 2 rfl) ?_
  refine lv_iload_n hx hb dL_way_6 rfl (lv_at hl 3 rfl) ?_
  refine lv_iload hx hb dL_way_7 (lv_at hl 4 rfl) ?_
  refine w_callxI (vx_runV (As := [.int p0, .int p1, .int p2, .int p3]) (rest := [.int 0, .ref (ad 114)]) ⟨hx, hb, hml, hown, hts⟩ hM (cwV 4 hts gL_way_X4_way rfl rfl rfl (by decide +kernel) ⟨by show f9 + 1 ≤ 100; omega, by show 8 + (6 + 11) + o9 ≤ 4000; omega⟩) (w_preVX hK hP hX hS 0 (by decide) ⟨rfl, rfl⟩ rfl) rfl rfl hl.1 rfl (lv_room (Nat.le_of_ble_eq_true rfl)) dL_way_9 ⟨(Nat.le_of_ble_eq_true rfl), (Nat.le_of_ble_eq_true rfl)⟩) hS (fun ce q9 H locs hP hS hce hcv hcl => ?_)
  refine vx_catch (name := eA) hown [⟨0, 14, 17, 13⟩] ⟨0, 14, 21, 15⟩ [] (by rw [hT9]; rfl) (fun z hz => by rw [List.mem_singleton] at hz; subst hz; exact Or.inr ⟨by decide, eI, hts (.classLink RL 13 eI) (List.mem_of_getElem? (i := 1) rfl), hN1⟩) (by decide) (by decide) (hts (.classLink RL 15 eA) (List.mem_of_getElem? (i := 2) rfl)) (va_Nw.use rfl hX.2.2.1.2.2.2.2.1) hce hcv hcl ?_
  refine lv_astore (lv' := [(6, .ref q9), (0, .ref (ad 0)), (1, .int p0), (2, .int p1), (3, .int p2), (4, .int p3), (5, .ref (ad 114))]) hx hb dL_way_21 hl (by decide) rfl (fun ls hl => ?_)
  refine lv_iconst (v := 2) hx hb dL_way_23 (by decide) ?_
  refine W.widen (k := 1) (n := 6) (by decide) (by decide) ?_
  exact w_iret hx hb hr hlocks hK hP hS ⟨rfl, rfl, rfl, rfl⟩ dL_way_24

set_option maxHeartbeats 4000000 in
set_option maxRecDepth 100000 in
theorem h_share_ok (l : Launch) (D : va_G) (cA : Nat → ClassId) (ad K V : Nat → Nat) (tO tT : Nat) (hi : inj 116 ad) (I : SI) (J : SJ) (X : SX) (sz : Nat) (p0 p1 : Int32) {f9 o9 : Nat} (hf9 : f9 ≤ 90) (ho9 : o9 ≤ 3000) (r : UInt64) (I1 : SI) (J1 : SJ) (X1 : SX) (hM : Met l yX4_share wsX4_share ({ frames := f9, cells := 0, slots := 0, locals := o9 }) (va_Pc [.ref (ad 0), .int p0, .int p1] (wPre 116 D cA ad I J X sz)) (qD 116 D cA ad sz r I1 J1 X1) 0 0 (fr 116 ad sz)) : Met l yL_share wsL_share ({ frames := 100, cells := 1, slots := 6, locals := 4000 }) (va_Pc [.ref (ad 0), .int p0, .int p1, .ref (ad 115)] (wPreA D cA ad K V tO tT I J X sz)) (qI 116 D cA ad sz 0 I1 J1 (st2 X1 115 0 r)) 1 6 (fr 116 ad sz) := by
  refine va_MetW (cc := cL_share) (maxL := 5) (ret := some .int) (hh := [(0, 9, 12, 13)]) (by decide) rfl ?_
  intro p e s m args below meth c s₁ B hml hv
  obtain ⟨rfl, ⟨rfl, hP, hK⟩, hX, hL, hN1, hN2⟩ := hv
  have hx := B.exec
  have hb := B.bytes
  have hr := B.returns
  have hts := atoms_spec (ws := wsL_share) B.pre
  have hown : s.vm.findClass RL = some m.cls := findClass_of_methodNamed B.named
  have hlocks := B.notSynchronized
  have hS : va_S (fr 116 ad s.heap.size) s.heap s.heap [] := va_S.rf
  have hA : ∀ k, k < 116 → fr 116 ad s.heap.size (ad k) := fr_ad
  have hl := lv_entry ([.ref (ad 0), .int p0, .int p1, .ref (ad 115)]) (n := 5) (Nat.le_of_ble_eq_true rfl)
  rw [lg_entry_eq]
  generalize (lg_sl ([.ref (ad 0), .int p0, .int p1, .ref (ad 115)]) ++ List.replicate (5 - (lg_sl ([.ref (ad 0), .int p0, .int p1, .ref (ad 115)])).length) Slot.unset).toArray = ls at hl ⊢
  have hl : lv_has ls 5 [(0, .ref (ad 0)), (1, .int p0), (2, .int p1), (3, .ref (ad 115))] := hl
  refine lv_aload_n hx hb dL_share_0 rfl (lv_at hl 3 rfl) ?_
  refine lv_iconst (v := 0) hx hb dL_share_1 (by decide) ?_
  refine lv_aload_n hx hb dL_share_2 rfl (lv_at hl 0 rfl) ?_
  refine lv_iload_n hx hb dL_share_3 rfl (lv_at hl 1 rfl) ?_
  refine lv_iload_n hx hb dL_share_4 rfl (lv_at hl 2 rfl) ?_
  refine w_calld (va_runV (As := [.int p0, .int p1]) (rest := [.int 0, .ref (ad 115)]) ⟨hx, hb, hml, hown, hts⟩ hM (cwV 2 hts gL_share_X4_share rfl rfl rfl (by decide +kernel) ⟨by show f9 + 1 ≤ 100; omega, by show 8 + (3 + 11) + o9 ≤ 4000; omega⟩) (w_preV hK hP 0 (by decide) ⟨rfl, rfl⟩ rfl) rfl rfl hl.1 rfl (lv_room (Nat.le_of_ble_eq_true rfl)) dL_share_5 ⟨(Nat.le_of_ble_eq_true rfl), (Nat.le_of_ble_eq_true rfl)⟩) hS (fun H locs hP hS => ?_)
  refine w_dast (v := r) hx hb hK hP hi hA hS 115 0 ⟨rfl, by decide⟩ (by decide) (x := 0) rfl dL_share_8 (fun H locs hP hS => ?_)
  refine lv_goto (tgt := 16) hx hb dL_share_9 (by decide) ?_
  refine lv_iconst (v := 0) hx hb dL_share_16 (by decide) ?_
  refine W.widen (k := 1) (n := 6) (by decide) (by decide) ?_
  exact w_iret hx hb hr hlocks hK hP hS ⟨rfl, rfl, rfl, rfl⟩ dL_share_17

set_option maxHeartbeats 4000000 in
set_option maxRecDepth 100000 in
theorem h_share_t1 (l : Launch) (D : va_G) (cA : Nat → ClassId) (ad K V : Nat → Nat) (tO tT : Nat) (hi : inj 116 ad) (I : SI) (J : SJ) (X : SX) (sz : Nat) (p0 p1 : Int32) {f9 o9 : Nat} (hf9 : f9 ≤ 90) (ho9 : o9 ≤ 3000) (hM : vx_Met l yX4_share wsX4_share ({ frames := f9, cells := 1, slots := 6, locals := o9 }) (va_Pc [.ref (ad 0), .int p0, .int p1] (wPreX 116 D cA ad I J X sz)) (nDbl 116 ad sz) (xT 116 D cA ad sz eI I J X) 1 6 (fr 116 ad sz)) : Met l yL_share wsL_share ({ frames := 100, cells := 1, slots := 6, locals := 4000 }) (va_Pc [.ref (ad 0), .int p0, .int p1, .ref (ad 115)] (wPreA D cA ad K V tO tT I J X sz)) (qI 116 D cA ad sz 1 I J X) 1 6 (fr 116 ad sz) := by
  refine va_MetW (cc := cL_share) (maxL := 5) (ret := some .int) (hh := [(0, 9, 12, 13)]) (by decide) rfl ?_
  intro p e s m args below meth c s₁ B hml hv
  obtain ⟨rfl, ⟨rfl, hP, hK⟩, hX, hL, hN1, hN2⟩ := hv
  have hx := B.exec
  have hb := B.bytes
  have hr := B.returns
  have hts := atoms_spec (ws := wsL_share) B.pre
  have hown : s.vm.findClass RL = some m.cls := findClass_of_methodNamed B.named
  have hlocks := B.notSynchronized
  have hT9 := vx_table (x := yL_share) B (hts _ List.mem_cons_self)
  have hS : va_S (fr 116 ad s.heap.size) s.heap s.heap [] := va_S.rf
  have hA : ∀ k, k < 116 → fr 116 ad s.heap.size (ad k) := fr_ad
  have hl := lv_entry ([.ref (ad 0), .int p0, .int p1, .ref (ad 115)]) (n := 5) (Nat.le_of_ble_eq_true rfl)
  rw [lg_entry_eq]
  generalize (lg_sl ([.ref (ad 0), .int p0, .int p1, .ref (ad 115)]) ++ List.replicate (5 - (lg_sl ([.ref (ad 0), .int p0, .int p1, .ref (ad 115)])).length) Slot.unset).toArray = ls at hl ⊢
  have hl : lv_has ls 5 [(0, .ref (ad 0)), (1, .int p0), (2, .int p1), (3, .ref (ad 115))] := hl
  refine lv_aload_n hx hb dL_share_0 rfl (lv_at hl 3 rfl) ?_
  refine lv_iconst (v := 0) hx hb dL_share_1 (by decide) ?_
  refine lv_aload_n hx hb dL_share_2 rfl (lv_at hl 0 rfl) ?_
  refine lv_iload_n hx hb dL_share_3 rfl (lv_at hl 1 rfl) ?_
  refine lv_iload_n hx hb dL_share_4 rfl (lv_at hl 2 rfl) ?_
  refine w_callxD (vx_runV (As := [.int p0, .int p1]) (rest := [.int 0, .ref (ad 115)]) ⟨hx, hb, hml, hown, hts⟩ hM (cwV 2 hts gL_share_X4_share rfl rfl rfl (by decide +kernel) ⟨by show f9 + 1 ≤ 100; omega, by show 8 + (3 + 11) + o9 ≤ 4000; omega⟩) (w_preVX hK hP hX hS 0 (by decide) ⟨rfl, rfl⟩ rfl) rfl rfl hl.1 rfl (lv_room (Nat.le_of_ble_eq_true rfl)) dL_share_5 ⟨(Nat.le_of_ble_eq_true rfl), (Nat.le_of_ble_eq_true rfl)⟩) hS (fun ce q9 H locs hP hS hce hcv hcl => ?_)
  refine vx_catch (name := eI) hown [] ⟨0, 9, 12, 13⟩ [] (by rw [hT9]; rfl) (fun z hz => nomatch hz) (by decide) (by decide) (hts (.classLink RL 13 eI) (List.mem_of_getElem? (i := 1) rfl)) (va_Nw.use rfl hX.2.2.1.2.2.2.1) hce hcv hcl ?_
  refine lv_astore (lv' := [(4, .ref q9), (0, .ref (ad 0)), (1, .int p0), (2, .int p1), (3, .ref (ad 115))]) hx hb dL_share_12 hl (by decide) rfl (fun ls hl => ?_)
  refine lv_iconst (v := 1) hx hb dL_share_14 (by decide) ?_
  refine W.widen (k := 1) (n := 6) (by decide) (by decide) ?_
  exact w_iret hx hb hr hlocks hK hP hS ⟨rfl, rfl, rfl, rfl⟩ dL_share_15

set_option maxHeartbeats 4000000 in
set_option maxRecDepth 100000 in
theorem h_text_ok (l : Launch) (D : va_G) (cA : Nat → ClassId) (ad K V : Nat → Nat) (tO tT : Nat) (hi : inj 116 ad) (I : SI) (J : SJ) (X : SX) (sz : Nat) (p0 p1 p2 : Int32) {f9 o9 : Nat} (hf9 : f9 ≤ 90) (ho9 : o9 ≤ 3000) (r : Int32) (I1 : SI) (J1 : SJ) (X1 : SX) (hM : Met l yX4_text wsX4_text ({ frames := f9, cells := 0, slots := 0, locals := o9 }) (va_Pc [.ref (ad 0), .int p0, .int p1, .int p2] (wPreL 116 D cA ad K V tO tT I J X sz)) (qI 116 D cA ad sz r I1 J1 X1) 0 0 (fr 116 ad sz)) : Met l yL_text wsL_text ({ frames := 100, cells := 1, slots := 6, locals := 4000 }) (va_Pc [.ref (ad 0), .int p0, .int p1, .int p2, .ref (ad 114)] (wPreA D cA ad K V tO tT I J X sz)) (qI 116 D cA ad sz 0 I1 (st2 J1 114 0 r.toInt64) X1) 1 6 (fr 116 ad sz) := by
  refine va_MetW (cc := cL_text) (maxL := 6) (ret := some .int) (hh := [(0, 12, 15, 13)]) (by decide) rfl ?_
  intro p e s m args below meth c s₁ B hml hv
  obtain ⟨rfl, ⟨rfl, hP, hK⟩, hX, hL, hN1, hN2⟩ := hv
  have hx := B.exec
  have hb := B.bytes
  have hr := B.returns
  have hts := atoms_spec (ws := wsL_text) B.pre
  have hown : s.vm.findClass RL = some m.cls := findClass_of_methodNamed B.named
  have hlocks := B.notSynchronized
  have hS : va_S (fr 116 ad s.heap.size) s.heap s.heap [] := va_S.rf
  have hA : ∀ k, k < 116 → fr 116 ad s.heap.size (ad k) := fr_ad
  have hl := lv_entry ([.ref (ad 0), .int p0, .int p1, .int p2, .ref (ad 114)]) (n := 6) (Nat.le_of_ble_eq_true rfl)
  rw [lg_entry_eq]
  generalize (lg_sl ([.ref (ad 0), .int p0, .int p1, .int p2, .ref (ad 114)]) ++ List.replicate (6 - (lg_sl ([.ref (ad 0), .int p0, .int p1, .int p2, .ref (ad 114)])).length) Slot.unset).toArray = ls at hl ⊢
  have hl : lv_has ls 6 [(0, .ref (ad 0)), (1, .int p0), (2, .int p1), (3, .int p2), (4, .ref (ad 114))] := hl
  refine lv_aload hx hb dL_text_0 (lv_at hl 4 rfl) ?_
  refine lv_iconst (v := 0) hx hb dL_text_2 (by decide) ?_
  refine lv_aload_n hx hb dL_text_3 rfl (lv_at hl 0 rfl) ?_
  refine lv_iload_n hx hb dL_text_4 rfl (lv_at hl 1 rfl) ?_
  refine lv_iload_n hx hb dL_text_5 rfl (lv_at hl 2 rfl) ?_
  refine lv_iload_n hx hb dL_text_6 rfl (lv_at hl 3 rfl) ?_
  refine w_calli (va_runV (As := [.int p0, .int p1, .int p2]) (rest := [.int 0, .ref (ad 114)]) ⟨hx, hb, hml, hown, hts⟩ hM (cwV 3 hts gL_text_X4_text rfl rfl rfl (by decide +kernel) ⟨by show f9 + 1 ≤ 100; omega, by show 8 + (4 + 11) + o9 ≤ 4000; omega⟩) (w_preVL hK hP hL hS 0 (by decide) ⟨rfl, rfl⟩ rfl) rfl rfl hl.1 rfl (lv_room (Nat.le_of_ble_eq_true rfl)) dL_text_7 ⟨(Nat.le_of_ble_eq_true rfl), (Nat.le_of_ble_eq_true rfl)⟩) hS (fun H locs hP hS => ?_)
  refine lv_i2l (v := r.toInt64) hx hb dL_text_10 rfl ?_
  refine w_last (v := r.toInt64) hx hb hK hP hi hA hS 114 0 ⟨rfl, by decide⟩ (by decide) (x := 0) rfl dL_text_11 (fun H locs hP hS => ?_)
  refine lv_goto (tgt := 19) hx hb dL_text_12 (by decide) ?_
  refine lv_iconst (v := 0) hx hb dL_text_19 (by decide) ?_
  refine W.widen (k := 1) (n := 6) (by decide) (by decide) ?_
  exact w_iret hx hb hr hlocks hK hP hS ⟨rfl, rfl, rfl, rfl⟩ dL_text_20

set_option maxHeartbeats 4000000 in
set_option maxRecDepth 100000 in
theorem h_text_t1 (l : Launch) (D : va_G) (cA : Nat → ClassId) (ad K V : Nat → Nat) (tO tT : Nat) (hi : inj 116 ad) (I : SI) (J : SJ) (X : SX) (sz : Nat) (p0 p1 p2 : Int32) {f9 o9 : Nat} (hf9 : f9 ≤ 90) (ho9 : o9 ≤ 3000) (hM : vx_Met l yX4_text wsX4_text ({ frames := f9, cells := 1, slots := 6, locals := o9 }) (va_Pc [.ref (ad 0), .int p0, .int p1, .int p2] (wPreX 116 D cA ad I J X sz)) (nInt 116 ad sz) (xT 116 D cA ad sz eI I J X) 1 6 (fr 116 ad sz)) : Met l yL_text wsL_text ({ frames := 100, cells := 1, slots := 6, locals := 4000 }) (va_Pc [.ref (ad 0), .int p0, .int p1, .int p2, .ref (ad 114)] (wPreA D cA ad K V tO tT I J X sz)) (qI 116 D cA ad sz 1 I J X) 1 6 (fr 116 ad sz) := by
  refine va_MetW (cc := cL_text) (maxL := 6) (ret := some .int) (hh := [(0, 12, 15, 13)]) (by decide) rfl ?_
  intro p e s m args below meth c s₁ B hml hv
  obtain ⟨rfl, ⟨rfl, hP, hK⟩, hX, hL, hN1, hN2⟩ := hv
  have hx := B.exec
  have hb := B.bytes
  have hr := B.returns
  have hts := atoms_spec (ws := wsL_text) B.pre
  have hown : s.vm.findClass RL = some m.cls := findClass_of_methodNamed B.named
  have hlocks := B.notSynchronized
  have hT9 := vx_table (x := yL_text) B (hts _ List.mem_cons_self)
  have hS : va_S (fr 116 ad s.heap.size) s.heap s.heap [] := va_S.rf
  have hA : ∀ k, k < 116 → fr 116 ad s.heap.size (ad k) := fr_ad
  have hl := lv_entry ([.ref (ad 0), .int p0, .int p1, .int p2, .ref (ad 114)]) (n := 6) (Nat.le_of_ble_eq_true rfl)
  rw [lg_entry_eq]
  generalize (lg_sl ([.ref (ad 0), .int p0, .int p1, .int p2, .ref (ad 114)]) ++ List.replicate (6 - (lg_sl ([.ref (ad 0), .int p0, .int p1, .int p2, .ref (ad 114)])).length) Slot.unset).toArray = ls at hl ⊢
  have hl : lv_has ls 6 [(0, .ref (ad 0)), (1, .int p0), (2, .int p1), (3, .int p2), (4, .ref (ad 114))] := hl
  refine lv_aload hx hb dL_text_0 (lv_at hl 4 rfl) ?_
  refine lv_iconst (v := 0) hx hb dL_text_2 (by decide) ?_
  refine lv_aload_n hx hb dL_text_3 rfl (lv_at hl 0 rfl) ?_
  refine lv_iload_n hx hb dL_text_4 rfl (lv_at hl 1 rfl) ?_
  refine lv_iload_n hx hb dL_text_5 rfl (lv_at hl 2 rfl) ?_
  refine lv_iload_n hx hb dL_text_6 rfl (lv_at hl 3 rfl) ?_
  refine w_callxI (vx_runV (As := [.int p0, .int p1, .int p2]) (rest := [.int 0, .ref (ad 114)]) ⟨hx, hb, hml, hown, hts⟩ hM (cwV 3 hts gL_text_X4_text rfl rfl rfl (by decide +kernel) ⟨by show f9 + 1 ≤ 100; omega, by show 8 + (4 + 11) + o9 ≤ 4000; omega⟩) (w_preVX hK hP hX hS 0 (by decide) ⟨rfl, rfl⟩ rfl) rfl rfl hl.1 rfl (lv_room (Nat.le_of_ble_eq_true rfl)) dL_text_7 ⟨(Nat.le_of_ble_eq_true rfl), (Nat.le_of_ble_eq_true rfl)⟩) hS (fun ce q9 H locs hP hS hce hcv hcl => ?_)
  refine vx_catch (name := eI) hown [] ⟨0, 12, 15, 13⟩ [] (by rw [hT9]; rfl) (fun z hz => nomatch hz) (by decide) (by decide) (hts (.classLink RL 13 eI) (List.mem_of_getElem? (i := 1) rfl)) (va_Nw.use rfl hX.2.2.1.2.2.2.1) hce hcv hcl ?_
  refine lv_astore (lv' := [(5, .ref q9), (0, .ref (ad 0)), (1, .int p0), (2, .int p1), (3, .int p2), (4, .ref (ad 114))]) hx hb dL_text_15 hl (by decide) rfl (fun ls hl => ?_)
  refine lv_iconst (v := 1) hx hb dL_text_17 (by decide) ?_
  refine W.widen (k := 1) (n := 6) (by decide) (by decide) ?_
  exact w_iret hx hb hr hlocks hK hP hS ⟨rfl, rfl, rfl, rfl⟩ dL_text_18
