theorem inJ5_init_d00df_J4 : ∀ w ∈ wsJ40, w ∈ wsJ5_init_d00df := by decide +kernel
set_option maxHeartbeats 4000000 in
set_option maxRecDepth 100000 in
/-- J5_init_d00df: what it makes -/
theorem c_J5_new (l : Launch) (D : va_G) (cA : Nat → ClassId) (a0 : Nat) : Met l yJ5_init_d00df wsJ5_init_d00df ({ frames := 1, cells := 1, slots := 16, locals := 12 }) (va_Pc [.ref (a0 + 48), .int (16)] (fun U => U.heap.size = a0 + 49 ∧ va_P D vwCl [(a0 + 48, .inr (1, [.null, .int 0, .int 0, .int 0]))] U.heap ∧ WK D cA U ∧ va_Z RJ0 "COMPACT_STRINGS" "Z" (.int 1) (nA (a0 + 48) (a0 + 49)) U U.heap)) (va_Qv (fun _ : Unit => True) (fun _ t => t.heap.size = a0 + 50 ∧ ∀ k ∈ ([100, 101] : List Nat), EP D cA a0 k t.heap) (nA (a0 + 48) (a0 + 49))) 1 16 (nA (a0 + 48) (a0 + 49)) := by
  refine Met.ofW (cc := cJ5_init_d00df) (maxL := 2) (ret := none) (by decide) rfl ?_
  intro p e s m args below meth c s₁ B hml hv
  obtain ⟨rfl, hz, hP, hK, hZ⟩ := hv
  have hx := B.exec
  have hb := B.bytes
  have hr := B.returns
  have hts := atoms_spec (ws := wsJ5_init_d00df) B.pre
  have hown : s.vm.findClass RJ5 = some m.cls := findClass_of_methodNamed B.named
  have hlocks := B.notSynchronized
  have hin2 : meth.name = "<init>" := (name_of_methodNamed B.named B.method).1
  generalize hAe : nA (a0 + 48) (a0 + 49) = A at hZ ⊢
  have hA : ∀ q, s.heap.size ≤ q → A q := fun q h => by rw [← hAe]; exact Or.inr (by omega)
  have hS : va_S A s.heap s.heap [] := va_S.rf
  have hD : va_D A [(a0 + 48, .inr (1, [.null, .int 0, .int 0, .int 0]))] := nD1 (by rw [← hAe]; exact Or.inl rfl)
  have hl := lv_entry ([.ref (a0 + 48), .int (16)]) (n := 2) (Nat.le_of_ble_eq_true rfl)
  rw [lg_entry_eq]
  generalize (lg_sl ([.ref (a0 + 48), .int (16)]) ++ List.replicate (2 - (lg_sl ([.ref (a0 + 48), .int (16)])).length) Slot.unset).toArray = ls at hl ⊢
  have hl : lv_has ls 2 [(0, .ref (a0 + 48)), (1, .int (16))] := hl
  refine lv_aload_n hx hb dJ5_init_d00df_0 rfl (lv_at hl 0 rfl) ?_
  refine W.objInit hx hb hown (hts (.methodLink RJ5 3 objectInit) (List.mem_of_getElem? (i := 1) rfl)) (hts (.instanceMethod objectInit) (List.mem_of_getElem? (i := 2) rfl)) (hts (.code objectInit ⟨#[0xb1]⟩ 1 none) (List.mem_of_getElem? (i := 3) rfl)) rfl (by rw [hml]; exact hl.1) rfl dJ5_init_d00df_1 (Nat.le_of_ble_eq_true rfl) (Nat.le_of_ble_eq_true rfl) ?_
  refine W.eq (g2 := F0 m 4 ls []) rfl ?_
  refine va_gets hx hb hZ hS hown (hts (.fieldLink RJ5 18 "java/lang/String" "COMPACT_STRINGS" "Z") (List.mem_of_getElem? (i := 4) rfl)) (fun _ h9 => h9) dJ5_init_d00df_4 ?_
  refine lv_if_eq (tgt := 25) hx hb dJ5_init_d00df_7 (by decide) (fun c9 => absurd c9 (by decide)) (fun _ => ?_)
  refine lv_aload_n hx hb dJ5_init_d00df_10 rfl (lv_at hl 0 rfl) ?_
  refine lv_iload_n hx hb dJ5_init_d00df_11 rfl (lv_at hl 1 rfl) ?_
  refine n_newa hx hb (atype := .byte) (ty := .byte) (cy := cA 3) (hts (.arrayClass .byte) (List.mem_of_getElem? (i := 5) rfl)) rfl hK 3 rfl (fun z => z) hP hD hS hA (h := a0 + 49) hz (N' := 16) (a0 := (16, .inl (fun _ => 0))) rfl (by decide) rfl (by decide) (Nat.le_of_ble_eq_true rfl) (Nat.le_of_ble_eq_true rfl) dJ5_init_d00df_12 (fun H hz hP hD hS => ?_)
  have hP : va_P D vwCl [(a0 + 48, .inr (1, [.null, .int 0, .int 0, .int 0])), (a0 + 49, .inl (cA 3, 16, .inl (fun _ => 0)))] H := hP
  have hD : va_D A [(a0 + 48, .inr (1, [.null, .int 0, .int 0, .int 0])), (a0 + 49, .inl (cA 3, 16, .inl (fun _ => 0)))] := hD
  refine n_put (ci := 1) (C := RJ4) (T := TJ4) (N := 4) (v := .ref (a0 + 49)) hx hb hts inJ5_init_d00df_J4 tyJ4 tyJ4_ok nmJ4 hown hK hP hD hS (h := a0 + 50) hz rfl rfl 0 (by decide) (hts (.fieldLink RJ5 15 "java/lang/AbstractStringBuilder" "value" "[B") (List.mem_of_getElem? (i := 6) rfl)) (fun _ h9 => h9) (Or.inl rfl) (tyJ4_ok 0 (by decide)) rfl rfl (Nat.le_of_ble_eq_true rfl) dJ5_init_d00df_14 (fun H locs hz hP hD hS => ?_)
  have hP : va_P D vwCl [(a0 + 48, .inr (1, [.ref (a0 + 49), .int 0, .int 0, .int 0])), (a0 + 49, .inl (cA 3, 16, .inl (fun _ => 0)))] H := hP
  have hD : va_D A [(a0 + 48, .inr (1, [.ref (a0 + 49), .int 0, .int 0, .int 0])), (a0 + 49, .inl (cA 3, 16, .inl (fun _ => 0)))] := hD
  refine lv_aload_n hx hb dJ5_init_d00df_17 rfl (lv_at hl 0 rfl) ?_
  refine lv_iconst (v := 0) hx hb dJ5_init_d00df_18 (by decide) ?_
  refine n_put (ci := 1) (C := RJ4) (T := TJ4) (N := 4) (v := .int (0)) hx hb hts inJ5_init_d00df_J4 tyJ4 tyJ4_ok nmJ4 hown hK hP hD hS (h := a0 + 50) hz rfl rfl 1 (by decide) (hts (.fieldLink RJ5 22 "java/lang/AbstractStringBuilder" "coder" "B") (List.mem_of_getElem? (i := 7) rfl)) (fun _ h9 => h9) (Or.inl rfl) (tyJ4_ok 1 (by decide)) rfl rfl (Nat.le_of_ble_eq_true rfl) dJ5_init_d00df_19 (fun H locs hz hP hD hS => ?_)
  have hP : va_P D vwCl [(a0 + 48, .inr (1, [.ref (a0 + 49), .int (0), .int 0, .int 0])), (a0 + 49, .inl (cA 3, 16, .inl (fun _ => 0)))] H := hP
  have hD : va_D A [(a0 + 48, .inr (1, [.ref (a0 + 49), .int (0), .int 0, .int 0])), (a0 + 49, .inl (cA 3, 16, .inl (fun _ => 0)))] := hD
  refine lv_goto (tgt := 38) hx hb dJ5_init_d00df_22 (by decide) ?_
  have hE : ∀ k ∈ ([100, 101] : List Nat), EP D cA a0 k H := (List.forall_mem_cons.mpr ⟨(show va_at D vwCl (e0 cA a0 100) H from hP 0 _ rfl),
      (List.forall_mem_cons.mpr ⟨(show va_at D vwCl (e0 cA a0 101) H from hP 1 _ rfl),
      (fun _ h9 => absurd h9 List.not_mem_nil)⟩)⟩)
  exact W.vret hx hb hr (fun t ht hW => ⟨⟨(), rfl, trivial, by rw [ht]; exact hz, by rw [ht]; exact hE⟩, hS.F ht⟩) hS.2.2 dJ5_init_d00df_38 hlocks

set_option maxHeartbeats 4000000 in
set_option maxRecDepth 100000 in
theorem c_J4_new (l : Launch) (D : va_G) (cA : Nat → ClassId) (a0 : Nat) : Met l yJ4_init_da8c8 wsJ4_init_da8c8 ({ frames := 2, cells := 1, slots := 16, locals := 40 }) (va_Pc [.ref (a0 + 48)] (fun U => U.heap.size = a0 + 49 ∧ va_P D vwCl [(a0 + 48, .inr (1, [.null, .int 0, .int 0, .int 0]))] U.heap ∧ WK D cA U ∧ va_Z RJ0 "COMPACT_STRINGS" "Z" (.int 1) (nA (a0 + 48) (a0 + 49)) U U.heap)) (va_Qv (fun _ : Unit => True) (fun _ t => t.heap.size = a0 + 50 ∧ ∀ k ∈ ([100, 101] : List Nat), EP D cA a0 k t.heap) (nA (a0 + 48) (a0 + 49))) 1 16 (nA (a0 + 48) (a0 + 49)) := by
  refine Met.ofW (cc := cJ4_init_da8c8) (maxL := 1) (ret := none) (by decide) rfl ?_
  intro p e s m args below meth c s₁ B hml hv
  obtain ⟨rfl, hz, hPc, hK, hZ⟩ := hv
  have hx := B.exec
  have hb := B.bytes
  have hr := B.returns
  have hts := atoms_spec (ws := wsJ4_init_da8c8) B.pre
  have hown : s.vm.findClass RJ4 = some m.cls := findClass_of_methodNamed B.named
  have hlocks := B.notSynchronized
  have hS : va_S (nA (a0 + 48) (a0 + 49)) s.heap s.heap [] := va_S.rf
  have hl := lv_entry ([.ref (a0 + 48)]) (n := 1) (Nat.le_of_ble_eq_true rfl)
  rw [lg_entry_eq]
  generalize (lg_sl ([.ref (a0 + 48)]) ++ List.replicate (1 - (lg_sl ([.ref (a0 + 48)])).length) Slot.unset).toArray = ls at hl ⊢
  have hl : lv_has ls 1 [(0, .ref (a0 + 48))] := hl
  refine lv_aload_n hx hb dJ4_init_da8c8_0 rfl (lv_at hl 0 rfl) ?_
  refine lv_bipush (v := 16) hx hb dJ4_init_da8c8_1 (by decide) ?_
  refine va_callv (va_runI (As := [.int (16)]) (rest := []) ⟨hx, hb, hml, hown, hts⟩ (c_J5_new l D cA a0) (cwI 1 hts gJ4_init_da8c8_J5_init_d00df rfl rfl rfl (hts (.initialized RJ5) (List.mem_of_getElem? (i := 3) rfl)) (hts (.methodLink RJ4 1 yJ5_init_d00df) (List.mem_of_getElem? (i := 1) rfl)) (hts (.instanceMethod yJ5_init_d00df) (List.mem_of_getElem? (i := 2) rfl)) rfl (by decide +kernel) ⟨(Nat.le_of_ble_eq_true rfl), (Nat.le_of_ble_eq_true rfl)⟩) ⟨fun a U g mk q => by obtain ⟨q0, q1, q2, q3, q4⟩ := q; exact ⟨q0, q1, q2, va_K.moved (u := U) (U := U.calling g mk a) (Vm.Alike.refl U.vm) q3, q4.moved (U := U.calling g mk a) (Vm.Alike.refl U.vm)⟩, fun U hU hW => ⟨rfl, by rw [hU]; exact hz, by rw [hU]; exact hPc, va_K.moved hW.alike hK, by rw [hU]; exact va_Z.moved hW.alike hZ⟩⟩ rfl rfl hl.1 rfl (lv_room (Nat.le_of_ble_eq_true rfl)) dJ4_init_da8c8_3 ⟨(Nat.le_of_ble_eq_true rfl), (Nat.le_of_ble_eq_true rfl)⟩) hS (fun q _ h => h) (fun q h => h) (fun u t H1 locs ht hvm _ hB hz1 hk1 hS => ?_)
  exact W.vret hx hb hr (fun t' ht' hW => ⟨⟨(), rfl, trivial, by rw [ht', ← ht]; exact hB.1, by rw [ht', ← ht]; exact hB.2⟩, hS.F ht'⟩) hS.2.2 dJ4_init_da8c8_6 hlocks
