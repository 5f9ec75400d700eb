/-! the class made -/
theorem walks_f (a0 : Nat) : va_up (va_up (va_up (va_up (fun _ : Nat => (none : Option Nat)) 0 (some (a0 + 50))) 1 (some (a0 + 63))) 2 (some (a0 + 76))) 3 (some (a0 + 89)) = fun i => if i < 4 then some (adF a0 (31 + i)) else none := by
  funext i
  unfold va_up
  by_cases h : i < 4
  · have : i = 0 ∨ i = 1 ∨ i = 2 ∨ i = 3 := by omega
    rcases this with r | r | r | r <;> subst r <;> rfl
  · rw [if_neg (by omega), if_neg (by omega), if_neg (by omega), if_neg (by omega), if_neg h]
theorem wFin {D : va_G} {cA : Nat → ClassId} {a0 : Nat} {e f : va_E} {L : List Nat} {H : Heap} (hP : va_P D vwCl (numW a0 ((0, e) :: (30, f) :: mdW cA a0 L)) H) (he : e = ent cA (adF a0) I0 J0 X0 0) (hf : f = ent cA (adF a0) I0 J0 X0 30) (hL : ∀ k, k < 102 → k = 0 ∨ k = 30 ∨ k ∈ L) : WP 102 D cA (adF a0) I0 J0 X0 H := by
  intro k x hx
  have hk : k < 102 := by
    have := (List.getElem?_eq_some_iff.mp hx).1
    unfold wld at this
    rw [List.length_map, List.length_range] at this
    exact this
  rw [wld_at hk] at hx
  cases hx
  rcases hL k hk with r | r | r
  · subst r; rw [← he]; exact hP 0 _ rfl
  · subst r; rw [← hf]; exact hP 1 _ rfl
  · obtain ⟨i, hi⟩ := List.getElem?_of_mem r
    refine hP (i + 2) (adF a0 k, ent cA (adF a0) I0 J0 X0 k) ?_
    unfold numW mdW
    rw [List.map_cons, List.map_cons, List.getElem?_cons_succ, List.getElem?_cons_succ, List.getElem?_map, List.getElem?_map, hi]
    rfl
theorem adF_inj (a0 n : Nat) (hn : n ≤ 116) : inj n (adF a0) := by
  intro i j hi hj h
  exact ofs_inj i (by omega) j (by omega) (by unfold adF at h; omega)

theorem inX4_init_X0 : ∀ w ∈ wsX00, w ∈ wsX4_init := by decide +kernel
theorem inX4_init_X1 : ∀ w ∈ wsX10, w ∈ wsX4_init := by decide +kernel
theorem inX4_init_X2 : ∀ w ∈ wsX20, w ∈ wsX4_init := by decide +kernel
theorem inX4_init_X3 : ∀ w ∈ wsX30, w ∈ wsX4_init := by decide +kernel
theorem inX4_init_X4 : ∀ w ∈ wsX40, w ∈ wsX4_init := by decide +kernel
theorem inX4_init_J4 : ∀ w ∈ wsJ40, w ∈ wsX4_init := by decide +kernel
/-- the links to makers that only the nest may call -/
def NL3 (U : State) : Prop := va_Nw (.methodLinkNest RX4 11 yX1_init RX4) U ∧ va_Nw (.methodLinkNest RX4 24 yX2_init RX4) U ∧ va_Nw (.methodLinkNest RX4 31 yX0_init RX4) U
theorem frA (a0 : Nat) {n sz q : Nat} (h : fr n (adF a0) sz q) (hs : a0 ≤ sz) : a0 ≤ q := by
  rcases h with ⟨k, hk, e⟩ | h
  · first | (rw [e]; unfold adF; omega) | (rw [← e]; unfold adF; omega)
  · exact Nat.le_trans hs h

def mk0 : List Nat := []
def mk1 : List Nat := mk0 ++ [1, 2, 3, 4, 5, 6, 7, 8, 9, 10, 11, 12, 13, 14, 15, 16, 17, 18, 19, 20, 21, 22, 23, 24, 25, 26, 27, 28, 29]
def mk2 : List Nat := mk1 ++ [83, 84, 85, 86]
def mk3 : List Nat := mk2 ++ [87, 88, 89, 90, 91, 92, 93, 94, 95, 96, 97, 98, 99]
def mk4 : List Nat := mk3 ++ [100, 101]
def mk5 : List Nat := mk4 ++ [31, 35, 39, 43, 47, 48, 49, 50, 51, 52, 53, 54, 55]
def mk6 : List Nat := mk5 ++ [32, 36, 40, 44, 56, 57, 58, 59, 60, 61, 62, 63, 64]
def mk7 : List Nat := mk6 ++ [33, 37, 41, 45, 65, 66, 67, 68, 69, 70, 71, 72, 73]
def mk8 : List Nat := mk7 ++ [34, 38, 42, 46, 74, 75, 76, 77, 78, 79, 80, 81, 82]
set_option maxHeartbeats 8000000 in
set_option maxRecDepth 100000 in
theorem c_X4_new (l : Launch) (D : va_G) (cA : Nat → ClassId) (a0 : Nat) (cn : Nat → Nat) (nb : Nat → Nat → Nat) (Is : Nat → SI) (Js : Nat → SJ) (h0 : I0 = Is 0) (j0 : J0 = Js 0) (hM : BeginOK cn nb Is Js) : Met l yX4_init wsX4_init ({ frames := 5, cells := 101, slots := 884, locals := 129 }) (va_Pc [.ref a0] (fun U => U.heap.size = a0 + 1 ∧ va_P D vwCl [(a0, .inr (8, [.null, .null, .null, .null, .null, .int 0, .int 0]))] U.heap ∧ WK D cA U ∧ AO3 U ∧ va_AO RX3 U ∧ NL3 U ∧ va_Z RJ0 "COMPACT_STRINGS" "Z" (.int 1) (nA a0 (a0 + 1)) U U.heap)) (va_Qv (fun _ : Unit => True) (fun _ t => a0 + 102 ≤ t.heap.size ∧ WP 102 D cA (adF a0) (Is 4) (Js 4) X0 t.heap) (nA a0 (a0 + 1))) 101 884 (nA a0 (a0 + 1)) := by
  refine Met.ofW (cc := cX4_init) (maxL := 2) (ret := none) (by decide) rfl ?_
  intro p e s m args below meth c s₁ B hml hv
  obtain ⟨rfl, hz, hP, hK, hAO, hAQ, hNL, hZ⟩ := hv
  have hx := B.exec
  have hb := B.bytes
  have hr := B.returns
  have hts := atoms_spec (ws := wsX4_init) B.pre
  have hown : s.vm.findClass RX4 = some m.cls := findClass_of_methodNamed B.named
  have hlocks := B.notSynchronized
  have hin2 : meth.name = "<init>" := (name_of_methodNamed B.named B.method).1
  generalize hAe : nA a0 (a0 + 1) = A at hZ ⊢
  have hA0 : ∀ q, a0 ≤ q → A q := fun q h => by rw [← hAe]; rcases Nat.lt_or_ge a0 q with z | z; exact Or.inr z; exact Or.inl (Nat.le_antisymm z h)
  have hA : ∀ q, s.heap.size ≤ q → A q := fun q h => hA0 q (by omega)
  have hZk : ∀ (H : Heap) (locs : List Loc), va_S A s.heap H locs → va_Z RJ0 "COMPACT_STRINGS" "Z" (.int 1) (nA (a0 + 48) (a0 + 49)) s H := fun H locs hS => (va_Z.kept hZ hS.2.1).narrow (fun q h => hA0 q (by rcases h with h | h <;> omega))
  have hS : va_S A s.heap s.heap [] := va_S.rf
  have hl := lv_entry ([.ref (a0)]) (n := 2) (Nat.le_of_ble_eq_true rfl)
  rw [lg_entry_eq]
  generalize (lg_sl ([.ref (a0)]) ++ List.replicate (2 - (lg_sl ([.ref (a0)])).length) Slot.unset).toArray = ls at hl ⊢
  have hl : lv_has ls 2 [(0, .ref (a0))] := hl
  have hP : va_P D vwCl (numW a0 ((0, .inr (8, [.null, .null, .null, .null, .null, .int 0, .int 0])) :: mdW cA a0 mk0)) s.heap := hP
  have hD : va_D A (numW a0 ((0, .inr (8, [.null, .null, .null, .null, .null, .int 0, .int 0])) :: mdW cA a0 mk0)) := wD1 hA0 (by decide +kernel)
  refine lv_aload_n hx hb dX4_init_0 rfl (lv_at hl 0 rfl) ?_
  refine W.objInit hx hb hown (hts (.methodLink RX4 3 objectInit) (List.mem_of_getElem? (i := 1) rfl)) (hts (.instanceMethod objectInit) (List.mem_of_getElem? (i := 2) rfl)) (hts (.code objectInit ⟨#[0xb1]⟩ 1 none) (List.mem_of_getElem? (i := 3) rfl)) rfl (by rw [hml]; exact hl.1) rfl dX4_init_1 (Nat.le_of_ble_eq_true rfl) (Nat.le_of_ble_eq_true rfl) ?_
  refine W.eq (g2 := F0 m 4 ls []) rfl ?_
  refine lv_aload_n hx hb dX4_init_4 rfl (lv_at hl 0 rfl) ?_
  refine n_new (C := RX1) (T := TX1) (N := 6) (ci := 5) (fs := [.null, .null, .null, .null, .null, .null]) hx hb hts inX4_init_X1 tyX1 tyX1_ok hown (hts (.classLink RX4 9 RX1) (List.mem_of_getElem? (i := 4) rfl)) (hts (.instantiable RX1 6) (List.mem_of_getElem? (i := 5) rfl)) (hts (.initialized RX1) (List.mem_of_getElem? (i := 6) rfl)) hK hP hD hS hA (h := a0 + 1) hz rfl (fun j hj => by have h9 : j = 0 ∨ j = 1 ∨ j = 2 ∨ j = 3 ∨ j = 4 ∨ j = 5 := (by omega); rcases h9 with h9 | h9 | h9 | h9 | h9 | h9 <;> (subst h9; rfl)) (Nat.le_of_ble_eq_true rfl) (Nat.le_of_ble_eq_true rfl) dX4_init_5 (fun H hz1 hP1 hD1 hS1 => ?_)
  replace hz := hz1; replace hP := hP1; replace hD := hD1; replace hS := hS1; clear hz1 hP1 hD1 hS1
  obtain ⟨hP0, hPc⟩ := numW_last hP
  replace hz : H.size = a0 + 2 := hz
  refine lv_dup hx hb dX4_init_8 rfl ?_
  refine va_callv (va_runIN (As := []) (rest := [.ref (a0 + 1), .ref (a0)]) ⟨hx, hb, hml, hown, hts⟩ (c_X1_new l D cA a0) ⟨va_cnB 0 hts gX4_init_X1_init_n11 rfl rfl rfl hNL.1 (hts (.initialized RX1) (List.mem_of_getElem? (i := 6) rfl)) ⟨by decide +kernel, by decide +kernel, by decide +kernel⟩ ⟨(Nat.le_of_ble_eq_true rfl), (Nat.le_of_ble_eq_true rfl)⟩, rfl, (hts (.instanceMethod yX1_init) (List.mem_of_getElem? (i := 26) rfl))⟩ ⟨fun a U g mk q => by obtain ⟨q0, q1, q2, q3, q4⟩ := q; exact ⟨q0, q1, q2, va_K.moved (u := U) (U := U.calling g mk a) (Vm.Alike.refl U.vm) q3, q4.moved (U := U.calling g mk a) (Vm.Alike.refl U.vm)⟩, fun U hU hW => ⟨rfl, by rw [hU]; exact hz, by rw [hU]; exact hPc, va_K.moved hW.alike hK, hAO.moved hW.alike⟩⟩ rfl rfl hl.1 rfl (lv_room (Nat.le_of_ble_eq_true rfl)) dX4_init_9 ⟨(Nat.le_of_ble_eq_true rfl), (Nat.le_of_ble_eq_true rfl)⟩) hS (fun q _ h => hA0 q (by rcases h with h | h <;> omega)) (fun q h => hA0 q (by rcases h with h | h <;> omega)) (fun u t H locs ht hvm hu hB hz1 hk1 hS1 => ?_)
  replace hS := hS1; clear hS1 hvm hu hz1
  replace hP := wC1 (b := 1) hP0 (by decide +kernel) hk1 hz (by rw [← ht]; exact hB.2)
  replace hz : H.size = a0 + 30 := by rw [← ht]; exact hB.1
  replace hP : va_P D vwCl (numW a0 ((0, .inr (8, [.null, .null, .null, .null, .null, .int 0, .int 0])) :: mdW cA a0 mk1)) H := hP
  replace hD : va_D A (numW a0 ((0, .inr (8, [.null, .null, .null, .null, .null, .int 0, .int 0])) :: mdW cA a0 mk1)) := wD1 hA0 (by decide +kernel)
  clear hB hk1 ht hP0 hPc
  refine n_put (ci := 8) (C := RX4) (T := TX4) (N := 7) (v := .ref (a0 + 1)) hx hb hts inX4_init_X4 tyX4 tyX4_ok nmX4 hown hK hP hD hS (h := a0 + 30) hz rfl rfl 0 (by decide) (hts (.fieldLink RX4 12 "Shelfwalk" "net" "LShelfwalk$Net;") (List.mem_of_getElem? (i := 7) rfl)) (fun _ h9 => h9) (Or.inr ⟨rfl, hin2, rfl⟩) (tyX4_ok 0 (by decide)) rfl rfl (Nat.le_of_ble_eq_true rfl) dX4_init_12 (fun H locs hz1 hP1 hD1 hS1 => ?_)
  replace hz := hz1; replace hP := hP1; replace hD := hD1; replace hS := hS1; clear hz1 hP1 hD1 hS1
  replace hP := numW_set (y := (0, .inr (8, [.ref (a0 + 1), .null, .null, .null, .null, .int 0, .int 0]))) (q := a0) rfl hP
  replace hP : va_P D vwCl (numW a0 ((0, .inr (8, [.ref (a0 + 1), .null, .null, .null, .null, .int 0, .int 0])) :: mdW cA a0 mk1)) H := hP
  replace hD : va_D A (numW a0 ((0, .inr (8, [.ref (a0 + 1), .null, .null, .null, .null, .int 0, .int 0])) :: mdW cA a0 mk1)) := wD1 hA0 (by decide +kernel)
  refine lv_aload_n hx hb dX4_init_15 rfl (lv_at hl 0 rfl) ?_
  refine lv_iconst (v := 4) hx hb dX4_init_16 (by decide) ?_
  refine n_newq hx hb hown (hts (.classLink RX4 16 RX3) (List.mem_of_getElem? (i := 8) rfl)) hAQ hK hP hD hS hA (h := a0 + 30) hz (N' := 4) (by decide) rfl (by decide) (Nat.le_of_ble_eq_true rfl) (Nat.le_of_ble_eq_true rfl) dX4_init_17 (fun H hz1 hP1 hD1 hS1 => ?_)
  replace hz := hz1; replace hP := hP1; replace hD := hD1; replace hS := hS1; clear hz1 hP1 hD1 hS1
  replace hP := numW_mv (y := (30, .inl (cA 7, 4, .inr (.inr (.inr (.inr (fun _ => none))))))) (q := a0 + 30) rfl hP
  replace hP : va_P D vwCl (numW a0 ((0, .inr (8, [.ref (a0 + 1), .null, .null, .null, .null, .int 0, .int 0])) :: (30, .inl (cA 7, 4, .inr (.inr (.inr (.inr (fun _ => none)))))) :: mdW cA a0 mk1)) H := hP
  replace hD : va_D A (numW a0 ((0, .inr (8, [.ref (a0 + 1), .null, .null, .null, .null, .int 0, .int 0])) :: (30, .inl (cA 7, 4, .inr (.inr (.inr (.inr (fun _ => none)))))) :: mdW cA a0 mk1)) := wD2 hA0 (by decide +kernel)
  refine n_put (ci := 8) (C := RX4) (T := TX4) (N := 7) (v := .ref (a0 + 30)) hx hb hts inX4_init_X4 tyX4 tyX4_ok nmX4 hown hK hP hD hS (h := a0 + 31) hz rfl rfl 1 (by decide) (hts (.fieldLink RX4 18 "Shelfwalk" "walks" "[LShelfwalk$Walk;") (List.mem_of_getElem? (i := 9) rfl)) (fun _ h9 => h9) (Or.inr ⟨rfl, hin2, rfl⟩) (tyX4_ok 1 (by decide)) rfl rfl (Nat.le_of_ble_eq_true rfl) dX4_init_20 (fun H locs hz1 hP1 hD1 hS1 => ?_)
  replace hz := hz1; replace hP := hP1; replace hD := hD1; replace hS := hS1; clear hz1 hP1 hD1 hS1
  replace hP := numW_set (y := (0, .inr (8, [.ref (a0 + 1), .ref (a0 + 30), .null, .null, .null, .int 0, .int 0]))) (q := a0) rfl hP
  replace hP : va_P D vwCl (numW a0 ((0, .inr (8, [.ref (a0 + 1), .ref (a0 + 30), .null, .null, .null, .int 0, .int 0])) :: (30, .inl (cA 7, 4, .inr (.inr (.inr (.inr (fun _ => none)))))) :: mdW cA a0 mk1)) H := hP
  replace hD : va_D A (numW a0 ((0, .inr (8, [.ref (a0 + 1), .ref (a0 + 30), .null, .null, .null, .int 0, .int 0])) :: (30, .inl (cA 7, 4, .inr (.inr (.inr (.inr (fun _ => none)))))) :: mdW cA a0 mk1)) := wD2 hA0 (by decide +kernel)
  refine lv_aload_n hx hb dX4_init_23 rfl (lv_at hl 0 rfl) ?_
  refine n_new (C := RX2) (T := TX2) (N := 4) (ci := 6) (fs := [.null, .null, .null, .int 0]) hx hb hts inX4_init_X2 tyX2 tyX2_ok hown (hts (.classLink RX4 22 RX2) (List.mem_of_getElem? (i := 10) rfl)) (hts (.instantiable RX2 4) (List.mem_of_getElem? (i := 11) rfl)) (hts (.initialized RX2) (List.mem_of_getElem? (i := 12) rfl)) hK hP hD hS hA (h := a0 + 31) hz rfl (fun j hj => by have h9 : j = 0 ∨ j = 1 ∨ j = 2 ∨ j = 3 := (by omega); rcases h9 with h9 | h9 | h9 | h9 <;> (subst h9; rfl)) (Nat.le_of_ble_eq_true rfl) (Nat.le_of_ble_eq_true rfl) dX4_init_24 (fun H hz1 hP1 hD1 hS1 => ?_)
  replace hz := hz1; replace hP := hP1; replace hD := hD1; replace hS := hS1; clear hz1 hP1 hD1 hS1
  obtain ⟨hP0, hPc⟩ := numW_last hP
  replace hz : H.size = a0 + 32 := hz
  refine lv_dup hx hb dX4_init_27 rfl ?_
  refine va_callv (va_runIN (As := []) (rest := [.ref (a0 + 31), .ref (a0)]) ⟨hx, hb, hml, hown, hts⟩ (c_X2_new l D cA a0) ⟨va_cnB 0 hts gX4_init_X2_init_n24 rfl rfl rfl hNL.2.1 (hts (.initialized RX2) (List.mem_of_getElem? (i := 12) rfl)) ⟨by decide +kernel, by decide +kernel, by decide +kernel⟩ ⟨(Nat.le_of_ble_eq_true rfl), (Nat.le_of_ble_eq_true rfl)⟩, rfl, (hts (.instanceMethod yX2_init) (List.mem_of_getElem? (i := 37) rfl))⟩ ⟨fun a U g mk q => by obtain ⟨q0, q1, q2, q3, q4⟩ := q; exact ⟨q0, q1, q2, va_K.moved (u := U) (U := U.calling g mk a) (Vm.Alike.refl U.vm) q3, q4.moved (U := U.calling g mk a) (Vm.Alike.refl U.vm)⟩, fun U hU hW => ⟨rfl, by rw [hU]; exact hz, by rw [hU]; exact hPc, va_K.moved hW.alike hK, hAO.moved hW.alike⟩⟩ rfl rfl hl.1 rfl (lv_room (Nat.le_of_ble_eq_true rfl)) dX4_init_28 ⟨(Nat.le_of_ble_eq_true rfl), (Nat.le_of_ble_eq_true rfl)⟩) hS (fun q _ h => hA0 q (by rcases h with h | h <;> omega)) (fun q h => hA0 q (by rcases h with h | h <;> omega)) (fun u t H locs ht hvm hu hB hz1 hk1 hS1 => ?_)
  replace hS := hS1; clear hS1 hvm hu hz1
  replace hP := wC2 (b := 31) hP0 (by decide +kernel) hk1 hz (by rw [← ht]; exact hB.2)
  replace hz : H.size = a0 + 35 := by rw [← ht]; exact hB.1
  replace hP : va_P D vwCl (numW a0 ((0, .inr (8, [.ref (a0 + 1), .ref (a0 + 30), .null, .null, .null, .int 0, .int 0])) :: (30, .inl (cA 7, 4, .inr (.inr (.inr (.inr (fun _ => none)))))) :: mdW cA a0 mk2)) H := hP
  replace hD : va_D A (numW a0 ((0, .inr (8, [.ref (a0 + 1), .ref (a0 + 30), .null, .null, .null, .int 0, .int 0])) :: (30, .inl (cA 7, 4, .inr (.inr (.inr (.inr (fun _ => none)))))) :: mdW cA a0 mk2)) := wD2 hA0 (by decide +kernel)
  clear hB hk1 ht hP0 hPc
  refine n_put (ci := 8) (C := RX4) (T := TX4) (N := 7) (v := .ref (a0 + 31)) hx hb hts inX4_init_X4 tyX4 tyX4_ok nmX4 hown hK hP hD hS (h := a0 + 35) hz rfl rfl 2 (by decide) (hts (.fieldLink RX4 25 "Shelfwalk" "ranking" "LShelfwalk$Ranking;") (List.mem_of_getElem? (i := 13) rfl)) (fun _ h9 => h9) (Or.inr ⟨rfl, hin2, rfl⟩) (tyX4_ok 2 (by decide)) rfl rfl (Nat.le_of_ble_eq_true rfl) dX4_init_31 (fun H locs hz1 hP1 hD1 hS1 => ?_)
  replace hz := hz1; replace hP := hP1; replace hD := hD1; replace hS := hS1; clear hz1 hP1 hD1 hS1
  replace hP := numW_set (y := (0, .inr (8, [.ref (a0 + 1), .ref (a0 + 30), .ref (a0 + 31), .null, .null, .int 0, .int 0]))) (q := a0) rfl hP
  replace hP : va_P D vwCl (numW a0 ((0, .inr (8, [.ref (a0 + 1), .ref (a0 + 30), .ref (a0 + 31), .null, .null, .int 0, .int 0])) :: (30, .inl (cA 7, 4, .inr (.inr (.inr (.inr (fun _ => none)))))) :: mdW cA a0 mk2)) H := hP
  replace hD : va_D A (numW a0 ((0, .inr (8, [.ref (a0 + 1), .ref (a0 + 30), .ref (a0 + 31), .null, .null, .int 0, .int 0])) :: (30, .inl (cA 7, 4, .inr (.inr (.inr (.inr (fun _ => none)))))) :: mdW cA a0 mk2)) := wD2 hA0 (by decide +kernel)
  refine lv_aload_n hx hb dX4_init_34 rfl (lv_at hl 0 rfl) ?_
  refine n_new (C := RX0) (T := TX0) (N := 3) (ci := 4) (fs := [.null, .null, .null]) hx hb hts inX4_init_X0 tyX0 tyX0_ok hown (hts (.classLink RX4 29 RX0) (List.mem_of_getElem? (i := 14) rfl)) (hts (.instantiable RX0 3) (List.mem_of_getElem? (i := 15) rfl)) (hts (.initialized RX0) (List.mem_of_getElem? (i := 16) rfl)) hK hP hD hS hA (h := a0 + 35) hz rfl (fun j hj => by have h9 : j = 0 ∨ j = 1 ∨ j = 2 := (by omega); rcases h9 with h9 | h9 | h9 <;> (subst h9; rfl)) (Nat.le_of_ble_eq_true rfl) (Nat.le_of_ble_eq_true rfl) dX4_init_35 (fun H hz1 hP1 hD1 hS1 => ?_)
  replace hz := hz1; replace hP := hP1; replace hD := hD1; replace hS := hS1; clear hz1 hP1 hD1 hS1
  obtain ⟨hP0, hPc⟩ := numW_last hP
  replace hz : H.size = a0 + 36 := hz
  refine lv_dup hx hb dX4_init_38 rfl ?_
  refine va_callv (va_runIN (As := []) (rest := [.ref (a0 + 35), .ref (a0)]) ⟨hx, hb, hml, hown, hts⟩ (c_X0_new l D cA a0) ⟨va_cnB 0 hts gX4_init_X0_init_n31 rfl rfl rfl hNL.2.2 (hts (.initialized RX0) (List.mem_of_getElem? (i := 16) rfl)) ⟨by decide +kernel, by decide +kernel, by decide +kernel⟩ ⟨(Nat.le_of_ble_eq_true rfl), (Nat.le_of_ble_eq_true rfl)⟩, rfl, (hts (.instanceMethod yX0_init) (List.mem_of_getElem? (i := 45) rfl))⟩ ⟨fun a U g mk q => by obtain ⟨q0, q1, q2, q3, q4⟩ := q; exact ⟨q0, q1, q2, va_K.moved (u := U) (U := U.calling g mk a) (Vm.Alike.refl U.vm) q3, q4.moved (U := U.calling g mk a) (Vm.Alike.refl U.vm)⟩, fun U hU hW => ⟨rfl, by rw [hU]; exact hz, by rw [hU]; exact hPc, va_K.moved hW.alike hK, hAO.moved hW.alike⟩⟩ rfl rfl hl.1 rfl (lv_room (Nat.le_of_ble_eq_true rfl)) dX4_init_39 ⟨(Nat.le_of_ble_eq_true rfl), (Nat.le_of_ble_eq_true rfl)⟩) hS (fun q _ h => hA0 q (by rcases h with h | h <;> omega)) (fun q h => hA0 q (by rcases h with h | h <;> omega)) (fun u t H locs ht hvm hu hB hz1 hk1 hS1 => ?_)
  replace hS := hS1; clear hS1 hvm hu hz1
  replace hP := wC2 (b := 35) hP0 (by decide +kernel) hk1 hz (by rw [← ht]; exact hB.2)
  replace hz : H.size = a0 + 48 := by rw [← ht]; exact hB.1
  replace hP : va_P D vwCl (numW a0 ((0, .inr (8, [.ref (a0 + 1), .ref (a0 + 30), .ref (a0 + 31), .null, .null, .int 0, .int 0])) :: (30, .inl (cA 7, 4, .inr (.inr (.inr (.inr (fun _ => none)))))) :: mdW cA a0 mk3)) H := hP
  replace hD : va_D A (numW a0 ((0, .inr (8, [.ref (a0 + 1), .ref (a0 + 30), .ref (a0 + 31), .null, .null, .int 0, .int 0])) :: (30, .inl (cA 7, 4, .inr (.inr (.inr (.inr (fun _ => none)))))) :: mdW cA a0 mk3)) := wD2 hA0 (by decide +kernel)
  clear hB hk1 ht hP0 hPc
  refine n_put (ci := 8) (C := RX4) (T := TX4) (N := 7) (v := .ref (a0 + 35)) hx hb hts inX4_init_X4 tyX4 tyX4_ok nmX4 hown hK hP hD hS (h := a0 + 48) hz rfl rfl 3 (by decide) (hts (.fieldLink RX4 32 "Shelfwalk" "elimination" "LShelfwalk$Elimination;") (List.mem_of_getElem? (i := 17) rfl)) (fun _ h9 => h9) (Or.inr ⟨rfl, hin2, rfl⟩) (tyX4_ok 3 (by decide)) rfl rfl (Nat.le_of_ble_eq_true rfl) dX4_init_42 (fun H locs hz1 hP1 hD1 hS1 => ?_)
  replace hz := hz1; replace hP := hP1; replace hD := hD1; replace hS := hS1; clear hz1 hP1 hD1 hS1
  replace hP := numW_set (y := (0, .inr (8, [.ref (a0 + 1), .ref (a0 + 30), .ref (a0 + 31), .ref (a0 + 35), .null, .int 0, .int 0]))) (q := a0) rfl hP
  replace hP : va_P D vwCl (numW a0 ((0, .inr (8, [.ref (a0 + 1), .ref (a0 + 30), .ref (a0 + 31), .ref (a0 + 35), .null, .int 0, .int 0])) :: (30, .inl (cA 7, 4, .inr (.inr (.inr (.inr (fun _ => none)))))) :: mdW cA a0 mk3)) H := hP
  replace hD : va_D A (numW a0 ((0, .inr (8, [.ref (a0 + 1), .ref (a0 + 30), .ref (a0 + 31), .ref (a0 + 35), .null, .int 0, .int 0])) :: (30, .inl (cA 7, 4, .inr (.inr (.inr (.inr (fun _ => none)))))) :: mdW cA a0 mk3)) := wD2 hA0 (by decide +kernel)
  refine lv_aload_n hx hb dX4_init_45 rfl (lv_at hl 0 rfl) ?_
  refine n_new (C := RJ4) (T := TJ4) (N := 4) (ci := 1) (fs := [.null, .int 0, .int 0, .int 0]) hx hb hts inX4_init_J4 tyJ4 tyJ4_ok hown (hts (.classLink RX4 36 RJ4) (List.mem_of_getElem? (i := 18) rfl)) (hts (.instantiable RJ4 4) (List.mem_of_getElem? (i := 19) rfl)) (hts (.initialized RJ4) (List.mem_of_getElem? (i := 20) rfl)) hK hP hD hS hA (h := a0 + 48) hz rfl (fun j hj => by have h9 : j = 0 ∨ j = 1 ∨ j = 2 ∨ j = 3 := (by omega); rcases h9 with h9 | h9 | h9 | h9 <;> (subst h9; rfl)) (Nat.le_of_ble_eq_true rfl) (Nat.le_of_ble_eq_true rfl) dX4_init_46 (fun H hz1 hP1 hD1 hS1 => ?_)
  replace hz := hz1; replace hP := hP1; replace hD := hD1; replace hS := hS1; clear hz1 hP1 hD1 hS1
  obtain ⟨hP0, hPc⟩ := numW_last hP
  replace hz : H.size = a0 + 49 := hz
  refine lv_dup hx hb dX4_init_49 rfl ?_
  have hZ4 := hZk H locs hS
  refine va_callv (va_runI (As := []) (rest := [.ref (a0 + 48), .ref (a0)]) ⟨hx, hb, hml, hown, hts⟩ (c_J4_new l D cA a0) (cwI 0 hts gX4_init_J4_init_da8c8 rfl rfl rfl (hts (.initialized RJ4) (List.mem_of_getElem? (i := 20) rfl)) (hts (.methodLink RX4 38 yJ4_init_da8c8) (List.mem_of_getElem? (i := 53) rfl)) (hts (.instanceMethod yJ4_init_da8c8) (List.mem_of_getElem? (i := 54) rfl)) rfl (by decide +kernel) ⟨(Nat.le_of_ble_eq_true rfl), (Nat.le_of_ble_eq_true rfl)⟩) ⟨fun a U g mk q => by obtain ⟨q0, q1, q2, q3, q4⟩ := q; exact ⟨q0, q1, q2, va_K.moved (u := U) (U := U.calling g mk a) (Vm.Alike.refl U.vm) q3, q4.moved (U := U.calling g mk a) (Vm.Alike.refl U.vm)⟩, fun U hU hW => ⟨rfl, by rw [hU]; exact hz, by rw [hU]; exact hPc, va_K.moved hW.alike hK, by rw [hU]; exact va_Z.moved hW.alike hZ4⟩⟩ rfl rfl hl.1 rfl (lv_room (Nat.le_of_ble_eq_true rfl)) dX4_init_50 ⟨(Nat.le_of_ble_eq_true rfl), (Nat.le_of_ble_eq_true rfl)⟩) hS (fun q _ h => hA0 q (by rcases h with h | h <;> omega)) (fun q h => hA0 q (by rcases h with h | h <;> omega)) (fun u t H locs ht hvm hu hB hz1 hk1 hS1 => ?_)
  replace hS := hS1; clear hS1 hvm hu hz1
  replace hP := wC2 (b := 48) hP0 (by decide +kernel) hk1 hz (by rw [← ht]; exact hB.2)
  replace hz : H.size = a0 + 50 := by rw [← ht]; exact hB.1
  replace hP : va_P D vwCl (numW a0 ((0, .inr (8, [.ref (a0 + 1), .ref (a0 + 30), .ref (a0 + 31), .ref (a0 + 35), .null, .int 0, .int 0])) :: (30, .inl (cA 7, 4, .inr (.inr (.inr (.inr (fun _ => none)))))) :: mdW cA a0 mk4)) H := hP
  replace hD : va_D A (numW a0 ((0, .inr (8, [.ref (a0 + 1), .ref (a0 + 30), .ref (a0 + 31), .ref (a0 + 35), .null, .int 0, .int 0])) :: (30, .inl (cA 7, 4, .inr (.inr (.inr (.inr (fun _ => none)))))) :: mdW cA a0 mk4)) := wD2 hA0 (by decide +kernel)
  clear hB hk1 ht hP0 hPc
  refine n_put (ci := 8) (C := RX4) (T := TX4) (N := 7) (v := .ref (a0 + 48)) hx hb hts inX4_init_X4 tyX4 tyX4_ok nmX4 hown hK hP hD hS (h := a0 + 50) hz rfl rfl 4 (by decide) (hts (.fieldLink RX4 39 "Shelfwalk" "line" "Ljava/lang/StringBuilder;") (List.mem_of_getElem? (i := 21) rfl)) (fun _ h9 => h9) (Or.inr ⟨rfl, hin2, rfl⟩) (tyX4_ok 4 (by decide)) rfl rfl (Nat.le_of_ble_eq_true rfl) dX4_init_53 (fun H locs hz1 hP1 hD1 hS1 => ?_)
  replace hz := hz1; replace hP := hP1; replace hD := hD1; replace hS := hS1; clear hz1 hP1 hD1 hS1
  replace hP := numW_set (y := (0, .inr (8, [.ref (a0 + 1), .ref (a0 + 30), .ref (a0 + 31), .ref (a0 + 35), .ref (a0 + 48), .int 0, .int 0]))) (q := a0) rfl hP
  replace hP : va_P D vwCl (numW a0 ((0, .inr (8, [.ref (a0 + 1), .ref (a0 + 30), .ref (a0 + 31), .ref (a0 + 35), .ref (a0 + 48), .int 0, .int 0])) :: (30, .inl (cA 7, 4, .inr (.inr (.inr (.inr (fun _ => none)))))) :: mdW cA a0 mk4)) H := hP
  replace hD : va_D A (numW a0 ((0, .inr (8, [.ref (a0 + 1), .ref (a0 + 30), .ref (a0 + 31), .ref (a0 + 35), .ref (a0 + 48), .int 0, .int 0])) :: (30, .inl (cA 7, 4, .inr (.inr (.inr (.inr (fun _ => none)))))) :: mdW cA a0 mk4)) := wD2 hA0 (by decide +kernel)
  refine lv_aload_n hx hb dX4_init_56 rfl (lv_at hl 0 rfl) ?_
  refine lv_bipush (v := 80) hx hb dX4_init_57 (by decide) ?_
  refine n_put (ci := 8) (C := RX4) (T := TX4) (N := 7) (v := .int (80)) hx hb hts inX4_init_X4 tyX4 tyX4_ok nmX4 hown hK hP hD hS (h := a0 + 50) hz rfl rfl 5 (by decide) (hts (.fieldLink RX4 43 "Shelfwalk" "damping" "I") (List.mem_of_getElem? (i := 22) rfl)) (fun _ h9 => h9) (Or.inl rfl) (tyX4_ok 5 (by decide)) rfl rfl (Nat.le_of_ble_eq_true rfl) dX4_init_59 (fun H locs hz1 hP1 hD1 hS1 => ?_)
  replace hz := hz1; replace hP := hP1; replace hD := hD1; replace hS := hS1; clear hz1 hP1 hD1 hS1
  replace hP := numW_set (y := (0, .inr (8, [.ref (a0 + 1), .ref (a0 + 30), .ref (a0 + 31), .ref (a0 + 35), .ref (a0 + 48), .int (80), .int 0]))) (q := a0) rfl hP
  replace hP : va_P D vwCl (numW a0 ((0, .inr (8, [.ref (a0 + 1), .ref (a0 + 30), .ref (a0 + 31), .ref (a0 + 35), .ref (a0 + 48), .int (80), .int 0])) :: (30, .inl (cA 7, 4, .inr (.inr (.inr (.inr (fun _ => none)))))) :: mdW cA a0 mk4)) H := hP
  replace hD : va_D A (numW a0 ((0, .inr (8, [.ref (a0 + 1), .ref (a0 + 30), .ref (a0 + 31), .ref (a0 + 35), .ref (a0 + 48), .int (80), .int 0])) :: (30, .inl (cA 7, 4, .inr (.inr (.inr (.inr (fun _ => none)))))) :: mdW cA a0 mk4)) := wD2 hA0 (by decide +kernel)
  refine lv_aload_n hx hb dX4_init_62 rfl (lv_at hl 0 rfl) ?_
  refine lv_sipush (v := 1000) hx hb dX4_init_63 (by decide) ?_
  refine n_put (ci := 8) (C := RX4) (T := TX4) (N := 7) (v := .int (1000)) hx hb hts inX4_init_X4 tyX4 tyX4_ok nmX4 hown hK hP hD hS (h := a0 + 50) hz rfl rfl 6 (by decide) (hts (.fieldLink RX4 47 "Shelfwalk" "bound" "I") (List.mem_of_getElem? (i := 23) rfl)) (fun _ h9 => h9) (Or.inl rfl) (tyX4_ok 6 (by decide)) rfl rfl (Nat.le_of_ble_eq_true rfl) dX4_init_66 (fun H locs hz1 hP1 hD1 hS1 => ?_)
  replace hz := hz1; replace hP := hP1; replace hD := hD1; replace hS := hS1; clear hz1 hP1 hD1 hS1
  replace hP := numW_set (y := (0, .inr (8, [.ref (a0 + 1), .ref (a0 + 30), .ref (a0 + 31), .ref (a0 + 35), .ref (a0 + 48), .int (80), .int (1000)]))) (q := a0) rfl hP
  replace hP : va_P D vwCl (numW a0 ((0, .inr (8, [.ref (a0 + 1), .ref (a0 + 30), .ref (a0 + 31), .ref (a0 + 35), .ref (a0 + 48), .int (80), .int (1000)])) :: (30, .inl (cA 7, 4, .inr (.inr (.inr (.inr (fun _ => none)))))) :: mdW cA a0 mk4)) H := hP
  replace hD : va_D A (numW a0 ((0, .inr (8, [.ref (a0 + 1), .ref (a0 + 30), .ref (a0 + 31), .ref (a0 + 35), .ref (a0 + 48), .int (80), .int (1000)])) :: (30, .inl (cA 7, 4, .inr (.inr (.inr (.inr (fun _ => none)))))) :: mdW cA a0 mk4)) := wD2 hA0 (by decide +kernel)
  refine lv_iconst (v := 0) hx hb dX4_init_69 (by decide) ?_
  refine lv_istore_n (lv' := [(1, .int (0)), (0, .ref (a0))]) hx hb dX4_init_70 rfl hl (by decide) rfl (fun ls hl => ?_)
  refine lv_iload_n hx hb dX4_init_71 rfl (lv_at hl 0 rfl) ?_
  refine lv_iconst (v := 4) hx hb dX4_init_72 (by decide) ?_
  refine lv_icmp_ge (tgt := 96) hx hb dX4_init_73 (by decide) (fun c9 => absurd c9 (by decide)) (fun _ => ?_)
  refine lv_aload_n hx hb dX4_init_76 rfl (lv_at hl 1 rfl) ?_
  refine va_get (D := D) (ci := 8) (v := .ref (a0 + 30)) (C := RX4) (T := TX4) (N := 7) hx hb hts inX4_init_X4 hown hK hP 0 rfl rfl 1 (by decide) (hts (.fieldLink RX4 18 "Shelfwalk" "walks" "[LShelfwalk$Walk;") (List.mem_of_getElem? (i := 9) rfl)) (fun _ h9 => h9) rfl dX4_init_77 ?_
  refine lv_iload_n hx hb dX4_init_80 rfl (lv_at hl 0 rfl) ?_
  refine n_new (C := RX3) (T := TX3) (N := 5) (ci := 7) (fs := [.int 0, .null, .null, .null, .int 0]) hx hb hts inX4_init_X3 tyX3 tyX3_ok hown (hts (.classLink RX4 16 RX3) (List.mem_of_getElem? (i := 8) rfl)) (hts (.instantiable RX3 5) (List.mem_of_getElem? (i := 24) rfl)) (hts (.initialized RX3) (List.mem_of_getElem? (i := 25) rfl)) hK hP hD hS hA (h := a0 + 50) hz rfl (fun j hj => by have h9 : j = 0 ∨ j = 1 ∨ j = 2 ∨ j = 3 ∨ j = 4 := (by omega); rcases h9 with h9 | h9 | h9 | h9 | h9 <;> (subst h9; rfl)) (Nat.le_of_ble_eq_true rfl) (Nat.le_of_ble_eq_true rfl) dX4_init_81 (fun H hz1 hP1 hD1 hS1 => ?_)
  replace hz := hz1; replace hP := hP1; replace hD := hD1; replace hS := hS1; clear hz1 hP1 hD1 hS1
  obtain ⟨hP0, hPc⟩ := numW_last hP
  replace hz : H.size = a0 + 51 := hz
  refine lv_dup hx hb dX4_init_84 rfl ?_
  refine lv_iload_n hx hb dX4_init_85 rfl (lv_at hl 0 rfl) ?_
  refine va_callv (va_runI (As := [.int (0)]) (rest := [.ref (a0 + 50), .int (0), .ref (a0 + 30)]) ⟨hx, hb, hml, hown, hts⟩ (c_X3_new0 l D cA a0) (cwI 1 hts gX4_init_X3_init rfl rfl rfl (hts (.initialized RX3) (List.mem_of_getElem? (i := 25) rfl)) (hts (.methodLink RX4 50 yX3_init) (List.mem_of_getElem? (i := 73) rfl)) (hts (.instanceMethod yX3_init) (List.mem_of_getElem? (i := 74) rfl)) rfl (by decide +kernel) ⟨(Nat.le_of_ble_eq_true rfl), (Nat.le_of_ble_eq_true rfl)⟩) ⟨fun a U g mk q => by obtain ⟨q0, q1, q2, q3, q4⟩ := q; exact ⟨q0, q1, q2, va_K.moved (u := U) (U := U.calling g mk a) (Vm.Alike.refl U.vm) q3, q4.moved (U := U.calling g mk a) (Vm.Alike.refl U.vm)⟩, fun U hU hW => ⟨rfl, by rw [hU]; exact hz, by rw [hU]; exact hPc, va_K.moved hW.alike hK, hAO.moved hW.alike⟩⟩ rfl rfl hl.1 rfl (lv_room (Nat.le_of_ble_eq_true rfl)) dX4_init_86 ⟨(Nat.le_of_ble_eq_true rfl), (Nat.le_of_ble_eq_true rfl)⟩) hS (fun q _ h => hA0 q (by rcases h with h | h <;> omega)) (fun q h => hA0 q (by rcases h with h | h <;> omega)) (fun u t H locs ht hvm hu hB hz1 hk1 hS1 => ?_)
  replace hS := hS1; clear hS1 hvm hu hz1
  replace hP := wC2 (b := 50) hP0 (by decide +kernel) hk1 hz (by rw [← ht]; exact hB.2)
  replace hz : H.size = a0 + 63 := by rw [← ht]; exact hB.1
  replace hP : va_P D vwCl (numW a0 ((0, .inr (8, [.ref (a0 + 1), .ref (a0 + 30), .ref (a0 + 31), .ref (a0 + 35), .ref (a0 + 48), .int (80), .int (1000)])) :: (30, .inl (cA 7, 4, .inr (.inr (.inr (.inr (fun _ => none)))))) :: mdW cA a0 mk5)) H := hP
  replace hD : va_D A (numW a0 ((0, .inr (8, [.ref (a0 + 1), .ref (a0 + 30), .ref (a0 + 31), .ref (a0 + 35), .ref (a0 + 48), .int (80), .int (1000)])) :: (30, .inl (cA 7, 4, .inr (.inr (.inr (.inr (fun _ => none)))))) :: mdW cA a0 mk5)) := wD2 hA0 (by decide +kernel)
  have hW9 : EP D cA a0 31 H := by rw [← ht]; exact hB.2 _ List.mem_cons_self
  clear hB hk1 ht hP0 hPc
  refine n_aast hx hb hK hP hD hS (h := a0 + 63) hz rfl (show va_at D vwCl (a0 + 50, .inr (7, [.int 0, .ref (a0 + 51), .ref (a0 + 52), .ref (a0 + 53), .int 0])) H from hW9) (i' := 0) rfl (by decide) (by decide) dX4_init_89 (fun H locs hz1 hP1 hD1 hS1 => ?_)
  replace hz := hz1; replace hP := hP1; replace hD := hD1; replace hS := hS1; clear hz1 hP1 hD1 hS1
  replace hP := numW_set1 (y' := (30, .inl (cA 7, 4, .inr (.inr (.inr (.inr (va_up (fun _ => none) 0 (some (a0 + 50))))))))) (q := a0 + 30) rfl hP
  replace hP : va_P D vwCl (numW a0 ((0, .inr (8, [.ref (a0 + 1), .ref (a0 + 30), .ref (a0 + 31), .ref (a0 + 35), .ref (a0 + 48), .int (80), .int (1000)])) :: (30, .inl (cA 7, 4, .inr (.inr (.inr (.inr (va_up (fun _ => none) 0 (some (a0 + 50)))))))) :: mdW cA a0 mk5)) H := hP
  replace hD : va_D A (numW a0 ((0, .inr (8, [.ref (a0 + 1), .ref (a0 + 30), .ref (a0 + 31), .ref (a0 + 35), .ref (a0 + 48), .int (80), .int (1000)])) :: (30, .inl (cA 7, 4, .inr (.inr (.inr (.inr (va_up (fun _ => none) 0 (some (a0 + 50)))))))) :: mdW cA a0 mk5)) := wD2 hA0 (by decide +kernel)
  refine lv_iinc (v := 1) (lv' := [(1, .int (1)), (0, .ref (a0))]) hx hb dX4_init_90 hl (k := 0) rfl (by decide) (by decide) rfl (fun ls hl => ?_)
  refine lv_goto (tgt := 71) hx hb dX4_init_93 (by decide) ?_
  refine lv_iload_n hx hb dX4_init_71 rfl (lv_at hl 0 rfl) ?_
  refine lv_iconst (v := 4) hx hb dX4_init_72 (by decide) ?_
  refine lv_icmp_ge (tgt := 96) hx hb dX4_init_73 (by decide) (fun c9 => absurd c9 (by decide)) (fun _ => ?_)
  refine lv_aload_n hx hb dX4_init_76 rfl (lv_at hl 1 rfl) ?_
  refine va_get (D := D) (ci := 8) (v := .ref (a0 + 30)) (C := RX4) (T := TX4) (N := 7) hx hb hts inX4_init_X4 hown hK hP 0 rfl rfl 1 (by decide) (hts (.fieldLink RX4 18 "Shelfwalk" "walks" "[LShelfwalk$Walk;") (List.mem_of_getElem? (i := 9) rfl)) (fun _ h9 => h9) rfl dX4_init_77 ?_
  refine lv_iload_n hx hb dX4_init_80 rfl (lv_at hl 0 rfl) ?_
  refine n_new (C := RX3) (T := TX3) (N := 5) (ci := 7) (fs := [.int 0, .null, .null, .null, .int 0]) hx hb hts inX4_init_X3 tyX3 tyX3_ok hown (hts (.classLink RX4 16 RX3) (List.mem_of_getElem? (i := 8) rfl)) (hts (.instantiable RX3 5) (List.mem_of_getElem? (i := 24) rfl)) (hts (.initialized RX3) (List.mem_of_getElem? (i := 25) rfl)) hK hP hD hS hA (h := a0 + 63) hz rfl (fun j hj => by have h9 : j = 0 ∨ j = 1 ∨ j = 2 ∨ j = 3 ∨ j = 4 := (by omega); rcases h9 with h9 | h9 | h9 | h9 | h9 <;> (subst h9; rfl)) (Nat.le_of_ble_eq_true rfl) (Nat.le_of_ble_eq_true rfl) dX4_init_81 (fun H hz1 hP1 hD1 hS1 => ?_)
  replace hz := hz1; replace hP := hP1; replace hD := hD1; replace hS := hS1; clear hz1 hP1 hD1 hS1
  obtain ⟨hP0, hPc⟩ := numW_last hP
  replace hz : H.size = a0 + 64 := hz
  refine lv_dup hx hb dX4_init_84 rfl ?_
  refine lv_iload_n hx hb dX4_init_85 rfl (lv_at hl 0 rfl) ?_
  refine va_callv (va_runI (As := [.int (1)]) (rest := [.ref (a0 + 63), .int (1), .ref (a0 + 30)]) ⟨hx, hb, hml, hown, hts⟩ (c_X3_new1 l D cA a0) (cwI 1 hts gX4_init_X3_init rfl rfl rfl (hts (.initialized RX3) (List.mem_of_getElem? (i := 25) rfl)) (hts (.methodLink RX4 50 yX3_init) (List.mem_of_getElem? (i := 73) rfl)) (hts (.instanceMethod yX3_init) (List.mem_of_getElem? (i := 74) rfl)) rfl (by decide +kernel) ⟨(Nat.le_of_ble_eq_true rfl), (Nat.le_of_ble_eq_true rfl)⟩) ⟨fun a U g mk q => by obtain ⟨q0, q1, q2, q3, q4⟩ := q; exact ⟨q0, q1, q2, va_K.moved (u := U) (U := U.calling g mk a) (Vm.Alike.refl U.vm) q3, q4.moved (U := U.calling g mk a) (Vm.Alike.refl U.vm)⟩, fun U hU hW => ⟨rfl, by rw [hU]; exact hz, by rw [hU]; exact hPc, va_K.moved hW.alike hK, hAO.moved hW.alike⟩⟩ rfl rfl hl.1 rfl (lv_room (Nat.le_of_ble_eq_true rfl)) dX4_init_86 ⟨(Nat.le_of_ble_eq_true rfl), (Nat.le_of_ble_eq_true rfl)⟩) hS (fun q _ h => hA0 q (by rcases h with h | h <;> omega)) (fun q h => hA0 q (by rcases h with h | h <;> omega)) (fun u t H locs ht hvm hu hB hz1 hk1 hS1 => ?_)
  replace hS := hS1; clear hS1 hvm hu hz1
  replace hP := wC2 (b := 63) hP0 (by decide +kernel) hk1 hz (by rw [← ht]; exact hB.2)
  replace hz : H.size = a0 + 76 := by rw [← ht]; exact hB.1
  replace hP : va_P D vwCl (numW a0 ((0, .inr (8, [.ref (a0 + 1), .ref (a0 + 30), .ref (a0 + 31), .ref (a0 + 35), .ref (a0 + 48), .int (80), .int (1000)])) :: (30, .inl (cA 7, 4, .inr (.inr (.inr (.inr (va_up (fun _ => none) 0 (some (a0 + 50)))))))) :: mdW cA a0 mk6)) H := hP
  replace hD : va_D A (numW a0 ((0, .inr (8, [.ref (a0 + 1), .ref (a0 + 30), .ref (a0 + 31), .ref (a0 + 35), .ref (a0 + 48), .int (80), .int (1000)])) :: (30, .inl (cA 7, 4, .inr (.inr (.inr (.inr (va_up (fun _ => none) 0 (some (a0 + 50)))))))) :: mdW cA a0 mk6)) := wD2 hA0 (by decide +kernel)
  have hW9 : EP D cA a0 32 H := by rw [← ht]; exact hB.2 _ List.mem_cons_self
  clear hB hk1 ht hP0 hPc
  refine n_aast hx hb hK hP hD hS (h := a0 + 76) hz rfl (show va_at D vwCl (a0 + 63, .inr (7, [.int 1, .ref (a0 + 64), .ref (a0 + 65), .ref (a0 + 66), .int 0])) H from hW9) (i' := 1) rfl (by decide) (by decide) dX4_init_89 (fun H locs hz1 hP1 hD1 hS1 => ?_)
  replace hz := hz1; replace hP := hP1; replace hD := hD1; replace hS := hS1; clear hz1 hP1 hD1 hS1
  replace hP := numW_set1 (y' := (30, .inl (cA 7, 4, .inr (.inr (.inr (.inr (va_up (va_up (fun _ => none) 0 (some (a0 + 50))) 1 (some (a0 + 63))))))))) (q := a0 + 30) rfl hP
  replace hP : va_P D vwCl (numW a0 ((0, .inr (8, [.ref (a0 + 1), .ref (a0 + 30), .ref (a0 + 31), .ref (a0 + 35), .ref (a0 + 48), .int (80), .int (1000)])) :: (30, .inl (cA 7, 4, .inr (.inr (.inr (.inr (va_up (va_up (fun _ => none) 0 (some (a0 + 50))) 1 (some (a0 + 63)))))))) :: mdW cA a0 mk6)) H := hP
  replace hD : va_D A (numW a0 ((0, .inr (8, [.ref (a0 + 1), .ref (a0 + 30), .ref (a0 + 31), .ref (a0 + 35), .ref (a0 + 48), .int (80), .int (1000)])) :: (30, .inl (cA 7, 4, .inr (.inr (.inr (.inr (va_up (va_up (fun _ => none) 0 (some (a0 + 50))) 1 (some (a0 + 63)))))))) :: mdW cA a0 mk6)) := wD2 hA0 (by decide +kernel)
  refine lv_iinc (v := 2) (lv' := [(1, .int (2)), (0, .ref (a0))]) hx hb dX4_init_90 hl (k := 0) rfl (by decide) (by decide) rfl (fun ls hl => ?_)
  refine lv_goto (tgt := 71) hx hb dX4_init_93 (by decide) ?_
  refine lv_iload_n hx hb dX4_init_71 rfl (lv_at hl 0 rfl) ?_
  refine lv_iconst (v := 4) hx hb dX4_init_72 (by decide) ?_
  refine lv_icmp_ge (tgt := 96) hx hb dX4_init_73 (by decide) (fun c9 => absurd c9 (by decide)) (fun _ => ?_)
  refine lv_aload_n hx hb dX4_init_76 rfl (lv_at hl 1 rfl) ?_
  refine va_get (D := D) (ci := 8) (v := .ref (a0 + 30)) (C := RX4) (T := TX4) (N := 7) hx hb hts inX4_init_X4 hown hK hP 0 rfl rfl 1 (by decide) (hts (.fieldLink RX4 18 "Shelfwalk" "walks" "[LShelfwalk$Walk;") (List.mem_of_getElem? (i := 9) rfl)) (fun _ h9 => h9) rfl dX4_init_77 ?_
  refine lv_iload_n hx hb dX4_init_80 rfl (lv_at hl 0 rfl) ?_
  refine n_new (C := RX3) (T := TX3) (N := 5) (ci := 7) (fs := [.int 0, .null, .null, .null, .int 0]) hx hb hts inX4_init_X3 tyX3 tyX3_ok hown (hts (.classLink RX4 16 RX3) (List.mem_of_getElem? (i := 8) rfl)) (hts (.instantiable RX3 5) (List.mem_of_getElem? (i := 24) rfl)) (hts (.initialized RX3) (List.mem_of_getElem? (i := 25) rfl)) hK hP hD hS hA (h := a0 + 76) hz rfl (fun j hj => by have h9 : j = 0 ∨ j = 1 ∨ j = 2 ∨ j = 3 ∨ j = 4 := (by omega); rcases h9 with h9 | h9 | h9 | h9 | h9 <;> (subst h9; rfl)) (Nat.le_of_ble_eq_true rfl) (Nat.le_of_ble_eq_true rfl) dX4_init_81 (fun H hz1 hP1 hD1 hS1 => ?_)
  replace hz := hz1; replace hP := hP1; replace hD := hD1; replace hS := hS1; clear hz1 hP1 hD1 hS1
  obtain ⟨hP0, hPc⟩ := numW_last hP
  replace hz : H.size = a0 + 77 := hz
  refine lv_dup hx hb dX4_init_84 rfl ?_
  refine lv_iload_n hx hb dX4_init_85 rfl (lv_at hl 0 rfl) ?_
  refine va_callv (va_runI (As := [.int (2)]) (rest := [.ref (a0 + 76), .int (2), .ref (a0 + 30)]) ⟨hx, hb, hml, hown, hts⟩ (c_X3_new2 l D cA a0) (cwI 1 hts gX4_init_X3_init rfl rfl rfl (hts (.initialized RX3) (List.mem_of_getElem? (i := 25) rfl)) (hts (.methodLink RX4 50 yX3_init) (List.mem_of_getElem? (i := 73) rfl)) (hts (.instanceMethod yX3_init) (List.mem_of_getElem? (i := 74) rfl)) rfl (by decide +kernel) ⟨(Nat.le_of_ble_eq_true rfl), (Nat.le_of_ble_eq_true rfl)⟩) ⟨fun a U g mk q => by obtain ⟨q0, q1, q2, q3, q4⟩ := q; exact ⟨q0, q1, q2, va_K.moved (u := U) (U := U.calling g mk a) (Vm.Alike.refl U.vm) q3, q4.moved (U := U.calling g mk a) (Vm.Alike.refl U.vm)⟩, fun U hU hW => ⟨rfl, by rw [hU]; exact hz, by rw [hU]; exact hPc, va_K.moved hW.alike hK, hAO.moved hW.alike⟩⟩ rfl rfl hl.1 rfl (lv_room (Nat.le_of_ble_eq_true rfl)) dX4_init_86 ⟨(Nat.le_of_ble_eq_true rfl), (Nat.le_of_ble_eq_true rfl)⟩) hS (fun q _ h => hA0 q (by rcases h with h | h <;> omega)) (fun q h => hA0 q (by rcases h with h | h <;> omega)) (fun u t H locs ht hvm hu hB hz1 hk1 hS1 => ?_)
  replace hS := hS1; clear hS1 hvm hu hz1
  replace hP := wC2 (b := 76) hP0 (by decide +kernel) hk1 hz (by rw [← ht]; exact hB.2)
  replace hz : H.size = a0 + 89 := by rw [← ht]; exact hB.1
  replace hP : va_P D vwCl (numW a0 ((0, .inr (8, [.ref (a0 + 1), .ref (a0 + 30), .ref (a0 + 31), .ref (a0 + 35), .ref (a0 + 48), .int (80), .int (1000)])) :: (30, .inl (cA 7, 4, .inr (.inr (.inr (.inr (va_up (va_up (fun _ => none) 0 (some (a0 + 50))) 1 (some (a0 + 63)))))))) :: mdW cA a0 mk7)) H := hP
  replace hD : va_D A (numW a0 ((0, .inr (8, [.ref (a0 + 1), .ref (a0 + 30), .ref (a0 + 31), .ref (a0 + 35), .ref (a0 + 48), .int (80), .int (1000)])) :: (30, .inl (cA 7, 4, .inr (.inr (.inr (.inr (va_up (va_up (fun _ => none) 0 (some (a0 + 50))) 1 (some (a0 + 63)))))))) :: mdW cA a0 mk7)) := wD2 hA0 (by decide +kernel)
  have hW9 : EP D cA a0 33 H := by rw [← ht]; exact hB.2 _ List.mem_cons_self
  clear hB hk1 ht hP0 hPc
  refine n_aast hx hb hK hP hD hS (h := a0 + 89) hz rfl (show va_at D vwCl (a0 + 76, .inr (7, [.int 2, .ref (a0 + 77), .ref (a0 + 78), .ref (a0 + 79), .int 0])) H from hW9) (i' := 2) rfl (by decide) (by decide) dX4_init_89 (fun H locs hz1 hP1 hD1 hS1 => ?_)
  replace hz := hz1; replace hP := hP1; replace hD := hD1; replace hS := hS1; clear hz1 hP1 hD1 hS1
  replace hP := numW_set1 (y' := (30, .inl (cA 7, 4, .inr (.inr (.inr (.inr (va_up (va_up (va_up (fun _ => none) 0 (some (a0 + 50))) 1 (some (a0 + 63))) 2 (some (a0 + 76))))))))) (q := a0 + 30) rfl hP
  replace hP : va_P D vwCl (numW a0 ((0, .inr (8, [.ref (a0 + 1), .ref (a0 + 30), .ref (a0 + 31), .ref (a0 + 35), .ref (a0 + 48), .int (80), .int (1000)])) :: (30, .inl (cA 7, 4, .inr (.inr (.inr (.inr (va_up (va_up (va_up (fun _ => none) 0 (some (a0 + 50))) 1 (some (a0 + 63))) 2 (some (a0 + 76)))))))) :: mdW cA a0 mk7)) H := hP
  replace hD : va_D A (numW a0 ((0, .inr (8, [.ref (a0 + 1), .ref (a0 + 30), .ref (a0 + 31), .ref (a0 + 35), .ref (a0 + 48), .int (80), .int (1000)])) :: (30, .inl (cA 7, 4, .inr (.inr (.inr (.inr (va_up (va_up (va_up (fun _ => none) 0 (some (a0 + 50))) 1 (some (a0 + 63))) 2 (some (a0 + 76)))))))) :: mdW cA a0 mk7)) := wD2 hA0 (by decide +kernel)
  refine lv_iinc (v := 3) (lv' := [(1, .int (3)), (0, .ref (a0))]) hx hb dX4_init_90 hl (k := 0) rfl (by decide) (by decide) rfl (fun ls hl => ?_)
  refine lv_goto (tgt := 71) hx hb dX4_init_93 (by decide) ?_
  refine lv_iload_n hx hb dX4_init_71 rfl (lv_at hl 0 rfl) ?_
  refine lv_iconst (v := 4) hx hb dX4_init_72 (by decide) ?_
  refine lv_icmp_ge (tgt := 96) hx hb dX4_init_73 (by decide) (fun c9 => absurd c9 (by decide)) (fun _ => ?_)
  refine lv_aload_n hx hb dX4_init_76 rfl (lv_at hl 1 rfl) ?_
  refine va_get (D := D) (ci := 8) (v := .ref (a0 + 30)) (C := RX4) (T := TX4) (N := 7) hx hb hts inX4_init_X4 hown hK hP 0 rfl rfl 1 (by decide) (hts (.fieldLink RX4 18 "Shelfwalk" "walks" "[LShelfwalk$Walk;") (List.mem_of_getElem? (i := 9) rfl)) (fun _ h9 => h9) rfl dX4_init_77 ?_
  refine lv_iload_n hx hb dX4_init_80 rfl (lv_at hl 0 rfl) ?_
  refine n_new (C := RX3) (T := TX3) (N := 5) (ci := 7) (fs := [.int 0, .null, .null, .null, .int 0]) hx hb hts inX4_init_X3 tyX3 tyX3_ok hown (hts (.classLink RX4 16 RX3) (List.mem_of_getElem? (i := 8) rfl)) (hts (.instantiable RX3 5) (List.mem_of_getElem? (i := 24) rfl)) (hts (.initialized RX3) (List.mem_of_getElem? (i := 25) rfl)) hK hP hD hS hA (h := a0 + 89) hz rfl (fun j hj => by have h9 : j = 0 ∨ j = 1 ∨ j = 2 ∨ j = 3 ∨ j = 4 := (by omega); rcases h9 with h9 | h9 | h9 | h9 | h9 <;> (subst h9; rfl)) (Nat.le_of_ble_eq_true rfl) (Nat.le_of_ble_eq_true rfl) dX4_init_81 (fun H hz1 hP1 hD1 hS1 => ?_)
  replace hz := hz1; replace hP := hP1; replace hD := hD1; replace hS := hS1; clear hz1 hP1 hD1 hS1
  obtain ⟨hP0, hPc⟩ := numW_last hP
  replace hz : H.size = a0 + 90 := hz
  refine lv_dup hx hb dX4_init_84 rfl ?_
  refine lv_iload_n hx hb dX4_init_85 rfl (lv_at hl 0 rfl) ?_
  refine va_callv (va_runI (As := [.int (3)]) (rest := [.ref (a0 + 89), .int (3), .ref (a0 + 30)]) ⟨hx, hb, hml, hown, hts⟩ (c_X3_new3 l D cA a0) (cwI 1 hts gX4_init_X3_init rfl rfl rfl (hts (.initialized RX3) (List.mem_of_getElem? (i := 25) rfl)) (hts (.methodLink RX4 50 yX3_init) (List.mem_of_getElem? (i := 73) rfl)) (hts (.instanceMethod yX3_init) (List.mem_of_getElem? (i := 74) rfl)) rfl (by decide +kernel) ⟨(Nat.le_of_ble_eq_true rfl), (Nat.le_of_ble_eq_true rfl)⟩) ⟨fun a U g mk q => by obtain ⟨q0, q1, q2, q3, q4⟩ := q; exact ⟨q0, q1, q2, va_K.moved (u := U) (U := U.calling g mk a) (Vm.Alike.refl U.vm) q3, q4.moved (U := U.calling g mk a) (Vm.Alike.refl U.vm)⟩, fun U hU hW => ⟨rfl, by rw [hU]; exact hz, by rw [hU]; exact hPc, va_K.moved hW.alike hK, hAO.moved hW.alike⟩⟩ rfl rfl hl.1 rfl (lv_room (Nat.le_of_ble_eq_true rfl)) dX4_init_86 ⟨(Nat.le_of_ble_eq_true rfl), (Nat.le_of_ble_eq_true rfl)⟩) hS (fun q _ h => hA0 q (by rcases h with h | h <;> omega)) (fun q h => hA0 q (by rcases h with h | h <;> omega)) (fun u t H locs ht hvm hu hB hz1 hk1 hS1 => ?_)
  replace hS := hS1; clear hS1 hvm hu hz1
  replace hP := wC2 (b := 89) hP0 (by decide +kernel) hk1 hz (by rw [← ht]; exact hB.2)
  replace hz : H.size = a0 + 102 := by rw [← ht]; exact hB.1
  replace hP : va_P D vwCl (numW a0 ((0, .inr (8, [.ref (a0 + 1), .ref (a0 + 30), .ref (a0 + 31), .ref (a0 + 35), .ref (a0 + 48), .int (80), .int (1000)])) :: (30, .inl (cA 7, 4, .inr (.inr (.inr (.inr (va_up (va_up (va_up (fun _ => none) 0 (some (a0 + 50))) 1 (some (a0 + 63))) 2 (some (a0 + 76)))))))) :: mdW cA a0 mk8)) H := hP
  replace hD : va_D A (numW a0 ((0, .inr (8, [.ref (a0 + 1), .ref (a0 + 30), .ref (a0 + 31), .ref (a0 + 35), .ref (a0 + 48), .int (80), .int (1000)])) :: (30, .inl (cA 7, 4, .inr (.inr (.inr (.inr (va_up (va_up (va_up (fun _ => none) 0 (some (a0 + 50))) 1 (some (a0 + 63))) 2 (some (a0 + 76)))))))) :: mdW cA a0 mk8)) := wD2 hA0 (by decide +kernel)
  have hW9 : EP D cA a0 34 H := by rw [← ht]; exact hB.2 _ List.mem_cons_self
  clear hB hk1 ht hP0 hPc
  refine n_aast hx hb hK hP hD hS (h := a0 + 102) hz rfl (show va_at D vwCl (a0 + 89, .inr (7, [.int 3, .ref (a0 + 90), .ref (a0 + 91), .ref (a0 + 92), .int 0])) H from hW9) (i' := 3) rfl (by decide) (by decide) dX4_init_89 (fun H locs hz1 hP1 hD1 hS1 => ?_)
  replace hz := hz1; replace hP := hP1; replace hD := hD1; replace hS := hS1; clear hz1 hP1 hD1 hS1
  replace hP := numW_set1 (y' := (30, .inl (cA 7, 4, .inr (.inr (.inr (.inr (va_up (va_up (va_up (va_up (fun _ => none) 0 (some (a0 + 50))) 1 (some (a0 + 63))) 2 (some (a0 + 76))) 3 (some (a0 + 89))))))))) (q := a0 + 30) rfl hP
  replace hP : va_P D vwCl (numW a0 ((0, .inr (8, [.ref (a0 + 1), .ref (a0 + 30), .ref (a0 + 31), .ref (a0 + 35), .ref (a0 + 48), .int (80), .int (1000)])) :: (30, .inl (cA 7, 4, .inr (.inr (.inr (.inr (va_up (va_up (va_up (va_up (fun _ => none) 0 (some (a0 + 50))) 1 (some (a0 + 63))) 2 (some (a0 + 76))) 3 (some (a0 + 89)))))))) :: mdW cA a0 mk8)) H := hP
  replace hD : va_D A (numW a0 ((0, .inr (8, [.ref (a0 + 1), .ref (a0 + 30), .ref (a0 + 31), .ref (a0 + 35), .ref (a0 + 48), .int (80), .int (1000)])) :: (30, .inl (cA 7, 4, .inr (.inr (.inr (.inr (va_up (va_up (va_up (va_up (fun _ => none) 0 (some (a0 + 50))) 1 (some (a0 + 63))) 2 (some (a0 + 76))) 3 (some (a0 + 89)))))))) :: mdW cA a0 mk8)) := wD2 hA0 (by decide +kernel)
  refine lv_iinc (v := 4) (lv' := [(1, .int (4)), (0, .ref (a0))]) hx hb dX4_init_90 hl (k := 0) rfl (by decide) (by decide) rfl (fun ls hl => ?_)
  refine lv_goto (tgt := 71) hx hb dX4_init_93 (by decide) ?_
  refine lv_iload_n hx hb dX4_init_71 rfl (lv_at hl 0 rfl) ?_
  refine lv_iconst (v := 4) hx hb dX4_init_72 (by decide) ?_
  refine lv_icmp_ge (tgt := 96) hx hb dX4_init_73 (by decide) (fun _ => ?_) (fun c9 => absurd (by decide) c9)
  refine lv_aload_n hx hb dX4_init_96 rfl (lv_at hl 1 rfl) ?_
  have hW0 : WP 102 D cA (adF a0) I0 J0 X0 H := wFin hP rfl (by rw [walks_f]; rfl) (by decide +kernel)
  refine va_callv (va_runV (As := []) (rest := []) ⟨hx, hb, hml, hown, hts⟩ (c_X4_beginWalks l 102 D cA (adF a0) (adF_inj a0 102 (by decide)) (Nat.le_refl _) I0 J0 X0 H.size cn nb Is Js h0 j0 hM) (cwV 0 hts gX4_init_X4_beginWalks rfl rfl rfl (by decide +kernel) ⟨(Nat.le_of_ble_eq_true rfl), (Nat.le_of_ble_eq_true rfl)⟩) (w_preV hK hW0 0 (by decide) ⟨rfl, rfl⟩ rfl) rfl rfl hl.1 rfl (lv_room (Nat.le_of_ble_eq_true rfl)) dX4_init_97 ⟨(Nat.le_of_ble_eq_true rfl), (Nat.le_of_ble_eq_true rfl)⟩) hS (fun q _ h => hA0 q (frA a0 h (by omega))) (fun q h => hA0 q (frA a0 h (by omega))) (fun u t H locs ht hvm _ hB hz1 hk1 hS => ?_)
  exact W.vret hx hb hr (fun t' ht' hW => ⟨⟨(), rfl, trivial, by rw [ht']; omega, by rw [ht', ← ht]; exact hB.1⟩, hS.F ht'⟩) hS.2.2 dX4_init_100 hlocks
