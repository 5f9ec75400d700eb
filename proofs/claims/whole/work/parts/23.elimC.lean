
/-- a row solved, those behind it told -/
def srJ (X : SX) (i : Nat) : Nat → UInt64
  | 0 => X 98 i
  | j + 1 => if j ≤ i then srJ X i j else ms (srJ X i j) (X (89 + i) j) (X 99 j)
theorem srJ_i {X : SX} {i : Nat} : ∀ j, j ≤ i + 1 → srJ X i j = X 98 i
  | 0, _ => rfl
  | j + 1, h => by unfold srJ; rw [if_pos (by omega : j ≤ i)]; exact srJ_i j (by omega)
def srS (X : SX) (i : Nat) : SX := st2 X 99 i (FP.ddiv (srJ X i 9) (X (89 + i) i))
def SrOK (X : SX) (i : Nat) : Prop := (∀ j, i < j → j < 9 → msOK (srJ X i j) (X (89 + i) j) (X 99 j)) ∧ dvOK (srJ X i 9) (X (89 + i) i)

theorem inX0_solveRow_X0 : ∀ w ∈ wsX00, w ∈ wsX0_solveRow := by decide +kernel
set_option maxHeartbeats 4000000 in
set_option maxRecDepth 100000 in
theorem lp_X0_sr {p : Program} {l : Launch} {e : Env} {s : State} {m : MethodId} {args : Array Value} {below : List Frame} {meth : Method} {c : Code} {Q : State → Prop} {nW : Nat} {D : va_G} {cA : Nat → ClassId} {ad : Nat → Nat} (hi : inj nW ad) (hNW : 102 ≤ nW) (hx : p.tables.exec = Jvm.exec) (hb : c.code = cX0_solveRow) (hml : c.maxLocals = 5) (hown : s.vm.findClass RX0 = some m.cls) (hts : ∀ w ∈ wsX0_solveRow, w.before args s = true) (hK : WK D cA s) (I : SI) (J : SJ) (X : SX) (i : Nat) (hi9 : i < 9) (hE : SrOK X i) (kx :  ∀ (H : Heap) (locs : List Loc), WP nW D cA ad I J X H → va_S (fr nW ad s.heap.size) s.heap H locs → ∀ (ls : Array Slot), lv_has ls 5 [(2, .double (srJ X i 9)), (1, .int (nI (i))), (0, .ref (ad 87))] → W p l e (headSpec wsX0_solveRow ({ frames := 1, cells := 0, slots := 0, locals := 23 })).room s m args below meth c H locs 0 0 Q (F0 m 45 ls [])) : ∀ (t j : Nat), j + t = 9 → (hq : i < j) → ∀ (H : Heap) (locs : List Loc), WP nW D cA ad I J X H → va_S (fr nW ad s.heap.size) s.heap H locs → ∀ (ls : Array Slot), lv_has ls 5 [(4, .int (nI (j))), (2, .double (srJ X i (j))), (1, .int (nI (i))), (0, .ref (ad 87))] → W p l e (headSpec wsX0_solveRow ({ frames := 1, cells := 0, slots := 0, locals := 23 })).room s m args below meth c H locs 0 0 Q (F0 m 12 ls []) := by
  have hA : ∀ k, k < nW → fr nW ad s.heap.size (ad k) := fr_ad
  intro t
  induction t with
  | zero =>
    intro j hj hq H locs hP hS ls hl
    obtain rfl : 9 = j := by omega
    refine lv_iload hx hb dX0_solveRow_12 (lv_at hl 0 rfl) ?_
    refine lv_bipush (v := 9) hx hb dX0_solveRow_14 (by decide) ?_
    refine lv_icmp_ge (tgt := 45) hx hb dX0_solveRow_16 (by decide) (fun cc => ?_) (fun cc => ?_)
    · have qcc : 9 ≤ 9 := (wn_le (a := 9) (b := 9) rfl rfl (by omega) (by omega)).mp cc
      exact kx  H locs hP hS ls (lv_cong (l := [(2, .double (srJ X i (9))), (1, .int (nI (i))), (0, .ref (ad 87))]) (l' := [(2, .double (srJ X i 9)), (1, .int (nI (i))), (0, .ref (ad 87))]) (lv_sub hl [1, 2, 3] rfl) (by subst_vars; rfl))
    · have qcc : ¬ 9 ≤ 9 := fun z => cc ((wn_le (a := 9) (b := 9) rfl rfl (by omega) (by omega)).mpr z)
      exact absurd qcc (by omega)
  | succ t ih =>
    intro j hj hq H locs hP hS ls hl
    refine lv_iload hx hb dX0_solveRow_12 (lv_at hl 0 rfl) ?_
    refine lv_bipush (v := 9) hx hb dX0_solveRow_14 (by decide) ?_
    refine lv_icmp_ge (tgt := 45) hx hb dX0_solveRow_16 (by decide) (fun cc => ?_) (fun cc => ?_)
    · have qcc : 9 ≤ j := (wn_le (a := 9) (b := j) rfl rfl (by omega) (by omega)).mp cc
      exact absurd qcc (by omega)
    · have qcc : ¬ 9 ≤ j := fun z => cc ((wn_le (a := 9) (b := j) rfl rfl (by omega) (by omega)).mpr z)
      refine lv_dload_n hx hb dX0_solveRow_19 rfl (lv_at hl 1 rfl) ?_
      refine lv_aload_n hx hb dX0_solveRow_20 rfl (lv_at hl 3 rfl) ?_
      refine w_get (C := RX0) (T := TX0) (N := 3) (v := .ref (ad 88)) (index := 11) hx hb hts inX0_solveRow_X0 hown hK hP 87 0 ⟨rfl, rfl, by decide⟩ (by omega) rfl (List.mem_of_getElem? (i := 2) rfl) (fun _ h9 => h9) dX0_solveRow_21 ?_
      refine lv_iload_n hx hb dX0_solveRow_24 rfl (lv_at hl 2 rfl) ?_
      refine w_aald hx hb hK hP 88 (i) 89 6 ⟨rfl, (by show i < 9; omega), rfl, rfl, by decide, by decide⟩ (by omega) rfl dX0_solveRow_25 ?_
      refine lv_iload hx hb dX0_solveRow_26 (lv_at hl 0 rfl) ?_
      refine w_dald hx hb hK hP (89 + i) (j) (k_matR (by omega) (by omega)) (by omega) rfl dX0_solveRow_28 ?_
      refine lv_aload_n hx hb dX0_solveRow_29 rfl (lv_at hl 3 rfl) ?_
      refine w_get (C := RX0) (T := TX0) (N := 3) (v := .ref (ad 99)) (index := 20) hx hb hts inX0_solveRow_X0 hown hK hP 87 2 ⟨rfl, rfl, by decide⟩ (by omega) rfl (List.mem_of_getElem? (i := 3) rfl) (fun _ h9 => h9) dX0_solveRow_30 ?_
      refine lv_iload hx hb dX0_solveRow_33 (lv_at hl 0 rfl) ?_
      refine w_dald hx hb hK hP 99 (j) ⟨rfl, (by show j < 9; omega)⟩ (by omega) rfl dX0_solveRow_35 ?_
      refine lv_dmul hx hb dX0_solveRow_36 (hE.1 j hq (by omega)).1 ?_
      refine lv_dsub hx hb dX0_solveRow_37 (hE.1 j hq (by omega)).2 ?_
      refine lv_dstore_n (lv' := [(2, .double (FP.dsub (srJ X i (j)) (FP.dmul (X (89 + i) (j)) (X 99 (j))))), (4, .int (nI (j))), (1, .int (nI (i))), (0, .ref (ad 87))]) hx hb dX0_solveRow_38 rfl hl (by decide) rfl (fun ls hl => ?_)
      refine lv_iinc (v := nI (j + 1)) (lv' := [(4, .int (nI (j + 1))), (2, .double (FP.dsub (srJ X i (j)) (FP.dmul (X (89 + i) (j)) (X 99 (j))))), (1, .int (nI (i))), (0, .ref (ad 87))]) hx hb dX0_solveRow_39 hl (k := 1) rfl (wn_inc rfl) (by decide) rfl (fun ls hl => ?_)
      refine lv_goto (tgt := 12) hx hb dX0_solveRow_42 (by decide) ?_
      exact ih (j + 1) (by omega) (by omega) H locs hP hS ls (lv_cong (l := [(4, .int (nI (j + 1))), (2, .double (FP.dsub (srJ X i (j)) (FP.dmul (X (89 + i) (j)) (X 99 (j))))), (1, .int (nI (i))), (0, .ref (ad 87))]) (l' := [(4, .int (nI ((j + 1)))), (2, .double (srJ X i ((j + 1)))), (1, .int (nI (i))), (0, .ref (ad 87))]) (lv_sub hl [0, 1, 2, 3] rfl) (by subst_vars; first | rfl | (simp only [srJ, ms, if_neg (by omega : ¬ j ≤ i)]; done)))

set_option maxHeartbeats 4000000 in
set_option maxRecDepth 100000 in
/-- X0_solveRow -/
theorem c_X0_solveRow (l : Launch) (nW : Nat) (D : va_G) (cA : Nat → ClassId) (ad : Nat → Nat) (hi : inj nW ad) (hNW : 102 ≤ nW) (I : SI) (J : SJ) (X : SX) (sz : Nat) (i : Nat) (hi9 : i < 9) (hE : SrOK X i) : Met l yX0_solveRow wsX0_solveRow ({ frames := 1, cells := 0, slots := 0, locals := 23 }) (va_Pc [.ref (ad 87), .int (nI (i))] (wPre nW D cA ad I J X sz)) (qV nW D cA ad sz I J (srS X i)) 0 0 (fr nW ad sz) := by
  refine Met.ofW (cc := cX0_solveRow) (maxL := 5) (ret := none) (by decide) rfl ?_
  intro p e s m args below meth c s₁ B hml hv
  obtain ⟨rfl, rfl, hP, hK⟩ := hv
  have hx := B.exec
  have hb := B.bytes
  have hr := B.returns
  have hts := atoms_spec (ws := wsX0_solveRow) B.pre
  have hown : s.vm.findClass RX0 = some m.cls := findClass_of_methodNamed B.named
  have hlocks := B.notSynchronized
  have hS : va_S (fr nW ad s.heap.size) s.heap s.heap [] := va_S.rf
  have hA : ∀ k, k < nW → fr nW ad s.heap.size (ad k) := fr_ad
  have hl := lv_entry ([.ref (ad 87), .int (nI (i))]) (n := 5) (Nat.le_of_ble_eq_true rfl)
  rw [lg_entry_eq]
  generalize (lg_sl ([.ref (ad 87), .int (nI (i))]) ++ List.replicate (5 - (lg_sl ([.ref (ad 87), .int (nI (i))])).length) Slot.unset).toArray = ls at hl ⊢
  have hl : lv_has ls 5 [(0, .ref (ad 87)), (1, .int (nI (i)))] := hl
  have hS0 := hS
  suffices K : ∀ (H : Heap) (locs : List Loc), WP nW D cA ad I J X H → va_S (fr nW ad s.heap.size) s.heap H locs → W p l e (headSpec wsX0_solveRow ({ frames := 1, cells := 0, slots := 0, locals := 23 })).room s m ([.ref (ad 87), .int (nI (i))] : List Value).toArray below meth c H locs 0 0 (MQ below (qV nW D cA ad s.heap.size I J (srS X i)) ([.ref (ad 87), .int (nI (i))] : List Value).toArray s 0 0 (fr nW ad s.heap.size)) (F0 m 0 ls []) from K _ _ hP hS
  clear hP hS hS0
  intro H locs hP hS
  refine lv_aload_n hx hb dX0_solveRow_0 rfl (lv_at hl 0 rfl) ?_
  refine w_get (C := RX0) (T := TX0) (N := 3) (v := .ref (ad 98)) (index := 16) hx hb hts inX0_solveRow_X0 hown hK hP 87 1 ⟨rfl, rfl, by decide⟩ (by omega) rfl (List.mem_of_getElem? (i := 1) rfl) (fun _ h9 => h9) dX0_solveRow_1 ?_
  refine lv_iload_n hx hb dX0_solveRow_4 rfl (lv_at hl 1 rfl) ?_
  refine w_dald hx hb hK hP 98 (i) ⟨rfl, (by show i < 9; omega)⟩ (by omega) rfl dX0_solveRow_5 ?_
  refine lv_dstore_n (lv' := [(2, .double (X 98 (i))), (0, .ref (ad 87)), (1, .int (nI (i)))]) hx hb dX0_solveRow_6 rfl hl (by decide) rfl (fun ls hl => ?_)
  refine lv_iload_n hx hb dX0_solveRow_7 rfl (lv_at hl 2 rfl) ?_
  refine lv_iconst (v := 1) hx hb dX0_solveRow_8 (by decide) ?_
  refine w_iaddN (a := i) (b := 1) hx hb rfl rfl dX0_solveRow_9 ?_
  refine lv_istore (lv' := [(4, .int (nI (i + 1))), (2, .double (X 98 (i))), (0, .ref (ad 87)), (1, .int (nI (i)))]) hx hb dX0_solveRow_10 hl (by decide) rfl (fun ls hl => ?_)
  refine lp_X0_sr hi hNW hx hb hml hown hts hK I J X i hi9 hE (fun  H locs hP hS ls hl => ?_) ((9 - (i + 1))) ((i + 1)) (by omega) (by omega) H locs hP hS ls (lv_cong (l := [(4, .int (nI (i + 1))), (2, .double (X 98 (i))), (1, .int (nI (i))), (0, .ref (ad 87))]) (l' := [(4, .int (nI (i + 1))), (2, .double (srJ X i (i + 1))), (1, .int (nI (i))), (0, .ref (ad 87))]) (lv_sub hl [0, 1, 3, 2] rfl) (by first | rfl | (rw [srJ_i (i + 1) (Nat.le_refl _)]) | (rw [srJ_i (i + 1) (Nat.le_refl _)]; rfl)))
  refine lv_aload_n hx hb dX0_solveRow_45 rfl (lv_at hl 2 rfl) ?_
  refine w_get (C := RX0) (T := TX0) (N := 3) (v := .ref (ad 99)) (index := 20) hx hb hts inX0_solveRow_X0 hown hK hP 87 2 ⟨rfl, rfl, by decide⟩ (by omega) rfl (List.mem_of_getElem? (i := 3) rfl) (fun _ h9 => h9) dX0_solveRow_46 ?_
  refine lv_iload_n hx hb dX0_solveRow_49 rfl (lv_at hl 1 rfl) ?_
  refine lv_dload_n hx hb dX0_solveRow_50 rfl (lv_at hl 0 rfl) ?_
  refine lv_aload_n hx hb dX0_solveRow_51 rfl (lv_at hl 2 rfl) ?_
  refine w_get (C := RX0) (T := TX0) (N := 3) (v := .ref (ad 88)) (index := 11) hx hb hts inX0_solveRow_X0 hown hK hP 87 0 ⟨rfl, rfl, by decide⟩ (by omega) rfl (List.mem_of_getElem? (i := 2) rfl) (fun _ h9 => h9) dX0_solveRow_52 ?_
  refine lv_iload_n hx hb dX0_solveRow_55 rfl (lv_at hl 1 rfl) ?_
  refine w_aald hx hb hK hP 88 (i) 89 6 ⟨rfl, (by show i < 9; omega), rfl, rfl, by decide, by decide⟩ (by omega) rfl dX0_solveRow_56 ?_
  refine lv_iload_n hx hb dX0_solveRow_57 rfl (lv_at hl 1 rfl) ?_
  refine w_dald hx hb hK hP (89 + i) (i) (k_matR (by omega) (by omega)) (by omega) rfl dX0_solveRow_58 ?_
  refine w_calld (va_runS (As := [.double (srJ X i 9), .double (X (89 + i) (i))]) (rest := [.int (nI (i)), .ref (ad 99)]) ⟨hx, hb, hml, hown, hts⟩ (c_X0_quotient l nW D cA ad hi hNW I J X H.size (srJ X i 9) (X (89 + i) (i)) hE.2) (va_cwS 2 hts gX0_solveRow_X0_quotient rfl rfl rfl (by decide +kernel) ⟨Nat.le_of_ble_eq_true rfl, Nat.le_of_ble_eq_true rfl⟩) (w_preS hK hP) rfl rfl hl.1 rfl (lv_room (Nat.le_of_ble_eq_true rfl)) dX0_solveRow_59 ⟨Nat.le_of_ble_eq_true rfl, Nat.le_of_ble_eq_true rfl⟩) hS (fun H locs hP hS => ?_)
  refine w_dast (v := FP.ddiv (srJ X i 9) (X (89 + i) (i))) hx hb hK hP hi hA hS 99 (i) ⟨rfl, (by show i < 9; omega)⟩ (by omega) rfl dX0_solveRow_62 (fun H locs hP hS => ?_)
  obtain ⟨X_1, eX_1⟩ : ∃ y, y = st2 X 99 (i) (FP.ddiv (srJ X i 9) (X (89 + i) (i))) := ⟨_, rfl⟩
  have hP : WP nW D cA ad I J X_1 H := by rw [eX_1]; exact hP
  exact w_vret hx hb hr hlocks hK hP hS ⟨by subst_vars; rfl, by subst_vars; rfl, by subst_vars; rfl⟩ dX0_solveRow_63

def soK (X : SX) : Nat → SX
  | 0 => X
  | k + 1 => elI (soK X k) k 9
def soR (X : SX) : Nat → SX
  | 0 => X
  | t + 1 => srS (soR X t) (8 - t)
def SoOK (X : SX) : Prop := (∀ k, k < 9 → ElOK (soK X k) k) ∧ (∀ t, t < 9 → SrOK (soR (soK X 9) t) (8 - t))
def dnI (t : Nat) : Int32 := 8 - nI t
theorem dnI_eq : ∀ t, t < 9 → dnI t = nI (8 - t) := by decide +kernel
theorem dnI_nlt : ∀ t, t < 9 → ¬ dnI t < 0 := by decide +kernel
theorem dnI_lt : dnI 9 < 0 := by decide +kernel
theorem dnI_dec : ∀ t, t < 9 → dnI t + Int32.ofInt (-1) = dnI (t + 1) := by decide +kernel

theorem inX0_solve_X0 : ∀ w ∈ wsX00, w ∈ wsX0_solve := by decide +kernel
theorem inX0_solve_X1 : ∀ w ∈ wsX10, w ∈ wsX0_solve := by decide +kernel
set_option maxHeartbeats 4000000 in
set_option maxRecDepth 100000 in
theorem lp_X0_solve_A {p : Program} {l : Launch} {e : Env} {s : State} {m : MethodId} {args : Array Value} {below : List Frame} {meth : Method} {c : Code} {Q : State → Prop} {nW : Nat} {D : va_G} {cA : Nat → ClassId} {ad : Nat → Nat} (hi : inj nW ad) (hNW : 102 ≤ nW) (hx : p.tables.exec = Jvm.exec) (hb : c.code = cX0_solve) (hml : c.maxLocals = 5) (hown : s.vm.findClass RX0 = some m.cls) (hts : ∀ w ∈ wsX0_solve, w.before args s = true) (hK : WK D cA s) (I : SI) (J : SJ) (X : SX) (hSo : ∀ k, k < 9 → ElOK (soK X k) k) (kx :  ∀ (H : Heap) (locs : List Loc), WP nW D cA ad I J (soK X 9) H → va_S (fr nW ad s.heap.size) s.heap H locs → ∀ (ls : Array Slot), lv_has ls 5 [(0, .ref (ad 87))] → W p l e (headSpec wsX0_solve ({ frames := 3, cells := 0, slots := 0, locals := 73 })).room s m args below meth c H locs 0 0 Q (F0 m 29 ls [])) : ∀ (t k : Nat), k + t = 9 →  ∀ (H : Heap) (locs : List Loc), WP nW D cA ad I J (soK X (k)) H → va_S (fr nW ad s.heap.size) s.heap H locs → ∀ (ls : Array Slot), lv_has ls 5 [(4, .int (nI (k))), (0, .ref (ad 87))] → W p l e (headSpec wsX0_solve ({ frames := 3, cells := 0, slots := 0, locals := 73 })).room s m args below meth c H locs 0 0 Q (F0 m 10 ls []) := by
  have hA : ∀ k, k < nW → fr nW ad s.heap.size (ad k) := fr_ad
  intro t
  induction t with
  | zero =>
    intro k hj  H locs hP hS ls hl
    obtain rfl : 9 = k := by omega
    refine lv_iload hx hb dX0_solve_10 (lv_at hl 0 rfl) ?_
    refine lv_bipush (v := 9) hx hb dX0_solve_12 (by decide) ?_
    refine lv_icmp_ge (tgt := 29) hx hb dX0_solve_14 (by decide) (fun cc => ?_) (fun cc => ?_)
    · have qcc : 9 ≤ 9 := (wn_le (a := 9) (b := 9) rfl rfl (by omega) (by omega)).mp cc
      exact kx  H locs (w_cong (I1 := I) (J1 := J) (X1 := (soK X 9)) hP ⟨rfl, rfl, (by subst_vars; rfl)⟩) hS ls (lv_sub hl [1] rfl)
    · have qcc : ¬ 9 ≤ 9 := fun z => cc ((wn_le (a := 9) (b := 9) rfl rfl (by omega) (by omega)).mpr z)
      exact absurd qcc (by omega)
  | succ t ih =>
    intro k hj  H locs hP hS ls hl
    refine lv_iload hx hb dX0_solve_10 (lv_at hl 0 rfl) ?_
    refine lv_bipush (v := 9) hx hb dX0_solve_12 (by decide) ?_
    refine lv_icmp_ge (tgt := 29) hx hb dX0_solve_14 (by decide) (fun cc => ?_) (fun cc => ?_)
    · have qcc : 9 ≤ k := (wn_le (a := 9) (b := k) rfl rfl (by omega) (by omega)).mp cc
      exact absurd qcc (by omega)
    · have qcc : ¬ 9 ≤ k := fun z => cc ((wn_le (a := 9) (b := k) rfl rfl (by omega) (by omega)).mpr z)
      refine lv_aload_n hx hb dX0_solve_17 rfl (lv_at hl 1 rfl) ?_
      refine lv_iload hx hb dX0_solve_18 (lv_at hl 0 rfl) ?_
      refine w_callv (va_runV (As := [.int (nI (k))]) (rest := []) ⟨hx, hb, hml, hown, hts⟩ (c_X0_eliminateBehind l nW D cA ad hi hNW I J (soK X (k)) H.size k (by omega) (hSo k (by omega))) (cwV 1 hts gX0_solve_X0_eliminateBehind rfl rfl rfl (by decide +kernel) ⟨Nat.le_of_ble_eq_true rfl, Nat.le_of_ble_eq_true rfl⟩) (w_preV hK hP 87 (by omega) ⟨rfl, rfl⟩ rfl) rfl rfl hl.1 rfl (lv_room (Nat.le_of_ble_eq_true rfl)) dX0_solve_20 ⟨Nat.le_of_ble_eq_true rfl, Nat.le_of_ble_eq_true rfl⟩) hS (fun H locs hP hS => ?_)
      refine lv_iinc (v := nI (k + 1)) (lv' := [(4, .int (nI (k + 1))), (0, .ref (ad 87))]) hx hb dX0_solve_23 hl (k := 0) rfl (wn_inc rfl) (by decide) rfl (fun ls hl => ?_)
      refine lv_goto (tgt := 10) hx hb dX0_solve_26 (by decide) ?_
      exact ih (k + 1) (by omega)  H locs (w_cong (I1 := I) (J1 := J) (X1 := (soK X ((k + 1)))) hP ⟨rfl, rfl, (by subst_vars; rfl)⟩) hS ls (lv_cong (l := [(4, .int (nI (k + 1))), (0, .ref (ad 87))]) (l' := [(4, .int (nI ((k + 1)))), (0, .ref (ad 87))]) (lv_sub hl [0, 1] rfl) (by subst_vars; rfl))

set_option maxHeartbeats 4000000 in
set_option maxRecDepth 100000 in
theorem lp_X0_solve_B {p : Program} {l : Launch} {e : Env} {s : State} {m : MethodId} {args : Array Value} {below : List Frame} {meth : Method} {c : Code} {Q : State → Prop} {nW : Nat} {D : va_G} {cA : Nat → ClassId} {ad : Nat → Nat} (hi : inj nW ad) (hNW : 102 ≤ nW) (hx : p.tables.exec = Jvm.exec) (hb : c.code = cX0_solve) (hml : c.maxLocals = 5) (hown : s.vm.findClass RX0 = some m.cls) (hts : ∀ w ∈ wsX0_solve, w.before args s = true) (hK : WK D cA s) (I : SI) (J : SJ) (X : SX) (hT : ∀ t, t < 9 → SrOK (soR X t) (8 - t)) (kx :  ∀ (H : Heap) (locs : List Loc), WP nW D cA ad I J (soR X 9) H → va_S (fr nW ad s.heap.size) s.heap H locs → ∀ (ls : Array Slot), lv_has ls 5 [(0, .ref (ad 87))] → W p l e (headSpec wsX0_solve ({ frames := 3, cells := 0, slots := 0, locals := 73 })).room s m args below meth c H locs 0 0 Q (F0 m 50 ls [])) : ∀ (t q : Nat), q + t = 9 →  ∀ (H : Heap) (locs : List Loc), WP nW D cA ad I J (soR X (q)) H → va_S (fr nW ad s.heap.size) s.heap H locs → ∀ (ls : Array Slot), lv_has ls 5 [(4, .int (dnI (q))), (0, .ref (ad 87))] → W p l e (headSpec wsX0_solve ({ frames := 3, cells := 0, slots := 0, locals := 73 })).room s m args below meth c H locs 0 0 Q (F0 m 33 ls []) := by
  have hA : ∀ k, k < nW → fr nW ad s.heap.size (ad k) := fr_ad
  intro t
  induction t with
  | zero =>
    intro q hj  H locs hP hS ls hl
    obtain rfl : 9 = q := by omega
    refine lv_iload hx hb dX0_solve_33 (lv_at hl 0 rfl) ?_
    refine lv_if_lt (tgt := 50) hx hb dX0_solve_35 (by decide) (fun c35 => ?_) (fun c35 => ?_)
    · exact kx  H locs (w_cong (I1 := I) (J1 := J) (X1 := (soR X 9)) hP ⟨rfl, rfl, (by subst_vars; rfl)⟩) hS ls (lv_sub hl [1] rfl)
    · exact absurd dnI_lt c35
  | succ t ih =>
    intro q hj  H locs hP hS ls hl
    refine lv_iload hx hb dX0_solve_33 (lv_at hl 0 rfl) ?_
    refine lv_if_lt (tgt := 50) hx hb dX0_solve_35 (by decide) (fun c35 => ?_) (fun c35 => ?_)
    · exact absurd c35 (dnI_nlt q (by omega))
    · refine lv_aload_n hx hb dX0_solve_38 rfl (lv_at hl 1 rfl) ?_
      refine lv_iload hx hb dX0_solve_39 (lv_at hl 0 rfl) ?_
      refine w_topN (a := (8 - q)) (dnI_eq q (by omega)) ?_
      refine w_callv (va_runV (As := [.int (nI (8 - q))]) (rest := []) ⟨hx, hb, hml, hown, hts⟩ (c_X0_solveRow l nW D cA ad hi hNW I J (soR X (q)) H.size (8 - q) (by omega) (hT q (by omega))) (cwV 1 hts gX0_solve_X0_solveRow rfl rfl rfl (by decide +kernel) ⟨Nat.le_of_ble_eq_true rfl, Nat.le_of_ble_eq_true rfl⟩) (w_preV hK hP 87 (by omega) ⟨rfl, rfl⟩ rfl) rfl rfl hl.1 rfl (lv_room (Nat.le_of_ble_eq_true rfl)) dX0_solve_41 ⟨Nat.le_of_ble_eq_true rfl, Nat.le_of_ble_eq_true rfl⟩) hS (fun H locs hP hS => ?_)
      refine lv_iinc (v := dnI (q + 1)) (lv' := [(4, .int (dnI (q + 1))), (0, .ref (ad 87))]) hx hb dX0_solve_44 hl (k := 0) rfl (dnI_dec q (by omega)) (by decide) rfl (fun ls hl => ?_)
      refine lv_goto (tgt := 33) hx hb dX0_solve_47 (by decide) ?_
      exact ih (q + 1) (by omega)  H locs (w_cong (I1 := I) (J1 := J) (X1 := (soR X ((q + 1)))) hP ⟨rfl, rfl, (by subst_vars; rfl)⟩) hS ls (lv_cong (l := [(4, .int (dnI (q + 1))), (0, .ref (ad 87))]) (l' := [(4, .int (dnI ((q + 1)))), (0, .ref (ad 87))]) (lv_sub hl [0, 1] rfl) (by subst_vars; rfl))

set_option maxHeartbeats 4000000 in
set_option maxRecDepth 100000 in
/-- X0_solve -/
theorem c_X0_solve (l : Launch) (nW : Nat) (D : va_G) (cA : Nat → ClassId) (ad : Nat → Nat) (hi : inj nW ad) (hNW : 102 ≤ nW) (I : SI) (J : SJ) (X : SX) (sz : Nat) (r : Nat) (d : Int32) (hr4 : r < 4) (hF : FlOK I r d) (hSo : SoOK (flO I r (dmF d) X 9)) : Met l yX0_solve wsX0_solve ({ frames := 3, cells := 0, slots := 0, locals := 73 }) (va_Pc [.ref (ad 87), .ref (ad 1), .int (nI (r)), .int (d)] (wPre nW D cA ad I J X sz)) (qV nW D cA ad sz I J (soR (soK (flO I r (dmF d) X 9) 9) 9)) 0 0 (fr nW ad sz) := by
  refine Met.ofW (cc := cX0_solve) (maxL := 5) (ret := none) (by decide) rfl ?_
  intro p e s m args below meth c s₁ B hml hv
  obtain ⟨rfl, rfl, hP, hK⟩ := hv
  have hx := B.exec
  have hb := B.bytes
  have hr := B.returns
  have hts := atoms_spec (ws := wsX0_solve) B.pre
  have hown : s.vm.findClass RX0 = some m.cls := findClass_of_methodNamed B.named
  have hlocks := B.notSynchronized
  have hS : va_S (fr nW ad s.heap.size) s.heap s.heap [] := va_S.rf
  have hA : ∀ k, k < nW → fr nW ad s.heap.size (ad k) := fr_ad
  have hl := lv_entry ([.ref (ad 87), .ref (ad 1), .int (nI (r)), .int (d)]) (n := 5) (Nat.le_of_ble_eq_true rfl)
  rw [lg_entry_eq]
  generalize (lg_sl ([.ref (ad 87), .ref (ad 1), .int (nI (r)), .int (d)]) ++ List.replicate (5 - (lg_sl ([.ref (ad 87), .ref (ad 1), .int (nI (r)), .int (d)])).length) Slot.unset).toArray = ls at hl ⊢
  have hl : lv_has ls 5 [(0, .ref (ad 87)), (1, .ref (ad 1)), (2, .int (nI (r))), (3, .int (d))] := hl
  have hS0 := hS
  suffices K : ∀ (H : Heap) (locs : List Loc), WP nW D cA ad I J X H → va_S (fr nW ad s.heap.size) s.heap H locs → W p l e (headSpec wsX0_solve ({ frames := 3, cells := 0, slots := 0, locals := 73 })).room s m ([.ref (ad 87), .ref (ad 1), .int (nI (r)), .int (d)] : List Value).toArray below meth c H locs 0 0 (MQ below (qV nW D cA ad s.heap.size I J (soR (soK (flO I r (dmF d) X 9) 9) 9)) ([.ref (ad 87), .ref (ad 1), .int (nI (r)), .int (d)] : List Value).toArray s 0 0 (fr nW ad s.heap.size)) (F0 m 0 ls []) from K _ _ hP hS
  clear hP hS hS0
  intro H locs hP hS
  refine lv_aload_n hx hb dX0_solve_0 rfl (lv_at hl 0 rfl) ?_
  refine lv_aload_n hx hb dX0_solve_1 rfl (lv_at hl 1 rfl) ?_
  refine lv_iload_n hx hb dX0_solve_2 rfl (lv_at hl 2 rfl) ?_
  refine lv_iload_n hx hb dX0_solve_3 rfl (lv_at hl 3 rfl) ?_
  refine w_callv (va_runV (As := [.ref (ad 1), .int (nI (r)), .int (d)]) (rest := []) ⟨hx, hb, hml, hown, hts⟩ (c_X0_fill l nW D cA ad hi hNW I J X H.size r d (by omega) hF) (cwV 3 hts gX0_solve_X0_fill rfl rfl rfl (by decide +kernel) ⟨Nat.le_of_ble_eq_true rfl, Nat.le_of_ble_eq_true rfl⟩) (w_preV hK hP 87 (by omega) ⟨rfl, rfl⟩ rfl) rfl rfl hl.1 rfl (lv_room (Nat.le_of_ble_eq_true rfl)) dX0_solve_4 ⟨Nat.le_of_ble_eq_true rfl, Nat.le_of_ble_eq_true rfl⟩) hS (fun H locs hP hS => ?_)
  refine lv_iconst (v := 0) hx hb dX0_solve_7 (by decide) ?_
  refine lv_istore (lv' := [(4, .int (0)), (0, .ref (ad 87)), (1, .ref (ad 1)), (2, .int (nI (r))), (3, .int (d))]) hx hb dX0_solve_8 hl (by decide) rfl (fun ls hl => ?_)
  refine lp_X0_solve_A hi hNW hx hb hml hown hts hK I J (flO I r (dmF d) X 9) hSo.1 (fun  H locs hP hS ls hl => ?_) (9) (0) (by omega)  H locs (w_cong (I1 := I) (J1 := J) (X1 := (soK (flO I r (dmF d) X 9) 0)) hP ⟨rfl, rfl, (by subst_vars; rfl)⟩) hS ls (lv_cong (l := [(4, .int (0)), (0, .ref (ad 87))]) (l' := [(4, .int (nI (0))), (0, .ref (ad 87))]) (lv_sub hl [0, 1] rfl) (by subst_vars; rfl))
  refine lv_bipush (v := 8) hx hb dX0_solve_29 (by decide) ?_
  refine lv_istore (lv' := [(4, .int (8)), (0, .ref (ad 87))]) hx hb dX0_solve_31 hl (by decide) rfl (fun ls hl => ?_)
  refine lp_X0_solve_B hi hNW hx hb hml hown hts hK I J (soK (flO I r (dmF d) X 9) 9) hSo.2 (fun  H locs hP hS ls hl => ?_) (9) (0) (by omega)  H locs (w_cong (I1 := I) (J1 := J) (X1 := (soR (soK (flO I r (dmF d) X 9) 9) 0)) hP ⟨rfl, rfl, (by first | rfl | (decide +kernel))⟩) hS ls (lv_cong (l := [(4, .int (8)), (0, .ref (ad 87))]) (l' := [(4, .int (dnI 0)), (0, .ref (ad 87))]) (lv_sub hl [0, 1] rfl) (by first | rfl | (decide +kernel)))
  exact w_vret hx hb hr hlocks hK hP hS ⟨by subst_vars; rfl, by subst_vars; rfl, by subst_vars; rfl⟩ dX0_solve_50

theorem inX0_solutionOf_X0 : ∀ w ∈ wsX00, w ∈ wsX0_solutionOf := by decide +kernel
set_option maxHeartbeats 4000000 in
set_option maxRecDepth 100000 in
/-- X0_solutionOf -/
theorem c_X0_solutionOf (l : Launch) (nW : Nat) (D : va_G) (cA : Nat → ClassId) (ad : Nat → Nat) (hi : inj nW ad) (hNW : 102 ≤ nW) (I : SI) (J : SJ) (X : SX) (sz : Nat) (n : Nat) (hn9 : n < 9) : Met l yX0_solutionOf wsX0_solutionOf ({ frames := 0, cells := 0, slots := 0, locals := 0 }) (va_Pc [.ref (ad 87), .int (nI (n))] (wPre nW D cA ad I J X sz)) (qD nW D cA ad sz (X 99 n) I J X) 0 0 (fr nW ad sz) := by
  refine Met.ofW (cc := cX0_solutionOf) (maxL := 2) (ret := (some .double)) (by decide) rfl ?_
  intro p e s m args below meth c s₁ B hml hv
  obtain ⟨rfl, rfl, hP, hK⟩ := hv
  have hx := B.exec
  have hb := B.bytes
  have hr := B.returns
  have hts := atoms_spec (ws := wsX0_solutionOf) B.pre
  have hown : s.vm.findClass RX0 = some m.cls := findClass_of_methodNamed B.named
  have hlocks := B.notSynchronized
  have hS : va_S (fr nW ad s.heap.size) s.heap s.heap [] := va_S.rf
  have hA : ∀ k, k < nW → fr nW ad s.heap.size (ad k) := fr_ad
  have hl := lv_entry ([.ref (ad 87), .int (nI (n))]) (n := 2) (Nat.le_of_ble_eq_true rfl)
  rw [lg_entry_eq]
  generalize (lg_sl ([.ref (ad 87), .int (nI (n))]) ++ List.replicate (2 - (lg_sl ([.ref (ad 87), .int (nI (n))])).length) Slot.unset).toArray = ls at hl ⊢
  have hl : lv_has ls 2 [(0, .ref (ad 87)), (1, .int (nI (n)))] := hl
  have hS0 := hS
  suffices K : ∀ (H : Heap) (locs : List Loc), WP nW D cA ad I J X H → va_S (fr nW ad s.heap.size) s.heap H locs → W p l e (headSpec wsX0_solutionOf ({ frames := 0, cells := 0, slots := 0, locals := 0 })).room s m ([.ref (ad 87), .int (nI (n))] : List Value).toArray below meth c H locs 0 0 (MQ below (qD nW D cA ad s.heap.size (X 99 n) I J X) ([.ref (ad 87), .int (nI (n))] : List Value).toArray s 0 0 (fr nW ad s.heap.size)) (F0 m 0 ls []) from K _ _ hP hS
  clear hP hS hS0
  intro H locs hP hS
  refine lv_aload_n hx hb dX0_solutionOf_0 rfl (lv_at hl 0 rfl) ?_
  refine w_get (C := RX0) (T := TX0) (N := 3) (v := .ref (ad 99)) (index := 20) hx hb hts inX0_solutionOf_X0 hown hK hP 87 2 ⟨rfl, rfl, by decide⟩ (by omega) rfl (List.mem_of_getElem? (i := 1) rfl) (fun _ h9 => h9) dX0_solutionOf_1 ?_
  refine lv_iload_n hx hb dX0_solutionOf_4 rfl (lv_at hl 1 rfl) ?_
  refine w_dald hx hb hK hP 99 (n) ⟨rfl, (by show n < 9; omega)⟩ (by omega) rfl dX0_solutionOf_5 ?_
  exact w_dret hx hb hr hlocks hK hP hS ⟨by subst_vars; rfl, by subst_vars; rfl, by subst_vars; rfl, by subst_vars; rfl⟩ dX0_solutionOf_6

theorem inX4_share_X0 : ∀ w ∈ wsX00, w ∈ wsX4_share := by decide +kernel
theorem inX4_share_X1 : ∀ w ∈ wsX10, w ∈ wsX4_share := by decide +kernel
theorem inX4_share_X4 : ∀ w ∈ wsX40, w ∈ wsX4_share := by decide +kernel
set_option maxHeartbeats 4000000 in
set_option maxRecDepth 100000 in
/-- X4_share -/
theorem c_X4_share_ok (l : Launch) (nW : Nat) (D : va_G) (cA : Nat → ClassId) (ad : Nat → Nat) (hi : inj nW ad) (hNW : 102 ≤ nW) (I : SI) (J : SJ) (X : SX) (sz : Nat) (r n : Nat) (hr4 : r < 4) (hn9 : n < 9) (hF : FlOK I r (I 0 5)) (hSo : SoOK (flO I r (dmF (I 0 5)) X 9)) : Met l yX4_share wsX4_share ({ frames := 4, cells := 0, slots := 0, locals := 97 }) (va_Pc [.ref (ad 0), .int (nI (r)), .int (nI (n))] (wPre nW D cA ad I J X sz)) (qD nW D cA ad sz ((soR (soK (flO I r (dmF (I 0 5)) X 9) 9) 9) 99 n) I J (soR (soK (flO I r (dmF (I 0 5)) X 9) 9) 9)) 0 0 (fr nW ad sz) := by
  refine Met.ofW (cc := cX4_share) (maxL := 3) (ret := (some .double)) (by decide) rfl ?_
  intro p e s m args below meth c s₁ B hml hv
  obtain ⟨rfl, rfl, hP, hK⟩ := hv
  have hx := B.exec
  have hb := B.bytes
  have hr := B.returns
  have hts := atoms_spec (ws := wsX4_share) B.pre
  have hown : s.vm.findClass RX4 = some m.cls := findClass_of_methodNamed B.named
  have hlocks := B.notSynchronized
  have hS : va_S (fr nW ad s.heap.size) s.heap s.heap [] := va_S.rf
  have hA : ∀ k, k < nW → fr nW ad s.heap.size (ad k) := fr_ad
  have hl := lv_entry ([.ref (ad 0), .int (nI (r)), .int (nI (n))]) (n := 3) (Nat.le_of_ble_eq_true rfl)
  rw [lg_entry_eq]
  generalize (lg_sl ([.ref (ad 0), .int (nI (r)), .int (nI (n))]) ++ List.replicate (3 - (lg_sl ([.ref (ad 0), .int (nI (r)), .int (nI (n))])).length) Slot.unset).toArray = ls at hl ⊢
  have hl : lv_has ls 3 [(0, .ref (ad 0)), (1, .int (nI (r))), (2, .int (nI (n)))] := hl
  have hS0 := hS
  suffices K : ∀ (H : Heap) (locs : List Loc), WP nW D cA ad I J X H → va_S (fr nW ad s.heap.size) s.heap H locs → W p l e (headSpec wsX4_share ({ frames := 4, cells := 0, slots := 0, locals := 97 })).room s m ([.ref (ad 0), .int (nI (r)), .int (nI (n))] : List Value).toArray below meth c H locs 0 0 (MQ below (qD nW D cA ad s.heap.size ((soR (soK (flO I r (dmF (I 0 5)) X 9) 9) 9) 99 n) I J (soR (soK (flO I r (dmF (I 0 5)) X 9) 9) 9)) ([.ref (ad 0), .int (nI (r)), .int (nI (n))] : List Value).toArray s 0 0 (fr nW ad s.heap.size)) (F0 m 0 ls []) from K _ _ hP hS
  clear hP hS hS0
  intro H locs hP hS
  refine lv_iload_n hx hb dX4_share_0 rfl (lv_at hl 1 rfl) ?_
  refine w_callv (va_runS (As := [.int (nI (r))]) (rest := []) ⟨hx, hb, hml, hown, hts⟩ (c_X4_checkReader l nW D cA ad hi hNW I J X H.size r (by omega)) (va_cwS 1 hts gX4_share_X4_checkReader rfl rfl rfl (by decide +kernel) ⟨Nat.le_of_ble_eq_true rfl, Nat.le_of_ble_eq_true rfl⟩) (w_preS hK hP) rfl rfl hl.1 rfl (lv_room (Nat.le_of_ble_eq_true rfl)) dX4_share_1 ⟨Nat.le_of_ble_eq_true rfl, Nat.le_of_ble_eq_true rfl⟩) hS (fun H locs hP hS => ?_)
  refine lv_iload_n hx hb dX4_share_4 rfl (lv_at hl 2 rfl) ?_
  refine w_callv (va_runS (As := [.int (nI (n))]) (rest := []) ⟨hx, hb, hml, hown, hts⟩ (c_X4_checkNode l nW D cA ad hi hNW I J X H.size n (by omega)) (va_cwS 1 hts gX4_share_X4_checkNode rfl rfl rfl (by decide +kernel) ⟨Nat.le_of_ble_eq_true rfl, Nat.le_of_ble_eq_true rfl⟩) (w_preS hK hP) rfl rfl hl.1 rfl (lv_room (Nat.le_of_ble_eq_true rfl)) dX4_share_5 ⟨Nat.le_of_ble_eq_true rfl, Nat.le_of_ble_eq_true rfl⟩) hS (fun H locs hP hS => ?_)
  refine lv_aload_n hx hb dX4_share_8 rfl (lv_at hl 0 rfl) ?_
  refine w_get (C := RX4) (T := TX4) (N := 7) (v := .ref (ad 87)) (index := 32) hx hb hts inX4_share_X4 hown hK hP 0 3 ⟨rfl, rfl, by decide⟩ (by omega) rfl (List.mem_of_getElem? (i := 1) rfl) (fun _ h9 => h9) dX4_share_9 ?_
  refine lv_aload_n hx hb dX4_share_12 rfl (lv_at hl 0 rfl) ?_
  refine w_get (C := RX4) (T := TX4) (N := 7) (v := .ref (ad 1)) (index := 12) hx hb hts inX4_share_X4 hown hK hP 0 0 ⟨rfl, rfl, by decide⟩ (by omega) rfl (List.mem_of_getElem? (i := 2) rfl) (fun _ h9 => h9) dX4_share_13 ?_
  refine lv_iload_n hx hb dX4_share_16 rfl (lv_at hl 1 rfl) ?_
  refine lv_aload_n hx hb dX4_share_17 rfl (lv_at hl 0 rfl) ?_
  refine w_get (C := RX4) (T := TX4) (N := 7) (v := .int (I 0 5)) (index := 43) hx hb hts inX4_share_X4 hown hK hP 0 5 ⟨rfl, rfl, by decide⟩ (by omega) rfl (List.mem_of_getElem? (i := 3) rfl) (fun _ h9 => h9) dX4_share_18 ?_
  refine w_callv (va_runV (As := [.ref (ad 1), .int (nI (r)), .int (I 0 5)]) (rest := []) ⟨hx, hb, hml, hown, hts⟩ (c_X0_solve l nW D cA ad hi hNW I J X H.size r (I 0 5) (by omega) hF hSo) (cwV 3 hts gX4_share_X0_solve rfl rfl rfl (by decide +kernel) ⟨Nat.le_of_ble_eq_true rfl, Nat.le_of_ble_eq_true rfl⟩) (w_preV hK hP 87 (by omega) ⟨rfl, rfl⟩ rfl) rfl rfl hl.1 rfl (lv_room (Nat.le_of_ble_eq_true rfl)) dX4_share_21 ⟨Nat.le_of_ble_eq_true rfl, Nat.le_of_ble_eq_true rfl⟩) hS (fun H locs hP hS => ?_)
  refine lv_aload_n hx hb dX4_share_24 rfl (lv_at hl 0 rfl) ?_
  refine w_get (C := RX4) (T := TX4) (N := 7) (v := .ref (ad 87)) (index := 32) hx hb hts inX4_share_X4 hown hK hP 0 3 ⟨rfl, rfl, by decide⟩ (by omega) rfl (List.mem_of_getElem? (i := 1) rfl) (fun _ h9 => h9) dX4_share_25 ?_
  refine lv_iload_n hx hb dX4_share_28 rfl (lv_at hl 2 rfl) ?_
  refine w_calld (va_runV (As := [.int (nI (n))]) (rest := []) ⟨hx, hb, hml, hown, hts⟩ (c_X0_solutionOf l nW D cA ad hi hNW I J (soR (soK (flO I r (dmF (I 0 5)) X 9) 9) 9) H.size n (by omega)) (cwV 1 hts gX4_share_X0_solutionOf rfl rfl rfl (by decide +kernel) ⟨Nat.le_of_ble_eq_true rfl, Nat.le_of_ble_eq_true rfl⟩) (w_preV hK hP 87 (by omega) ⟨rfl, rfl⟩ rfl) rfl rfl hl.1 rfl (lv_room (Nat.le_of_ble_eq_true rfl)) dX4_share_29 ⟨Nat.le_of_ble_eq_true rfl, Nat.le_of_ble_eq_true rfl⟩) hS (fun H locs hP hS => ?_)
  exact w_dret hx hb hr hlocks hK hP hS ⟨by subst_vars; rfl, by subst_vars; rfl, by subst_vars; rfl, by subst_vars; rfl⟩ dX4_share_32

set_option maxHeartbeats 4000000 in
set_option maxRecDepth 100000 in
/-- X4_share throws -/
theorem x_X4_share_1 (l : Launch) (hst : l.stackTraces = false) (nW : Nat) (D : va_G) (cA : Nat → ClassId) (ad : Nat → Nat) (hi : inj nW ad) (hNW : 102 ≤ nW) (I : SI) (J : SJ) (X : SX) (sz : Nat) (r n : Int32) (hp : inF r 0 3 = 0) : vx_Met l yX4_share wsX4_share ({ frames := 7, cells := 1, slots := 6, locals := 102 }) (va_Pc [.ref (ad 0), .int (r), .int (n)] (wPreX nW D cA ad I J X sz)) (nDbl nW ad sz) (xT nW D cA ad sz eI I J X) 1 6 (fr nW ad sz) := by
  refine vx_ofW (cc := cX4_share) (maxL := 3) (ret := (some .double)) (by decide) rfl ?_
  intro p e s m args below meth c s₁ B hml htab hv
  obtain ⟨rfl, ⟨rfl, hP, hK⟩, hX⟩ := hv
  have hx := B.exec
  have hb := B.bytes
  have hr := B.returns
  have hts := atoms_spec (ws := wsX4_share) B.pre
  have hown : s.vm.findClass RX4 = some m.cls := findClass_of_methodNamed B.named
  have hlocks := B.notSynchronized
  have hS : va_S (fr nW ad s.heap.size) s.heap s.heap [] := va_S.rf
  have hA : ∀ k, k < nW → fr nW ad s.heap.size (ad k) := fr_ad
  have hl := lv_entry ([.ref (ad 0), .int (r), .int (n)]) (n := 3) (Nat.le_of_ble_eq_true rfl)
  rw [lg_entry_eq]
  generalize (lg_sl ([.ref (ad 0), .int (r), .int (n)]) ++ List.replicate (3 - (lg_sl ([.ref (ad 0), .int (r), .int (n)])).length) Slot.unset).toArray = ls at hl ⊢
  have hl : lv_has ls 3 [(0, .ref (ad 0)), (1, .int (r)), (2, .int (n))] := hl
  suffices K : ∀ (H : Heap) (locs : List Loc), WP nW D cA ad I J X H → va_S (fr nW ad s.heap.size) s.heap H locs → W p l e (headSpec wsX4_share ({ frames := 7, cells := 1, slots := 6, locals := 102 })).room s m ([.ref (ad 0), .int (r), .int (n)] : List Value).toArray below meth c H locs 0 0 (vx_MQ below (nDbl nW ad s.heap.size) (xT nW D cA ad s.heap.size eI I J X) ([.ref (ad 0), .int (r), .int (n)] : List Value).toArray s 1 6 (fr nW ad s.heap.size)) (F0 m 0 ls []) from K _ _ hP hS
  clear hP hS
  intro H locs hP hS
  refine lv_iload_n hx hb dX4_share_0 rfl (lv_at hl 1 rfl) ?_
  exact w_callxV (vx_runS (As := [.int (r)]) (rest := []) ⟨hx, hb, hml, hown, hts⟩ (x_X4_checkReader l hst nW D cA ad hi hNW I J X H.size r hp) (va_cwS 1 hts gX4_share_X4_checkReader rfl rfl rfl (by decide +kernel) ⟨Nat.le_of_ble_eq_true rfl, Nat.le_of_ble_eq_true rfl⟩) (w_preSX hK hP hX hS) rfl rfl hl.1 rfl (lv_room (Nat.le_of_ble_eq_true rfl)) dX4_share_1 ⟨Nat.le_of_ble_eq_true rfl, Nat.le_of_ble_eq_true rfl⟩) hK hS htab hlocks (Nat.le_of_ble_eq_true rfl) (Nat.le_of_ble_eq_true rfl)

set_option maxHeartbeats 4000000 in
set_option maxRecDepth 100000 in
/-- X4_share throws -/
theorem x_X4_share_2 (l : Launch) (hst : l.stackTraces = false) (nW : Nat) (D : va_G) (cA : Nat → ClassId) (ad : Nat → Nat) (hi : inj nW ad) (hNW : 102 ≤ nW) (I : SI) (J : SJ) (X : SX) (sz : Nat) (r : Nat) (hr4 : r < 4) (n : Int32) (hp : inF n 0 8 = 0) : vx_Met l yX4_share wsX4_share ({ frames := 7, cells := 1, slots := 6, locals := 102 }) (va_Pc [.ref (ad 0), .int (nI (r)), .int (n)] (wPreX nW D cA ad I J X sz)) (nDbl nW ad sz) (xT nW D cA ad sz eI I J X) 1 6 (fr nW ad sz) := by
  refine vx_ofW (cc := cX4_share) (maxL := 3) (ret := (some .double)) (by decide) rfl ?_
  intro p e s m args below meth c s₁ B hml htab hv
  obtain ⟨rfl, ⟨rfl, hP, hK⟩, hX⟩ := hv
  have hx := B.exec
  have hb := B.bytes
  have hr := B.returns
  have hts := atoms_spec (ws := wsX4_share) B.pre
  have hown : s.vm.findClass RX4 = some m.cls := findClass_of_methodNamed B.named
  have hlocks := B.notSynchronized
  have hS : va_S (fr nW ad s.heap.size) s.heap s.heap [] := va_S.rf
  have hA : ∀ k, k < nW → fr nW ad s.heap.size (ad k) := fr_ad
  have hl := lv_entry ([.ref (ad 0), .int (nI (r)), .int (n)]) (n := 3) (Nat.le_of_ble_eq_true rfl)
  rw [lg_entry_eq]
  generalize (lg_sl ([.ref (ad 0), .int (nI (r)), .int (n)]) ++ List.replicate (3 - (lg_sl ([.ref (ad 0), .int (nI (r)), .int (n)])).length) Slot.unset).toArray = ls at hl ⊢
  have hl : lv_has ls 3 [(0, .ref (ad 0)), (1, .int (nI (r))), (2, .int (n))] := hl
  suffices K : ∀ (H : Heap) (locs : List Loc), WP nW D cA ad I J X H → va_S (fr nW ad s.heap.size) s.heap H locs → W p l e (headSpec wsX4_share ({ frames := 7, cells := 1, slots := 6, locals := 102 })).room s m ([.ref (ad 0), .int (nI (r)), .int (n)] : List Value).toArray below meth c H locs 0 0 (vx_MQ below (nDbl nW ad s.heap.size) (xT nW D cA ad s.heap.size eI I J X) ([.ref (ad 0), .int (nI (r)), .int (n)] : List Value).toArray s 1 6 (fr nW ad s.heap.size)) (F0 m 0 ls []) from K _ _ hP hS
  clear hP hS
  intro H locs hP hS
  refine lv_iload_n hx hb dX4_share_0 rfl (lv_at hl 1 rfl) ?_
  refine w_callv (va_runS (As := [.int (nI (r))]) (rest := []) ⟨hx, hb, hml, hown, hts⟩ (c_X4_checkReader l nW D cA ad hi hNW I J X H.size r (by omega)) (va_cwS 1 hts gX4_share_X4_checkReader rfl rfl rfl (by decide +kernel) ⟨Nat.le_of_ble_eq_true rfl, Nat.le_of_ble_eq_true rfl⟩) (w_preS hK hP) rfl rfl hl.1 rfl (lv_room (Nat.le_of_ble_eq_true rfl)) dX4_share_1 ⟨Nat.le_of_ble_eq_true rfl, Nat.le_of_ble_eq_true rfl⟩) hS (fun H locs hP hS => ?_)
  refine lv_iload_n hx hb dX4_share_4 rfl (lv_at hl 2 rfl) ?_
  exact w_callxV (vx_runS (As := [.int (n)]) (rest := []) ⟨hx, hb, hml, hown, hts⟩ (x_X4_checkNode l hst nW D cA ad hi hNW I J X H.size n hp) (va_cwS 1 hts gX4_share_X4_checkNode rfl rfl rfl (by decide +kernel) ⟨Nat.le_of_ble_eq_true rfl, Nat.le_of_ble_eq_true rfl⟩) (w_preSX hK hP hX hS) rfl rfl hl.1 rfl (lv_room (Nat.le_of_ble_eq_true rfl)) dX4_share_5 ⟨Nat.le_of_ble_eq_true rfl, Nat.le_of_ble_eq_true rfl⟩) hK hS htab hlocks (Nat.le_of_ble_eq_true rfl) (Nat.le_of_ble_eq_true rfl)
