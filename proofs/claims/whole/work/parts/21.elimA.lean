/-! the class's elimination -/
/-- a divisor that is taken as it is -/
def dvOK (x y : UInt64) : Prop := ¬ Op.cmpValue (FP.dcmp y FP.dconst0) CmpOp.l = 0 ∧ vf_n64 (FP.ddiv x y)
/-- less a product: both numbers -/
def msOK (a f b : UInt64) : Prop := vf_n64 (FP.dmul f b) ∧ vf_n64 (FP.dsub a (FP.dmul f b))
def ms (a f b : UInt64) : UInt64 := FP.dsub a (FP.dmul f b)
def psF (I : SI) (r n o : Nat) : UInt64 := if I 29 n = 0 then (if o = r then FP.dconst1 else FP.dconst0) else FP.ddiv (FP.i2d (I (9 + n) o)) (FP.i2d (I 29 n))
def dgF (i j : Nat) : UInt64 := if i = j then FP.dconst1 else FP.dconst0
def dmF (d : Int32) : UInt64 := FP.ddiv (FP.i2d d) 4636737291354636288
def flJ (I : SI) (r : Nat) (dm : UInt64) (i : Nat) (X : SX) : Nat → SX
  | 0 => X
  | j + 1 => st2 (flJ I r dm i X j) (89 + i) j (ms (dgF i j) dm (psF I r j i))
def rtF (r : Nat) (dm : UInt64) (i : Nat) : UInt64 := if i = r then FP.dsub FP.dconst1 dm else FP.dconst0
def flO (I : SI) (r : Nat) (dm : UInt64) (X : SX) : Nat → SX
  | 0 => X
  | i + 1 => st2 (flJ I r dm i (flO I r dm X i) 9) 98 i (rtF r dm i)
def FlOK (I : SI) (r : Nat) (d : Int32) : Prop := vf_n64 (dmF d) ∧ (∀ n o, n < 9 → o < 9 → ¬ I 29 n = 0 → dvOK (FP.i2d (I (9 + n) o)) (FP.i2d (I 29 n))) ∧ (∀ i j, i < 9 → j < 9 → msOK (dgF i j) (dmF d) (psF I r j i)) ∧ vf_n64 (FP.dsub FP.dconst1 (dmF d))

set_option maxHeartbeats 4000000 in
set_option maxRecDepth 100000 in
/-- X0_quotient -/
theorem c_X0_quotient (l : Launch) (nW : Nat) (D : va_G) (cA : Nat → ClassId) (ad : Nat → Nat) (hi : inj nW ad) (hNW : 102 ≤ nW) (I : SI) (J : SJ) (X : SX) (sz : Nat) (x y : UInt64) (h : dvOK x y) : Met l yX0_quotient wsX0_quotient ({ frames := 0, cells := 0, slots := 0, locals := 0 }) (va_Pc [.double (x), .double (y)] (wPre nW D cA ad I J X sz)) (qD nW D cA ad sz (FP.ddiv x y) I J X) 0 0 (fr nW ad sz) := by
  refine Met.ofW (cc := cX0_quotient) (maxL := 4) (ret := (some .double)) (by decide) rfl ?_
  intro p e s m args below meth c s₁ B hml hv
  obtain ⟨rfl, rfl, hP, hK⟩ := hv
  have hx := B.exec
  have hb := B.bytes
  have hr := B.returns
  have hts := atoms_spec (ws := wsX0_quotient) B.pre
  have hown : s.vm.findClass RX0 = some m.cls := findClass_of_methodNamed B.named
  have hlocks := B.notSynchronized
  have hS : va_S (fr nW ad s.heap.size) s.heap s.heap [] := va_S.rf
  have hA : ∀ k, k < nW → fr nW ad s.heap.size (ad k) := fr_ad
  have hl := lv_entry ([.double (x), .double (y)]) (n := 4) (Nat.le_of_ble_eq_true rfl)
  rw [lg_entry_eq]
  generalize (lg_sl ([.double (x), .double (y)]) ++ List.replicate (4 - (lg_sl ([.double (x), .double (y)])).length) Slot.unset).toArray = ls at hl ⊢
  have hl : lv_has ls 4 [(0, .double (x)), (2, .double (y))] := hl
  have hS0 := hS
  suffices K : ∀ (H : Heap) (locs : List Loc), WP nW D cA ad I J X H → va_S (fr nW ad s.heap.size) s.heap H locs → W p l e (headSpec wsX0_quotient ({ frames := 0, cells := 0, slots := 0, locals := 0 })).room s m ([.double (x), .double (y)] : List Value).toArray below meth c H locs 0 0 (MQ below (qD nW D cA ad s.heap.size (FP.ddiv x y) I J X) ([.double (x), .double (y)] : List Value).toArray s 0 0 (fr nW ad s.heap.size)) (F0 m 0 ls []) from K _ _ hP hS
  clear hP hS hS0
  intro H locs hP hS
  refine lv_dload_n hx hb dX0_quotient_0 rfl (lv_at hl 1 rfl) ?_
  refine lv_dconst0 hx hb dX0_quotient_1 ?_
  refine lv_dcmp hx hb dX0_quotient_2 ?_
  refine lv_if_ne (tgt := 10) hx hb dX0_quotient_3 (by decide) (fun c3 => ?_) (fun c3 => ?_)
  · refine lv_dload_n hx hb dX0_quotient_10 rfl (lv_at hl 0 rfl) ?_
    refine lv_dload_n hx hb dX0_quotient_11 rfl (lv_at hl 1 rfl) ?_
    refine lv_ddiv hx hb dX0_quotient_12 h.2 ?_
    exact w_dret hx hb hr hlocks hK hP hS ⟨by subst_vars; rfl, by subst_vars; rfl, by subst_vars; rfl, by subst_vars; rfl⟩ dX0_quotient_13
  · exact absurd c3 h.1

theorem inX0_partSent_X1 : ∀ w ∈ wsX10, w ∈ wsX0_partSent := by decide +kernel
set_option maxHeartbeats 4000000 in
set_option maxRecDepth 100000 in
/-- X0_partSent -/
theorem c_X0_partSent (l : Launch) (nW : Nat) (D : va_G) (cA : Nat → ClassId) (ad : Nat → Nat) (hi : inj nW ad) (hNW : 102 ≤ nW) (I : SI) (J : SJ) (X : SX) (sz : Nat) (r n o : Nat) (hr4 : r < 4) (hn9 : n < 9) (ho9 : o < 9) (h : ¬ I 29 n = 0 → dvOK (FP.i2d (I (9 + n) o)) (FP.i2d (I 29 n))) : Met l yX0_partSent wsX0_partSent ({ frames := 1, cells := 0, slots := 0, locals := 23 }) (va_Pc [.ref (ad 1), .int (nI (r)), .int (nI (n)), .int (nI (o))] (wPre nW D cA ad I J X sz)) (qD nW D cA ad sz (psF I r n o) I J X) 0 0 (fr nW ad sz) := by
  refine Met.ofW (cc := cX0_partSent) (maxL := 4) (ret := (some .double)) (by decide) rfl ?_
  intro p e s m args below meth c s₁ B hml hv
  obtain ⟨rfl, rfl, hP, hK⟩ := hv
  have hx := B.exec
  have hb := B.bytes
  have hr := B.returns
  have hts := atoms_spec (ws := wsX0_partSent) B.pre
  have hown : s.vm.findClass RX0 = some m.cls := findClass_of_methodNamed B.named
  have hlocks := B.notSynchronized
  have hS : va_S (fr nW ad s.heap.size) s.heap s.heap [] := va_S.rf
  have hA : ∀ k, k < nW → fr nW ad s.heap.size (ad k) := fr_ad
  have hl := lv_entry ([.ref (ad 1), .int (nI (r)), .int (nI (n)), .int (nI (o))]) (n := 4) (Nat.le_of_ble_eq_true rfl)
  rw [lg_entry_eq]
  generalize (lg_sl ([.ref (ad 1), .int (nI (r)), .int (nI (n)), .int (nI (o))]) ++ List.replicate (4 - (lg_sl ([.ref (ad 1), .int (nI (r)), .int (nI (n)), .int (nI (o))])).length) Slot.unset).toArray = ls at hl ⊢
  have hl : lv_has ls 4 [(0, .ref (ad 1)), (1, .int (nI (r))), (2, .int (nI (n))), (3, .int (nI (o)))] := hl
  have hS0 := hS
  suffices K : ∀ (H : Heap) (locs : List Loc), WP nW D cA ad I J X H → va_S (fr nW ad s.heap.size) s.heap H locs → W p l e (headSpec wsX0_partSent ({ frames := 1, cells := 0, slots := 0, locals := 23 })).room s m ([.ref (ad 1), .int (nI (r)), .int (nI (n)), .int (nI (o))] : List Value).toArray below meth c H locs 0 0 (MQ below (qD nW D cA ad s.heap.size (psF I r n o) I J X) ([.ref (ad 1), .int (nI (r)), .int (nI (n)), .int (nI (o))] : List Value).toArray s 0 0 (fr nW ad s.heap.size)) (F0 m 0 ls []) from K _ _ hP hS
  clear hP hS hS0
  intro H locs hP hS
  refine lv_aload_n hx hb dX0_partSent_0 rfl (lv_at hl 0 rfl) ?_
  refine lv_iload_n hx hb dX0_partSent_1 rfl (lv_at hl 2 rfl) ?_
  refine w_calli (va_runV (As := [.int (nI (n))]) (rest := []) ⟨hx, hb, hml, hown, hts⟩ (c_X1_weightOfAll l nW D cA ad hi hNW I J X H.size n (by omega)) (cwV 1 hts gX0_partSent_X1_weightOfAll rfl rfl rfl (by decide +kernel) ⟨Nat.le_of_ble_eq_true rfl, Nat.le_of_ble_eq_true rfl⟩) (w_preV hK hP 1 (by omega) ⟨rfl, rfl⟩ rfl) rfl rfl hl.1 rfl (lv_room (Nat.le_of_ble_eq_true rfl)) dX0_partSent_2 ⟨Nat.le_of_ble_eq_true rfl, Nat.le_of_ble_eq_true rfl⟩) hS (fun H locs hP hS => ?_)
  refine lv_if_ne (tgt := 19) hx hb dX0_partSent_5 (by decide) (fun c5 => ?_) (fun c5 => ?_)
  · refine lv_aload_n hx hb dX0_partSent_19 rfl (lv_at hl 0 rfl) ?_
    refine lv_iload_n hx hb dX0_partSent_20 rfl (lv_at hl 2 rfl) ?_
    refine lv_iload_n hx hb dX0_partSent_21 rfl (lv_at hl 3 rfl) ?_
    refine w_calli (va_runV (As := [.int (nI (n)), .int (nI (o))]) (rest := []) ⟨hx, hb, hml, hown, hts⟩ (c_X1_walkedWeight l nW D cA ad hi hNW I J X H.size n o (by omega) (by omega)) (cwV 2 hts gX0_partSent_X1_walkedWeight rfl rfl rfl (by decide +kernel) ⟨Nat.le_of_ble_eq_true rfl, Nat.le_of_ble_eq_true rfl⟩) (w_preV hK hP 1 (by omega) ⟨rfl, rfl⟩ rfl) rfl rfl hl.1 rfl (lv_room (Nat.le_of_ble_eq_true rfl)) dX0_partSent_22 ⟨Nat.le_of_ble_eq_true rfl, Nat.le_of_ble_eq_true rfl⟩) hS (fun H locs hP hS => ?_)
    refine lv_i2d hx hb dX0_partSent_25 ?_
    refine lv_aload_n hx hb dX0_partSent_26 rfl (lv_at hl 0 rfl) ?_
    refine lv_iload_n hx hb dX0_partSent_27 rfl (lv_at hl 2 rfl) ?_
    refine w_calli (va_runV (As := [.int (nI (n))]) (rest := [.double (FP.i2d (I (9 + n) o))]) ⟨hx, hb, hml, hown, hts⟩ (c_X1_weightOfAll l nW D cA ad hi hNW I J X H.size n (by omega)) (cwV 1 hts gX0_partSent_X1_weightOfAll rfl rfl rfl (by decide +kernel) ⟨Nat.le_of_ble_eq_true rfl, Nat.le_of_ble_eq_true rfl⟩) (w_preV hK hP 1 (by omega) ⟨rfl, rfl⟩ rfl) rfl rfl hl.1 rfl (lv_room (Nat.le_of_ble_eq_true rfl)) dX0_partSent_28 ⟨Nat.le_of_ble_eq_true rfl, Nat.le_of_ble_eq_true rfl⟩) hS (fun H locs hP hS => ?_)
    refine lv_i2d hx hb dX0_partSent_31 ?_
    refine w_calld (va_runS (As := [.double (FP.i2d (I (9 + n) o)), .double (FP.i2d (I 29 n))]) (rest := []) ⟨hx, hb, hml, hown, hts⟩ (c_X0_quotient l nW D cA ad hi hNW I J X H.size (FP.i2d (I (9 + n) o)) (FP.i2d (I 29 n)) (h c5)) (va_cwS 2 hts gX0_partSent_X0_quotient rfl rfl rfl (by decide +kernel) ⟨Nat.le_of_ble_eq_true rfl, Nat.le_of_ble_eq_true rfl⟩) (w_preS hK hP) rfl rfl hl.1 rfl (lv_room (Nat.le_of_ble_eq_true rfl)) dX0_partSent_32 ⟨Nat.le_of_ble_eq_true rfl, Nat.le_of_ble_eq_true rfl⟩) hS (fun H locs hP hS => ?_)
    exact w_dret hx hb hr hlocks hK hP hS ⟨by unfold psF; rw [if_neg c5], by subst_vars; rfl, by subst_vars; rfl, by subst_vars; rfl⟩ dX0_partSent_35
  · refine lv_iload_n hx hb dX0_partSent_8 rfl (lv_at hl 3 rfl) ?_
    refine lv_iload_n hx hb dX0_partSent_9 rfl (lv_at hl 1 rfl) ?_
    refine lv_icmp_ne (tgt := 17) hx hb dX0_partSent_10 (by decide) (fun c10 => ?_) (fun c10 => ?_)
    · have qc10 : ¬ o = r := fun z => c10 ((wn_eq (a := o) (b := r) rfl rfl (by omega) (by omega)).mpr z)
      refine lv_dconst0 hx hb dX0_partSent_17 ?_
      exact w_dret hx hb hr hlocks hK hP hS ⟨by unfold psF; rw [if_pos c5, if_neg qc10], by subst_vars; rfl, by subst_vars; rfl, by subst_vars; rfl⟩ dX0_partSent_18
    · have qc10 : o = r := (wn_eq (a := o) (b := r) rfl rfl (by omega) (by omega)).mp c10
      refine lv_dconst1 hx hb dX0_partSent_13 ?_
      refine lv_goto (tgt := 18) hx hb dX0_partSent_14 (by decide) ?_
      exact w_dret hx hb hr hlocks hK hP hS ⟨by unfold psF; rw [if_pos c5, if_pos qc10], by subst_vars; rfl, by subst_vars; rfl, by subst_vars; rfl⟩ dX0_partSent_18

theorem inX0_fill_X0 : ∀ w ∈ wsX00, w ∈ wsX0_fill := by decide +kernel
theorem inX0_fill_X1 : ∀ w ∈ wsX10, w ∈ wsX0_fill := by decide +kernel
set_option maxHeartbeats 4000000 in
set_option maxRecDepth 100000 in
theorem lp_X0_fill_B {p : Program} {l : Launch} {e : Env} {s : State} {m : MethodId} {args : Array Value} {below : List Frame} {meth : Method} {c : Code} {Q : State → Prop} {nW : Nat} {D : va_G} {cA : Nat → ClassId} {ad : Nat → Nat} (hi : inj nW ad) (hNW : 102 ≤ nW) (hx : p.tables.exec = Jvm.exec) (hb : c.code = cX0_fill) (hml : c.maxLocals = 8) (hown : s.vm.findClass RX0 = some m.cls) (hts : ∀ w ∈ wsX0_fill, w.before args s = true) (hK : WK D cA s) (I : SI) (J : SJ) (X : SX) (r i : Nat) (d : Int32) (hr4 : r < 4) (hi9 : i < 9) (hF : FlOK I r d) (kx :  ∀ (H : Heap) (locs : List Loc), WP nW D cA ad I J (flJ I r (dmF d) i (flO I r (dmF d) X i) (9)) H → va_S (fr nW ad s.heap.size) s.heap H locs → ∀ (ls : Array Slot), lv_has ls 8 [(6, .int (nI (i))), (4, .double (dmF d)), (1, .ref (ad 1)), (2, .int (nI (r))), (0, .ref (ad 87))] → W p l e (headSpec wsX0_fill ({ frames := 2, cells := 0, slots := 0, locals := 46 })).room s m args below meth c H locs 0 0 Q (F0 m 69 ls [])) : ∀ (t j : Nat), j + t = 9 →  ∀ (H : Heap) (locs : List Loc), WP nW D cA ad I J (flJ I r (dmF d) i (flO I r (dmF d) X i) (j)) H → va_S (fr nW ad s.heap.size) s.heap H locs → ∀ (ls : Array Slot), lv_has ls 8 [(7, .int (nI (j))), (6, .int (nI (i))), (4, .double (dmF d)), (1, .ref (ad 1)), (2, .int (nI (r))), (0, .ref (ad 87))] → W p l e (headSpec wsX0_fill ({ frames := 2, cells := 0, slots := 0, locals := 46 })).room s m args below meth c H locs 0 0 Q (F0 m 21 ls []) := by
  have hA : ∀ k, k < nW → fr nW ad s.heap.size (ad k) := fr_ad
  intro t
  induction t with
  | zero =>
    intro j hj  H locs hP hS ls hl
    obtain rfl : 9 = j := by omega
    refine lv_iload hx hb dX0_fill_21 (lv_at hl 0 rfl) ?_
    refine lv_bipush (v := 9) hx hb dX0_fill_23 (by decide) ?_
    refine lv_icmp_ge (tgt := 69) hx hb dX0_fill_25 (by decide) (fun cc => ?_) (fun cc => ?_)
    · have qcc : 9 ≤ 9 := (wn_le (a := 9) (b := 9) rfl rfl (by omega) (by omega)).mp cc
      exact kx  H locs hP hS ls (lv_sub hl [1, 2, 3, 4, 5] rfl)
    · have qcc : ¬ 9 ≤ 9 := fun z => cc ((wn_le (a := 9) (b := 9) rfl rfl (by omega) (by omega)).mpr z)
      exact absurd qcc (by omega)
  | succ t ih =>
    intro j hj  H locs hP hS ls hl
    refine lv_iload hx hb dX0_fill_21 (lv_at hl 0 rfl) ?_
    refine lv_bipush (v := 9) hx hb dX0_fill_23 (by decide) ?_
    refine lv_icmp_ge (tgt := 69) hx hb dX0_fill_25 (by decide) (fun cc => ?_) (fun cc => ?_)
    · have qcc : 9 ≤ j := (wn_le (a := 9) (b := j) rfl rfl (by omega) (by omega)).mp cc
      exact absurd qcc (by omega)
    · have qcc : ¬ 9 ≤ j := fun z => cc ((wn_le (a := 9) (b := j) rfl rfl (by omega) (by omega)).mpr z)
      refine lv_aload_n hx hb dX0_fill_28 rfl (lv_at hl 5 rfl) ?_
      refine w_get (C := RX0) (T := TX0) (N := 3) (v := .ref (ad 88)) (index := 11) hx hb hts inX0_fill_X0 hown hK hP 87 0 ⟨rfl, rfl, by decide⟩ (by omega) rfl (List.mem_of_getElem? (i := 2) rfl) (fun _ h9 => h9) dX0_fill_29 ?_
      refine lv_iload hx hb dX0_fill_32 (lv_at hl 1 rfl) ?_
      refine w_aald hx hb hK hP 88 (i) 89 6 ⟨rfl, (by show i < 9; omega), rfl, rfl, by decide, by decide⟩ (by omega) rfl dX0_fill_34 ?_
      refine lv_iload hx hb dX0_fill_35 (lv_at hl 0 rfl) ?_
      refine lv_iload hx hb dX0_fill_37 (lv_at hl 1 rfl) ?_
      refine lv_iload hx hb dX0_fill_39 (lv_at hl 0 rfl) ?_
      refine lv_icmp_ne (tgt := 48) hx hb dX0_fill_41 (by decide) (fun c41 => ?_) (fun c41 => ?_)
      · have qc41 : ¬ i = j := fun z => c41 ((wn_eq (a := i) (b := j) rfl rfl (by omega) (by omega)).mpr z)
        refine lv_dconst0 hx hb dX0_fill_48 ?_
        refine lv_dload hx hb dX0_fill_49 (lv_at hl 2 rfl) ?_
        refine lv_aload_n hx hb dX0_fill_51 rfl (lv_at hl 3 rfl) ?_
        refine lv_iload_n hx hb dX0_fill_52 rfl (lv_at hl 4 rfl) ?_
        refine lv_iload hx hb dX0_fill_53 (lv_at hl 0 rfl) ?_
        refine lv_iload hx hb dX0_fill_55 (lv_at hl 1 rfl) ?_
        refine w_calld (va_runS (As := [.ref (ad 1), .int (nI (r)), .int (nI (j)), .int (nI (i))]) (rest := [.double (dmF d), .double (FP.dconst0), .int (nI (j)), .ref (ad (89 + i))]) ⟨hx, hb, hml, hown, hts⟩ (c_X0_partSent l nW D cA ad hi hNW I J (flJ I r (dmF d) i (flO I r (dmF d) X i) (j)) H.size r j i (by omega) (by omega) (by omega) (fun z => hF.2.1 j i (by omega) hi9 z)) (va_cwS 4 hts gX0_fill_X0_partSent rfl rfl rfl (by decide +kernel) ⟨Nat.le_of_ble_eq_true rfl, Nat.le_of_ble_eq_true rfl⟩) (w_preS hK hP) rfl rfl hl.1 rfl (lv_room (Nat.le_of_ble_eq_true rfl)) dX0_fill_57 ⟨Nat.le_of_ble_eq_true rfl, Nat.le_of_ble_eq_true rfl⟩) hS (fun H locs hP hS => ?_)
        refine lv_dmul hx hb dX0_fill_60 (hF.2.2.1 i j hi9 (by omega)).1 ?_
        refine lv_dsub hx hb dX0_fill_61 (by have h9 := (hF.2.2.1 i j hi9 (by omega)).2; unfold dgF at h9; rw [if_neg qc41] at h9; exact h9) ?_
        refine w_dast (v := FP.dsub FP.dconst0 (FP.dmul (dmF d) (psF I r j i))) hx hb hK hP hi hA hS (89 + i) (j) (k_matR (by omega) (by omega)) (by omega) rfl dX0_fill_62 (fun H locs hP hS => ?_)
        obtain ⟨X_1, eX_1⟩ : ∃ y, y = st2 (flJ I r (dmF d) i (flO I r (dmF d) X i) (j)) (89 + i) (j) (FP.dsub FP.dconst0 (FP.dmul (dmF d) (psF I r j i))) := ⟨_, rfl⟩
        have hP : WP nW D cA ad I J X_1 H := by rw [eX_1]; exact hP
        refine lv_iinc (v := nI (j + 1)) (lv' := [(7, .int (nI (j + 1))), (6, .int (nI (i))), (4, .double (dmF d)), (1, .ref (ad 1)), (2, .int (nI (r))), (0, .ref (ad 87))]) hx hb dX0_fill_63 hl (k := 0) rfl (wn_inc rfl) (by decide) rfl (fun ls hl => ?_)
        refine lv_goto (tgt := 21) hx hb dX0_fill_66 (by decide) ?_
        exact ih (j + 1) (by omega)  H locs (w_cong (I1 := I) (J1 := J) (X1 := (flJ I r (dmF d) i (flO I r (dmF d) X i) ((j + 1)))) hP ⟨rfl, rfl, (by subst_vars; first | rfl | (simp only [flJ, ms, dgF, if_neg qc41]; done) | (simp only [flJ, ms, dgF, if_pos qc41]; done) | (simp only [flJ, ms, dgF, if_true]; done) | (simp only [flJ, ms, dgF, if_pos rfl]; done))⟩) hS ls (lv_cong (l := [(7, .int (nI (j + 1))), (6, .int (nI (i))), (4, .double (dmF d)), (1, .ref (ad 1)), (2, .int (nI (r))), (0, .ref (ad 87))]) (l' := [(7, .int (nI ((j + 1)))), (6, .int (nI (i))), (4, .double (dmF d)), (1, .ref (ad 1)), (2, .int (nI (r))), (0, .ref (ad 87))]) (lv_sub hl [0, 1, 2, 3, 4, 5] rfl) (by subst_vars; first | rfl | (simp only [flJ, ms, dgF, if_neg qc41]; done) | (simp only [flJ, ms, dgF, if_pos qc41]; done) | (simp only [flJ, ms, dgF, if_true]; done) | (simp only [flJ, ms, dgF, if_pos rfl]; done)))
      · have qc41 : i = j := (wn_eq (a := i) (b := j) rfl rfl (by omega) (by omega)).mp c41
        refine lv_dconst1 hx hb dX0_fill_44 ?_
        refine lv_goto (tgt := 49) hx hb dX0_fill_45 (by decide) ?_
        refine lv_dload hx hb dX0_fill_49 (lv_at hl 2 rfl) ?_
        refine lv_aload_n hx hb dX0_fill_51 rfl (lv_at hl 3 rfl) ?_
        refine lv_iload_n hx hb dX0_fill_52 rfl (lv_at hl 4 rfl) ?_
        refine lv_iload hx hb dX0_fill_53 (lv_at hl 0 rfl) ?_
        refine lv_iload hx hb dX0_fill_55 (lv_at hl 1 rfl) ?_
        refine w_calld (va_runS (As := [.ref (ad 1), .int (nI (r)), .int (nI (j)), .int (nI (i))]) (rest := [.double (dmF d), .double (FP.dconst1), .int (nI (j)), .ref (ad (89 + i))]) ⟨hx, hb, hml, hown, hts⟩ (c_X0_partSent l nW D cA ad hi hNW I J (flJ I r (dmF d) i (flO I r (dmF d) X i) (j)) H.size r j i (by omega) (by omega) (by omega) (fun z => hF.2.1 j i (by omega) hi9 z)) (va_cwS 4 hts gX0_fill_X0_partSent rfl rfl rfl (by decide +kernel) ⟨Nat.le_of_ble_eq_true rfl, Nat.le_of_ble_eq_true rfl⟩) (w_preS hK hP) rfl rfl hl.1 rfl (lv_room (Nat.le_of_ble_eq_true rfl)) dX0_fill_57 ⟨Nat.le_of_ble_eq_true rfl, Nat.le_of_ble_eq_true rfl⟩) hS (fun H locs hP hS => ?_)
        refine lv_dmul hx hb dX0_fill_60 (hF.2.2.1 i j hi9 (by omega)).1 ?_
        refine lv_dsub hx hb dX0_fill_61 (by have h9 := (hF.2.2.1 i j hi9 (by omega)).2; unfold dgF at h9; rw [if_pos qc41] at h9; exact h9) ?_
        refine w_dast (v := FP.dsub FP.dconst1 (FP.dmul (dmF d) (psF I r j i))) hx hb hK hP hi hA hS (89 + i) (j) (k_matR (by omega) (by omega)) (by omega) rfl dX0_fill_62 (fun H locs hP hS => ?_)
        obtain ⟨X_2, eX_2⟩ : ∃ y, y = st2 (flJ I r (dmF d) i (flO I r (dmF d) X i) (j)) (89 + i) (j) (FP.dsub FP.dconst1 (FP.dmul (dmF d) (psF I r j i))) := ⟨_, rfl⟩
        have hP : WP nW D cA ad I J X_2 H := by rw [eX_2]; exact hP
        refine lv_iinc (v := nI (j + 1)) (lv' := [(7, .int (nI (j + 1))), (6, .int (nI (i))), (4, .double (dmF d)), (1, .ref (ad 1)), (2, .int (nI (r))), (0, .ref (ad 87))]) hx hb dX0_fill_63 hl (k := 0) rfl (wn_inc rfl) (by decide) rfl (fun ls hl => ?_)
        refine lv_goto (tgt := 21) hx hb dX0_fill_66 (by decide) ?_
        exact ih (j + 1) (by omega)  H locs (w_cong (I1 := I) (J1 := J) (X1 := (flJ I r (dmF d) i (flO I r (dmF d) X i) ((j + 1)))) hP ⟨rfl, rfl, (by subst_vars; first | rfl | (simp only [flJ, ms, dgF, if_neg qc41]; done) | (simp only [flJ, ms, dgF, if_pos qc41]; done) | (simp only [flJ, ms, dgF, if_true]; done) | (simp only [flJ, ms, dgF, if_pos rfl]; done))⟩) hS ls (lv_cong (l := [(7, .int (nI (j + 1))), (6, .int (nI (i))), (4, .double (dmF d)), (1, .ref (ad 1)), (2, .int (nI (r))), (0, .ref (ad 87))]) (l' := [(7, .int (nI ((j + 1)))), (6, .int (nI (i))), (4, .double (dmF d)), (1, .ref (ad 1)), (2, .int (nI (r))), (0, .ref (ad 87))]) (lv_sub hl [0, 1, 2, 3, 4, 5] rfl) (by subst_vars; first | rfl | (simp only [flJ, ms, dgF, if_neg qc41]; done) | (simp only [flJ, ms, dgF, if_pos qc41]; done) | (simp only [flJ, ms, dgF, if_true]; done) | (simp only [flJ, ms, dgF, if_pos rfl]; done)))

set_option maxHeartbeats 4000000 in
set_option maxRecDepth 100000 in
theorem lp_X0_fill_A {p : Program} {l : Launch} {e : Env} {s : State} {m : MethodId} {args : Array Value} {below : List Frame} {meth : Method} {c : Code} {Q : State → Prop} {nW : Nat} {D : va_G} {cA : Nat → ClassId} {ad : Nat → Nat} (hi : inj nW ad) (hNW : 102 ≤ nW) (hx : p.tables.exec = Jvm.exec) (hb : c.code = cX0_fill) (hml : c.maxLocals = 8) (hown : s.vm.findClass RX0 = some m.cls) (hts : ∀ w ∈ wsX0_fill, w.before args s = true) (hK : WK D cA s) (I : SI) (J : SJ) (X : SX) (r : Nat) (d : Int32) (hr4 : r < 4) (hF : FlOK I r d) (kx :  ∀ (H : Heap) (locs : List Loc), WP nW D cA ad I J (flO I r (dmF d) X (9)) H → va_S (fr nW ad s.heap.size) s.heap H locs → ∀ (ls : Array Slot), lv_has ls 8 [(0, .ref (ad 87))] → W p l e (headSpec wsX0_fill ({ frames := 2, cells := 0, slots := 0, locals := 46 })).room s m args below meth c H locs 0 0 Q (F0 m 96 ls [])) : ∀ (t i : Nat), i + t = 9 →  ∀ (H : Heap) (locs : List Loc), WP nW D cA ad I J (flO I r (dmF d) X (i)) H → va_S (fr nW ad s.heap.size) s.heap H locs → ∀ (ls : Array Slot), lv_has ls 8 [(6, .int (nI (i))), (4, .double (dmF d)), (1, .ref (ad 1)), (2, .int (nI (r))), (0, .ref (ad 87))] → W p l e (headSpec wsX0_fill ({ frames := 2, cells := 0, slots := 0, locals := 46 })).room s m args below meth c H locs 0 0 Q (F0 m 11 ls []) := by
  have hA : ∀ k, k < nW → fr nW ad s.heap.size (ad k) := fr_ad
  intro t
  induction t with
  | zero =>
    intro i hj  H locs hP hS ls hl
    obtain rfl : 9 = i := by omega
    refine lv_iload hx hb dX0_fill_11 (lv_at hl 0 rfl) ?_
    refine lv_bipush (v := 9) hx hb dX0_fill_13 (by decide) ?_
    refine lv_icmp_ge (tgt := 96) hx hb dX0_fill_15 (by decide) (fun cc => ?_) (fun cc => ?_)
    · have qcc : 9 ≤ 9 := (wn_le (a := 9) (b := 9) rfl rfl (by omega) (by omega)).mp cc
      exact kx  H locs hP hS ls (lv_sub hl [4] rfl)
    · have qcc : ¬ 9 ≤ 9 := fun z => cc ((wn_le (a := 9) (b := 9) rfl rfl (by omega) (by omega)).mpr z)
      exact absurd qcc (by omega)
  | succ t ih =>
    intro i hj  H locs hP hS ls hl
    refine lv_iload hx hb dX0_fill_11 (lv_at hl 0 rfl) ?_
    refine lv_bipush (v := 9) hx hb dX0_fill_13 (by decide) ?_
    refine lv_icmp_ge (tgt := 96) hx hb dX0_fill_15 (by decide) (fun cc => ?_) (fun cc => ?_)
    · have qcc : 9 ≤ i := (wn_le (a := 9) (b := i) rfl rfl (by omega) (by omega)).mp cc
      exact absurd qcc (by omega)
    · have qcc : ¬ 9 ≤ i := fun z => cc ((wn_le (a := 9) (b := i) rfl rfl (by omega) (by omega)).mpr z)
      refine lv_iconst (v := 0) hx hb dX0_fill_18 (by decide) ?_
      refine lv_istore (lv' := [(7, .int (0)), (6, .int (nI (i))), (4, .double (dmF d)), (1, .ref (ad 1)), (2, .int (nI (r))), (0, .ref (ad 87))]) hx hb dX0_fill_19 hl (by decide) rfl (fun ls hl => ?_)
      refine lp_X0_fill_B hi hNW hx hb hml hown hts hK I J X r i d hr4 (by omega) hF (fun  H locs hP hS ls hl => ?_) (9) (0) (by omega)  H locs (w_cong (I1 := I) (J1 := J) (X1 := (flJ I r (dmF d) i (flO I r (dmF d) X i) (0))) hP ⟨rfl, rfl, (by subst_vars; rfl)⟩) hS ls (lv_cong (l := [(7, .int (0)), (6, .int (nI (i))), (4, .double (dmF d)), (1, .ref (ad 1)), (2, .int (nI (r))), (0, .ref (ad 87))]) (l' := [(7, .int (nI (0))), (6, .int (nI (i))), (4, .double (dmF d)), (1, .ref (ad 1)), (2, .int (nI (r))), (0, .ref (ad 87))]) (lv_sub hl [0, 1, 2, 3, 4, 5] rfl) (by subst_vars; rfl))
      refine lv_aload_n hx hb dX0_fill_69 rfl (lv_at hl 4 rfl) ?_
      refine w_get (C := RX0) (T := TX0) (N := 3) (v := .ref (ad 98)) (index := 16) hx hb hts inX0_fill_X0 hown hK hP 87 1 ⟨rfl, rfl, by decide⟩ (by omega) rfl (List.mem_of_getElem? (i := 3) rfl) (fun _ h9 => h9) dX0_fill_70 ?_
      refine lv_iload hx hb dX0_fill_73 (lv_at hl 0 rfl) ?_
      refine lv_iload hx hb dX0_fill_75 (lv_at hl 0 rfl) ?_
      refine lv_iload_n hx hb dX0_fill_77 rfl (lv_at hl 3 rfl) ?_
      refine lv_icmp_ne (tgt := 88) hx hb dX0_fill_78 (by decide) (fun c78 => ?_) (fun c78 => ?_)
      · have qc78 : ¬ i = r := fun z => c78 ((wn_eq (a := i) (b := r) rfl rfl (by omega) (by omega)).mpr z)
        refine lv_dconst0 hx hb dX0_fill_88 ?_
        refine w_dast (v := FP.dconst0) hx hb hK hP hi hA hS 98 (i) ⟨rfl, (by show i < 9; omega)⟩ (by omega) rfl dX0_fill_89 (fun H locs hP hS => ?_)
        obtain ⟨X_1, eX_1⟩ : ∃ y, y = st2 (flJ I r (dmF d) i (flO I r (dmF d) X i) (9)) 98 (i) (FP.dconst0) := ⟨_, rfl⟩
        have hP : WP nW D cA ad I J X_1 H := by rw [eX_1]; exact hP
        refine lv_iinc (v := nI (i + 1)) (lv' := [(6, .int (nI (i + 1))), (4, .double (dmF d)), (1, .ref (ad 1)), (2, .int (nI (r))), (0, .ref (ad 87))]) hx hb dX0_fill_90 hl (k := 0) rfl (wn_inc rfl) (by decide) rfl (fun ls hl => ?_)
        refine lv_goto (tgt := 11) hx hb dX0_fill_93 (by decide) ?_
        exact ih (i + 1) (by omega)  H locs (w_cong (I1 := I) (J1 := J) (X1 := (flO I r (dmF d) X ((i + 1)))) hP ⟨rfl, rfl, (by subst_vars; first | rfl | (simp only [flO, rtF, if_neg qc78]; done) | (simp only [flO, rtF, if_pos qc78]; done) | (simp only [flO, rtF, if_true]; done))⟩) hS ls (lv_cong (l := [(6, .int (nI (i + 1))), (4, .double (dmF d)), (1, .ref (ad 1)), (2, .int (nI (r))), (0, .ref (ad 87))]) (l' := [(6, .int (nI ((i + 1)))), (4, .double (dmF d)), (1, .ref (ad 1)), (2, .int (nI (r))), (0, .ref (ad 87))]) (lv_sub hl [0, 1, 2, 3, 4] rfl) (by subst_vars; first | rfl | (simp only [flO, rtF, if_neg qc78]; done) | (simp only [flO, rtF, if_pos qc78]; done) | (simp only [flO, rtF, if_true]; done)))
      · have qc78 : i = r := (wn_eq (a := i) (b := r) rfl rfl (by omega) (by omega)).mp c78
        refine lv_dconst1 hx hb dX0_fill_81 ?_
        refine lv_dload hx hb dX0_fill_82 (lv_at hl 1 rfl) ?_
        refine lv_dsub hx hb dX0_fill_84 hF.2.2.2 ?_
        refine lv_goto (tgt := 89) hx hb dX0_fill_85 (by decide) ?_
        refine w_dast (v := FP.dsub FP.dconst1 (dmF d)) hx hb hK hP hi hA hS 98 (i) ⟨rfl, (by show i < 9; omega)⟩ (by omega) rfl dX0_fill_89 (fun H locs hP hS => ?_)
        obtain ⟨X_2, eX_2⟩ : ∃ y, y = st2 (flJ I r (dmF d) i (flO I r (dmF d) X i) (9)) 98 (i) (FP.dsub FP.dconst1 (dmF d)) := ⟨_, rfl⟩
        have hP : WP nW D cA ad I J X_2 H := by rw [eX_2]; exact hP
        refine lv_iinc (v := nI (i + 1)) (lv' := [(6, .int (nI (i + 1))), (4, .double (dmF d)), (1, .ref (ad 1)), (2, .int (nI (r))), (0, .ref (ad 87))]) hx hb dX0_fill_90 hl (k := 0) rfl (wn_inc rfl) (by decide) rfl (fun ls hl => ?_)
        refine lv_goto (tgt := 11) hx hb dX0_fill_93 (by decide) ?_
        exact ih (i + 1) (by omega)  H locs (w_cong (I1 := I) (J1 := J) (X1 := (flO I r (dmF d) X ((i + 1)))) hP ⟨rfl, rfl, (by subst_vars; first | rfl | (simp only [flO, rtF, if_neg qc78]; done) | (simp only [flO, rtF, if_pos qc78]; done) | (simp only [flO, rtF, if_true]; done))⟩) hS ls (lv_cong (l := [(6, .int (nI (i + 1))), (4, .double (dmF d)), (1, .ref (ad 1)), (2, .int (nI (r))), (0, .ref (ad 87))]) (l' := [(6, .int (nI ((i + 1)))), (4, .double (dmF d)), (1, .ref (ad 1)), (2, .int (nI (r))), (0, .ref (ad 87))]) (lv_sub hl [0, 1, 2, 3, 4] rfl) (by subst_vars; first | rfl | (simp only [flO, rtF, if_neg qc78]; done) | (simp only [flO, rtF, if_pos qc78]; done) | (simp only [flO, rtF, if_true]; done)))

set_option maxHeartbeats 4000000 in
set_option maxRecDepth 100000 in
/-- X0_fill -/
theorem c_X0_fill (l : Launch) (nW : Nat) (D : va_G) (cA : Nat → ClassId) (ad : Nat → Nat) (hi : inj nW ad) (hNW : 102 ≤ nW) (I : SI) (J : SJ) (X : SX) (sz : Nat) (r : Nat) (d : Int32) (hr4 : r < 4) (hF : FlOK I r d) : Met l yX0_fill wsX0_fill ({ frames := 2, cells := 0, slots := 0, locals := 46 }) (va_Pc [.ref (ad 87), .ref (ad 1), .int (nI (r)), .int (d)] (wPre nW D cA ad I J X sz)) (qV nW D cA ad sz I J (flO I r (dmF d) X 9)) 0 0 (fr nW ad sz) := by
  refine Met.ofW (cc := cX0_fill) (maxL := 8) (ret := none) (by decide) rfl ?_
  intro p e s m args below meth c s₁ B hml hv
  obtain ⟨rfl, rfl, hP, hK⟩ := hv
  have hx := B.exec
  have hb := B.bytes
  have hr := B.returns
  have hts := atoms_spec (ws := wsX0_fill) B.pre
  have hown : s.vm.findClass RX0 = some m.cls := findClass_of_methodNamed B.named
  have hlocks := B.notSynchronized
  have hS : va_S (fr nW ad s.heap.size) s.heap s.heap [] := va_S.rf
  have hA : ∀ k, k < nW → fr nW ad s.heap.size (ad k) := fr_ad
  have hl := lv_entry ([.ref (ad 87), .ref (ad 1), .int (nI (r)), .int (d)]) (n := 8) (Nat.le_of_ble_eq_true rfl)
  rw [lg_entry_eq]
  generalize (lg_sl ([.ref (ad 87), .ref (ad 1), .int (nI (r)), .int (d)]) ++ List.replicate (8 - (lg_sl ([.ref (ad 87), .ref (ad 1), .int (nI (r)), .int (d)])).length) Slot.unset).toArray = ls at hl ⊢
  have hl : lv_has ls 8 [(0, .ref (ad 87)), (1, .ref (ad 1)), (2, .int (nI (r))), (3, .int (d))] := hl
  have hS0 := hS
  suffices K : ∀ (H : Heap) (locs : List Loc), WP nW D cA ad I J X H → va_S (fr nW ad s.heap.size) s.heap H locs → W p l e (headSpec wsX0_fill ({ frames := 2, cells := 0, slots := 0, locals := 46 })).room s m ([.ref (ad 87), .ref (ad 1), .int (nI (r)), .int (d)] : List Value).toArray below meth c H locs 0 0 (MQ below (qV nW D cA ad s.heap.size I J (flO I r (dmF d) X 9)) ([.ref (ad 87), .ref (ad 1), .int (nI (r)), .int (d)] : List Value).toArray s 0 0 (fr nW ad s.heap.size)) (F0 m 0 ls []) from K _ _ hP hS
  clear hP hS hS0
  intro H locs hP hS
  refine lv_iload_n hx hb dX0_fill_0 rfl (lv_at hl 3 rfl) ?_
  refine lv_i2d hx hb dX0_fill_1 ?_
  refine lv_ldc2d (v := 4636737291354636288) hx hb hown (hts (.constantDouble RX0 34 (4636737291354636288)) (List.mem_of_getElem? (i := 1) rfl)) dX0_fill_2 ?_
  refine lv_ddiv hx hb dX0_fill_5 hF.1 ?_
  refine lv_topd (fun dm edm => ?_)
  refine lv_dstore (lv' := [(4, .double (dm)), (0, .ref (ad 87)), (1, .ref (ad 1)), (2, .int (nI (r))), (3, .int (d))]) hx hb dX0_fill_6 hl (by decide) rfl (fun ls hl => ?_)
  refine lv_iconst (v := 0) hx hb dX0_fill_8 (by decide) ?_
  refine lv_istore (lv' := [(6, .int (0)), (4, .double (dm)), (0, .ref (ad 87)), (1, .ref (ad 1)), (2, .int (nI (r))), (3, .int (d))]) hx hb dX0_fill_9 hl (by decide) rfl (fun ls hl => ?_)
  refine lp_X0_fill_A hi hNW hx hb hml hown hts hK I J X r d hr4 hF (fun  H locs hP hS ls hl => ?_) (9) (0) (by omega)  H locs (w_cong (I1 := I) (J1 := J) (X1 := (flO I r (dmF d) X (0))) hP ⟨rfl, rfl, (by subst_vars; rfl)⟩) hS ls (lv_cong (l := [(6, .int (0)), (4, .double (dm)), (1, .ref (ad 1)), (2, .int (nI (r))), (0, .ref (ad 87))]) (l' := [(6, .int (nI (0))), (4, .double (dmF d)), (1, .ref (ad 1)), (2, .int (nI (r))), (0, .ref (ad 87))]) (lv_sub hl [0, 1, 3, 4, 2] rfl) (by subst_vars; rfl))
  exact w_vret hx hb hr hlocks hK hP hS ⟨by subst_vars; rfl, by subst_vars; rfl, by subst_vars; rfl⟩ dX0_fill_96

