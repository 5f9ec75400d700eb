/-! the class's lists and ways: pure -/
def isWc (I : SI) (r j o k : Nat) : Prop := j ≠ k ∧ o ≠ r ∧ 0 < I (9 + r) (4 + j) ∧ 0 < I (9 + (4 + j)) o ∧ 0 < I (9 + o) (4 + k)
noncomputable def isWcF (I : SI) (r j o k : Nat) : Int32 := @ite Int32 (isWc I r j o k) (Classical.propDecidable _) 1 0
theorem isWcF_y {I : SI} {r j o k : Nat} (h : ¬ isWcF I r j o k = 0) : isWc I r j o k := Classical.byContradiction fun z => h (by unfold isWcF; rw [if_neg z])
theorem isWcF_n {I : SI} {r j o k : Nat} (h : isWcF I r j o k = 0) : ¬ isWc I r j o k := fun z => by
  unfold isWcF at h
  rw [if_pos z] at h
  exact absurd h (by decide)
def cfF (I : SI) (u : Int64) (n q : Nat) : Int64 := if I 29 n = 0 then 0 else u * (I (9 + n) q).toInt64 / (I 29 n).toInt64
def coF (I : SI) (r j o k : Nat) : Int64 := cfF I (cfF I (cfF I 1000000 r (4 + j)) (4 + j) o) o (4 + k)

theorem inX4_isWay_X1 : ∀ w ∈ wsX10, w ∈ wsX4_isWay := by decide +kernel
theorem inX4_isWay_X4 : ∀ w ∈ wsX40, w ∈ wsX4_isWay := by decide +kernel
set_option maxHeartbeats 4000000 in
set_option maxRecDepth 100000 in
/-- X4_isWay -/
theorem c_X4_isWay (l : Launch) (nW : Nat) (D : va_G) (cA : Nat → ClassId) (ad : Nat → Nat) (hi : inj nW ad) (hNW : 102 ≤ nW) (I : SI) (J : SJ) (X : SX) (sz : Nat) (r j o k : Nat) (hr4 : r < 4) (hj5 : j < 5) (ho4 : o < 4) (hk5 : k < 5) : Met l yX4_isWay wsX4_isWay ({ frames := 1, cells := 0, slots := 0, locals := 22 }) (va_Pc [.ref (ad 0), .int (nI (r)), .int (nI (j)), .int (nI (o)), .int (nI (k))] (wPre nW D cA ad I J X sz)) (qI nW D cA ad sz (isWcF I r j o k) I J X) 0 0 (fr nW ad sz) := by
  refine Met.ofW (cc := cX4_isWay) (maxL := 5) (ret := (some .boolean)) (by decide) rfl ?_
  intro p e s m args below meth c s₁ B hml hv
  obtain ⟨rfl, rfl, hP, hK⟩ := hv
  have hx := B.exec
  have hb := B.bytes
  have hr := B.returns
  have hts := atoms_spec (ws := wsX4_isWay) B.pre
  have hown : s.vm.findClass RX4 = some m.cls := findClass_of_methodNamed B.named
  have hlocks := B.notSynchronized
  have hS : va_S (fr nW ad s.heap.size) s.heap s.heap [] := va_S.rf
  have hA : ∀ k, k < nW → fr nW ad s.heap.size (ad k) := fr_ad
  have hl := lv_entry ([.ref (ad 0), .int (nI (r)), .int (nI (j)), .int (nI (o)), .int (nI (k))]) (n := 5) (Nat.le_of_ble_eq_true rfl)
  rw [lg_entry_eq]
  generalize (lg_sl ([.ref (ad 0), .int (nI (r)), .int (nI (j)), .int (nI (o)), .int (nI (k))]) ++ List.replicate (5 - (lg_sl ([.ref (ad 0), .int (nI (r)), .int (nI (j)), .int (nI (o)), .int (nI (k))])).length) Slot.unset).toArray = ls at hl ⊢
  have hl : lv_has ls 5 [(0, .ref (ad 0)), (1, .int (nI (r))), (2, .int (nI (j))), (3, .int (nI (o))), (4, .int (nI (k)))] := hl
  have hS0 := hS
  suffices K : ∀ (H : Heap) (locs : List Loc), WP nW D cA ad I J X H → va_S (fr nW ad s.heap.size) s.heap H locs → W p l e (headSpec wsX4_isWay ({ frames := 1, cells := 0, slots := 0, locals := 22 })).room s m ([.ref (ad 0), .int (nI (r)), .int (nI (j)), .int (nI (o)), .int (nI (k))] : List Value).toArray below meth c H locs 0 0 (MQ below (qI nW D cA ad s.heap.size (isWcF I r j o k) I J X) ([.ref (ad 0), .int (nI (r)), .int (nI (j)), .int (nI (o)), .int (nI (k))] : List Value).toArray s 0 0 (fr nW ad s.heap.size)) (F0 m 0 ls []) from K _ _ hP hS
  clear hP hS hS0
  intro H locs hP hS
  refine lv_iload_n hx hb dX4_isWay_0 rfl (lv_at hl 2 rfl) ?_
  refine lv_iload hx hb dX4_isWay_1 (lv_at hl 4 rfl) ?_
  refine lv_icmp_eq (tgt := 58) hx hb dX4_isWay_3 (by decide) (fun c3 => ?_) (fun c3 => ?_)
  · have qc3 : j = k := (wn_eq (a := j) (b := k) rfl rfl (by omega) (by omega)).mp c3
    have hw : ¬ isWc I r j o k := fun z => z.1 qc3
    refine lv_iconst (v := 0) hx hb dX4_isWay_58 (by decide) ?_
    exact w_zret hx hb hr rfl hlocks hK hP hS ⟨by unfold isWcF; rw [if_neg hw], by subst_vars; rfl, by subst_vars; rfl, by subst_vars; rfl⟩ dX4_isWay_59
  · have qc3 : ¬ j = k := fun z => c3 ((wn_eq (a := j) (b := k) rfl rfl (by omega) (by omega)).mpr z)
    refine lv_iload_n hx hb dX4_isWay_6 rfl (lv_at hl 3 rfl) ?_
    refine lv_iload_n hx hb dX4_isWay_7 rfl (lv_at hl 1 rfl) ?_
    refine lv_icmp_eq (tgt := 58) hx hb dX4_isWay_8 (by decide) (fun c8 => ?_) (fun c8 => ?_)
    · have qc8 : o = r := (wn_eq (a := o) (b := r) rfl rfl (by omega) (by omega)).mp c8
      have hw : ¬ isWc I r j o k := fun z => z.2.1 qc8
      refine lv_iconst (v := 0) hx hb dX4_isWay_58 (by decide) ?_
      exact w_zret hx hb hr rfl hlocks hK hP hS ⟨by unfold isWcF; rw [if_neg hw], by subst_vars; rfl, by subst_vars; rfl, by subst_vars; rfl⟩ dX4_isWay_59
    · have qc8 : ¬ o = r := fun z => c8 ((wn_eq (a := o) (b := r) rfl rfl (by omega) (by omega)).mpr z)
      refine lv_aload_n hx hb dX4_isWay_11 rfl (lv_at hl 0 rfl) ?_
      refine w_get (C := RX4) (T := TX4) (N := 7) (v := .ref (ad 1)) (index := 12) hx hb hts inX4_isWay_X4 hown hK hP 0 0 ⟨rfl, rfl, by decide⟩ (by omega) rfl (List.mem_of_getElem? (i := 1) rfl) (fun _ h9 => h9) dX4_isWay_12 ?_
      refine lv_iload_n hx hb dX4_isWay_15 rfl (lv_at hl 1 rfl) ?_
      refine lv_iconst (v := 4) hx hb dX4_isWay_16 (by decide) ?_
      refine lv_iload_n hx hb dX4_isWay_17 rfl (lv_at hl 2 rfl) ?_
      refine w_iaddN (a := 4) (b := j) hx hb rfl rfl dX4_isWay_18 ?_
      refine w_calli (va_runV (As := [.int (nI (r)), .int (nI (4 + j))]) (rest := []) ⟨hx, hb, hml, hown, hts⟩ (c_X1_walkedWeight l nW D cA ad hi hNW I J X H.size r (4 + j) (by omega) (by omega)) (cwV 2 hts gX4_isWay_X1_walkedWeight rfl rfl rfl (by decide +kernel) ⟨Nat.le_of_ble_eq_true rfl, Nat.le_of_ble_eq_true rfl⟩) (w_preV hK hP 1 (by omega) ⟨rfl, rfl⟩ rfl) rfl rfl hl.1 rfl (lv_room (Nat.le_of_ble_eq_true rfl)) dX4_isWay_19 ⟨Nat.le_of_ble_eq_true rfl, Nat.le_of_ble_eq_true rfl⟩) hS (fun H locs hP hS => ?_)
      refine lv_if_le (tgt := 58) hx hb dX4_isWay_22 (by decide) (fun c22 => ?_) (fun c22 => ?_)
      · have hw : ¬ isWc I r j o k := fun z => i32_nlt c22 z.2.2.1
        refine lv_iconst (v := 0) hx hb dX4_isWay_58 (by decide) ?_
        exact w_zret hx hb hr rfl hlocks hK hP hS ⟨by unfold isWcF; rw [if_neg hw], by subst_vars; rfl, by subst_vars; rfl, by subst_vars; rfl⟩ dX4_isWay_59
      · refine lv_aload_n hx hb dX4_isWay_25 rfl (lv_at hl 0 rfl) ?_
        refine w_get (C := RX4) (T := TX4) (N := 7) (v := .ref (ad 1)) (index := 12) hx hb hts inX4_isWay_X4 hown hK hP 0 0 ⟨rfl, rfl, by decide⟩ (by omega) rfl (List.mem_of_getElem? (i := 1) rfl) (fun _ h9 => h9) dX4_isWay_26 ?_
        refine lv_iconst (v := 4) hx hb dX4_isWay_29 (by decide) ?_
        refine lv_iload_n hx hb dX4_isWay_30 rfl (lv_at hl 2 rfl) ?_
        refine w_iaddN (a := 4) (b := j) hx hb rfl rfl dX4_isWay_31 ?_
        refine lv_iload_n hx hb dX4_isWay_32 rfl (lv_at hl 3 rfl) ?_
        refine w_calli (va_runV (As := [.int (nI (4 + j)), .int (nI (o))]) (rest := []) ⟨hx, hb, hml, hown, hts⟩ (c_X1_walkedWeight l nW D cA ad hi hNW I J X H.size (4 + j) o (by omega) (by omega)) (cwV 2 hts gX4_isWay_X1_walkedWeight rfl rfl rfl (by decide +kernel) ⟨Nat.le_of_ble_eq_true rfl, Nat.le_of_ble_eq_true rfl⟩) (w_preV hK hP 1 (by omega) ⟨rfl, rfl⟩ rfl) rfl rfl hl.1 rfl (lv_room (Nat.le_of_ble_eq_true rfl)) dX4_isWay_33 ⟨Nat.le_of_ble_eq_true rfl, Nat.le_of_ble_eq_true rfl⟩) hS (fun H locs hP hS => ?_)
        refine lv_if_le (tgt := 58) hx hb dX4_isWay_36 (by decide) (fun c36 => ?_) (fun c36 => ?_)
        · have hw : ¬ isWc I r j o k := fun z => i32_nlt c36 z.2.2.2.1
          refine lv_iconst (v := 0) hx hb dX4_isWay_58 (by decide) ?_
          exact w_zret hx hb hr rfl hlocks hK hP hS ⟨by unfold isWcF; rw [if_neg hw], by subst_vars; rfl, by subst_vars; rfl, by subst_vars; rfl⟩ dX4_isWay_59
        · refine lv_aload_n hx hb dX4_isWay_39 rfl (lv_at hl 0 rfl) ?_
          refine w_get (C := RX4) (T := TX4) (N := 7) (v := .ref (ad 1)) (index := 12) hx hb hts inX4_isWay_X4 hown hK hP 0 0 ⟨rfl, rfl, by decide⟩ (by omega) rfl (List.mem_of_getElem? (i := 1) rfl) (fun _ h9 => h9) dX4_isWay_40 ?_
          refine lv_iload_n hx hb dX4_isWay_43 rfl (lv_at hl 3 rfl) ?_
          refine lv_iconst (v := 4) hx hb dX4_isWay_44 (by decide) ?_
          refine lv_iload hx hb dX4_isWay_45 (lv_at hl 4 rfl) ?_
          refine w_iaddN (a := 4) (b := k) hx hb rfl rfl dX4_isWay_47 ?_
          refine w_calli (va_runV (As := [.int (nI (o)), .int (nI (4 + k))]) (rest := []) ⟨hx, hb, hml, hown, hts⟩ (c_X1_walkedWeight l nW D cA ad hi hNW I J X H.size o (4 + k) (by omega) (by omega)) (cwV 2 hts gX4_isWay_X1_walkedWeight rfl rfl rfl (by decide +kernel) ⟨Nat.le_of_ble_eq_true rfl, Nat.le_of_ble_eq_true rfl⟩) (w_preV hK hP 1 (by omega) ⟨rfl, rfl⟩ rfl) rfl rfl hl.1 rfl (lv_room (Nat.le_of_ble_eq_true rfl)) dX4_isWay_48 ⟨Nat.le_of_ble_eq_true rfl, Nat.le_of_ble_eq_true rfl⟩) hS (fun H locs hP hS => ?_)
          refine lv_if_le (tgt := 58) hx hb dX4_isWay_51 (by decide) (fun c51 => ?_) (fun c51 => ?_)
          · have hw : ¬ isWc I r j o k := fun z => i32_nlt c51 z.2.2.2.2
            refine lv_iconst (v := 0) hx hb dX4_isWay_58 (by decide) ?_
            exact w_zret hx hb hr rfl hlocks hK hP hS ⟨by unfold isWcF; rw [if_neg hw], by subst_vars; rfl, by subst_vars; rfl, by subst_vars; rfl⟩ dX4_isWay_59
          · have hw : isWc I r j o k := ⟨qc3, qc8, i32_lt c22, i32_lt c36, i32_lt c51⟩
            refine lv_iconst (v := 1) hx hb dX4_isWay_54 (by decide) ?_
            refine lv_goto (tgt := 59) hx hb dX4_isWay_55 (by decide) ?_
            exact w_zret hx hb hr rfl hlocks hK hP hS ⟨by unfold isWcF; rw [if_pos hw], by subst_vars; rfl, by subst_vars; rfl, by subst_vars; rfl⟩ dX4_isWay_59

theorem inX4_carriedFrom_X1 : ∀ w ∈ wsX10, w ∈ wsX4_carriedFrom := by decide +kernel
theorem inX4_carriedFrom_X4 : ∀ w ∈ wsX40, w ∈ wsX4_carriedFrom := by decide +kernel
set_option maxHeartbeats 4000000 in
set_option maxRecDepth 100000 in
/-- X4_carriedFrom -/
theorem c_X4_carriedFrom (l : Launch) (nW : Nat) (D : va_G) (cA : Nat → ClassId) (ad : Nat → Nat) (hi : inj nW ad) (hNW : 102 ≤ nW) (I : SI) (J : SJ) (X : SX) (sz : Nat) (u : Int64) (n q : Nat) (hn9 : n < 9) (hq9 : q < 9) : Met l yX4_carriedFrom wsX4_carriedFrom ({ frames := 1, cells := 0, slots := 0, locals := 22 }) (va_Pc [.ref (ad 0), .long (u), .int (nI (n)), .int (nI (q))] (wPre nW D cA ad I J X sz)) (qL nW D cA ad sz (cfF I u n q) I J X) 0 0 (fr nW ad sz) := by
  refine Met.ofW (cc := cX4_carriedFrom) (maxL := 6) (ret := (some .long)) (by decide) rfl ?_
  intro p e s m args below meth c s₁ B hml hv
  obtain ⟨rfl, rfl, hP, hK⟩ := hv
  have hx := B.exec
  have hb := B.bytes
  have hr := B.returns
  have hts := atoms_spec (ws := wsX4_carriedFrom) B.pre
  have hown : s.vm.findClass RX4 = some m.cls := findClass_of_methodNamed B.named
  have hlocks := B.notSynchronized
  have hS : va_S (fr nW ad s.heap.size) s.heap s.heap [] := va_S.rf
  have hA : ∀ k, k < nW → fr nW ad s.heap.size (ad k) := fr_ad
  have hl := lv_entry ([.ref (ad 0), .long (u), .int (nI (n)), .int (nI (q))]) (n := 6) (Nat.le_of_ble_eq_true rfl)
  rw [lg_entry_eq]
  generalize (lg_sl ([.ref (ad 0), .long (u), .int (nI (n)), .int (nI (q))]) ++ List.replicate (6 - (lg_sl ([.ref (ad 0), .long (u), .int (nI (n)), .int (nI (q))])).length) Slot.unset).toArray = ls at hl ⊢
  have hl : lv_has ls 6 [(0, .ref (ad 0)), (1, .long (u)), (3, .int (nI (n))), (4, .int (nI (q)))] := hl
  have hS0 := hS
  suffices K : ∀ (H : Heap) (locs : List Loc), WP nW D cA ad I J X H → va_S (fr nW ad s.heap.size) s.heap H locs → W p l e (headSpec wsX4_carriedFrom ({ frames := 1, cells := 0, slots := 0, locals := 22 })).room s m ([.ref (ad 0), .long (u), .int (nI (n)), .int (nI (q))] : List Value).toArray below meth c H locs 0 0 (MQ below (qL nW D cA ad s.heap.size (cfF I u n q) I J X) ([.ref (ad 0), .long (u), .int (nI (n)), .int (nI (q))] : List Value).toArray s 0 0 (fr nW ad s.heap.size)) (F0 m 0 ls []) from K _ _ hP hS
  clear hP hS hS0
  intro H locs hP hS
  refine lv_aload_n hx hb dX4_carriedFrom_0 rfl (lv_at hl 0 rfl) ?_
  refine w_get (C := RX4) (T := TX4) (N := 7) (v := .ref (ad 1)) (index := 12) hx hb hts inX4_carriedFrom_X4 hown hK hP 0 0 ⟨rfl, rfl, by decide⟩ (by omega) rfl (List.mem_of_getElem? (i := 1) rfl) (fun _ h9 => h9) dX4_carriedFrom_1 ?_
  refine lv_iload_n hx hb dX4_carriedFrom_4 rfl (lv_at hl 2 rfl) ?_
  refine w_calli (va_runV (As := [.int (nI (n))]) (rest := []) ⟨hx, hb, hml, hown, hts⟩ (c_X1_weightOfAll l nW D cA ad hi hNW I J X H.size n (by omega)) (cwV 1 hts gX4_carriedFrom_X1_weightOfAll rfl rfl rfl (by decide +kernel) ⟨Nat.le_of_ble_eq_true rfl, Nat.le_of_ble_eq_true rfl⟩) (w_preV hK hP 1 (by omega) ⟨rfl, rfl⟩ rfl) rfl rfl hl.1 rfl (lv_room (Nat.le_of_ble_eq_true rfl)) dX4_carriedFrom_5 ⟨Nat.le_of_ble_eq_true rfl, Nat.le_of_ble_eq_true rfl⟩) hS (fun H locs hP hS => ?_)
  refine lv_istore (lv' := [(5, .int (I 29 n)), (0, .ref (ad 0)), (1, .long (u)), (3, .int (nI (n))), (4, .int (nI (q)))]) hx hb dX4_carriedFrom_8 hl (by decide) rfl (fun ls hl => ?_)
  refine lv_iload hx hb dX4_carriedFrom_10 (lv_at hl 0 rfl) ?_
  refine lv_if_ne (tgt := 19) hx hb dX4_carriedFrom_12 (by decide) (fun c12 => ?_) (fun c12 => ?_)
  · refine lv_lload_n hx hb dX4_carriedFrom_19 rfl (lv_at hl 2 rfl) ?_
    refine lv_aload_n hx hb dX4_carriedFrom_20 rfl (lv_at hl 1 rfl) ?_
    refine w_get (C := RX4) (T := TX4) (N := 7) (v := .ref (ad 1)) (index := 12) hx hb hts inX4_carriedFrom_X4 hown hK hP 0 0 ⟨rfl, rfl, by decide⟩ (by omega) rfl (List.mem_of_getElem? (i := 1) rfl) (fun _ h9 => h9) dX4_carriedFrom_21 ?_
    refine lv_iload_n hx hb dX4_carriedFrom_24 rfl (lv_at hl 3 rfl) ?_
    refine lv_iload hx hb dX4_carriedFrom_25 (lv_at hl 4 rfl) ?_
    refine w_calli (va_runV (As := [.int (nI (n)), .int (nI (q))]) (rest := [.long (u)]) ⟨hx, hb, hml, hown, hts⟩ (c_X1_walkedWeight l nW D cA ad hi hNW I J X H.size n q (by omega) (by omega)) (cwV 2 hts gX4_carriedFrom_X1_walkedWeight rfl rfl rfl (by decide +kernel) ⟨Nat.le_of_ble_eq_true rfl, Nat.le_of_ble_eq_true rfl⟩) (w_preV hK hP 1 (by omega) ⟨rfl, rfl⟩ rfl) rfl rfl hl.1 rfl (lv_room (Nat.le_of_ble_eq_true rfl)) dX4_carriedFrom_27 ⟨Nat.le_of_ble_eq_true rfl, Nat.le_of_ble_eq_true rfl⟩) hS (fun H locs hP hS => ?_)
    refine lv_i2l (v := (I (9 + n) q).toInt64) hx hb dX4_carriedFrom_30 rfl ?_
    refine lv_lmul hx hb dX4_carriedFrom_31 ?_
    refine lv_iload hx hb dX4_carriedFrom_32 (lv_at hl 0 rfl) ?_
    refine lv_i2l (v := (I 29 n).toInt64) hx hb dX4_carriedFrom_34 rfl ?_
    refine lv_ldiv hx hb dX4_carriedFrom_35 (ne64 c12) ?_
    exact w_lret hx hb hr hlocks hK hP hS ⟨by unfold cfF; rw [if_neg c12], by subst_vars; rfl, by subst_vars; rfl, by subst_vars; rfl⟩ dX4_carriedFrom_36
  · refine lv_lconst (v := 0) hx hb dX4_carriedFrom_15 rfl ?_
    refine lv_goto (tgt := 36) hx hb dX4_carriedFrom_16 (by decide) ?_
    exact w_lret hx hb hr hlocks hK hP hS ⟨by unfold cfF; rw [if_pos c12], by subst_vars; rfl, by subst_vars; rfl, by subst_vars; rfl⟩ dX4_carriedFrom_36

theorem inX4_carriedOver_X1 : ∀ w ∈ wsX10, w ∈ wsX4_carriedOver := by decide +kernel
theorem inX4_carriedOver_X4 : ∀ w ∈ wsX40, w ∈ wsX4_carriedOver := by decide +kernel
set_option maxHeartbeats 4000000 in
set_option maxRecDepth 100000 in
/-- X4_carriedOver -/
theorem c_X4_carriedOver (l : Launch) (nW : Nat) (D : va_G) (cA : Nat → ClassId) (ad : Nat → Nat) (hi : inj nW ad) (hNW : 102 ≤ nW) (I : SI) (J : SJ) (X : SX) (sz : Nat) (r j o k : Nat) (hr4 : r < 4) (hj5 : j < 5) (ho4 : o < 4) (hk5 : k < 5) : Met l yX4_carriedOver wsX4_carriedOver ({ frames := 2, cells := 0, slots := 0, locals := 47 }) (va_Pc [.ref (ad 0), .int (nI (r)), .int (nI (j)), .int (nI (o)), .int (nI (k))] (wPre nW D cA ad I J X sz)) (qL nW D cA ad sz (coF I r j o k) I J X) 0 0 (fr nW ad sz) := by
  refine Met.ofW (cc := cX4_carriedOver) (maxL := 7) (ret := (some .long)) (by decide) rfl ?_
  intro p e s m args below meth c s₁ B hml hv
  obtain ⟨rfl, rfl, hP, hK⟩ := hv
  have hx := B.exec
  have hb := B.bytes
  have hr := B.returns
  have hts := atoms_spec (ws := wsX4_carriedOver) B.pre
  have hown : s.vm.findClass RX4 = some m.cls := findClass_of_methodNamed B.named
  have hlocks := B.notSynchronized
  have hS : va_S (fr nW ad s.heap.size) s.heap s.heap [] := va_S.rf
  have hA : ∀ k, k < nW → fr nW ad s.heap.size (ad k) := fr_ad
  have hl := lv_entry ([.ref (ad 0), .int (nI (r)), .int (nI (j)), .int (nI (o)), .int (nI (k))]) (n := 7) (Nat.le_of_ble_eq_true rfl)
  rw [lg_entry_eq]
  generalize (lg_sl ([.ref (ad 0), .int (nI (r)), .int (nI (j)), .int (nI (o)), .int (nI (k))]) ++ List.replicate (7 - (lg_sl ([.ref (ad 0), .int (nI (r)), .int (nI (j)), .int (nI (o)), .int (nI (k))])).length) Slot.unset).toArray = ls at hl ⊢
  have hl : lv_has ls 7 [(0, .ref (ad 0)), (1, .int (nI (r))), (2, .int (nI (j))), (3, .int (nI (o))), (4, .int (nI (k)))] := hl
  have hS0 := hS
  suffices K : ∀ (H : Heap) (locs : List Loc), WP nW D cA ad I J X H → va_S (fr nW ad s.heap.size) s.heap H locs → W p l e (headSpec wsX4_carriedOver ({ frames := 2, cells := 0, slots := 0, locals := 47 })).room s m ([.ref (ad 0), .int (nI (r)), .int (nI (j)), .int (nI (o)), .int (nI (k))] : List Value).toArray below meth c H locs 0 0 (MQ below (qL nW D cA ad s.heap.size (coF I r j o k) I J X) ([.ref (ad 0), .int (nI (r)), .int (nI (j)), .int (nI (o)), .int (nI (k))] : List Value).toArray s 0 0 (fr nW ad s.heap.size)) (F0 m 0 ls []) from K _ _ hP hS
  clear hP hS hS0
  intro H locs hP hS
  refine lv_aload_n hx hb dX4_carriedOver_0 rfl (lv_at hl 0 rfl) ?_
  refine lv_ldc2 (v := 1000000) hx hb hown (hts (.constantLong RX4 201 (1000000)) (List.mem_of_getElem? (i := 1) rfl)) dX4_carriedOver_1 ?_
  refine lv_iload_n hx hb dX4_carriedOver_4 rfl (lv_at hl 1 rfl) ?_
  refine lv_iconst (v := 4) hx hb dX4_carriedOver_5 (by decide) ?_
  refine lv_iload_n hx hb dX4_carriedOver_6 rfl (lv_at hl 2 rfl) ?_
  refine w_iaddN (a := 4) (b := j) hx hb rfl rfl dX4_carriedOver_7 ?_
  refine w_calll (va_runV (As := [.long (1000000), .int (nI (r)), .int (nI (4 + j))]) (rest := []) ⟨hx, hb, hml, hown, hts⟩ (c_X4_carriedFrom l nW D cA ad hi hNW I J X H.size 1000000 r (4 + j) (by omega) (by omega)) (cwV 3 hts gX4_carriedOver_X4_carriedFrom rfl rfl rfl (by decide +kernel) ⟨Nat.le_of_ble_eq_true rfl, Nat.le_of_ble_eq_true rfl⟩) (w_preV hK hP 0 (by omega) ⟨rfl, rfl⟩ rfl) rfl rfl hl.1 rfl (lv_room (Nat.le_of_ble_eq_true rfl)) dX4_carriedOver_8 ⟨Nat.le_of_ble_eq_true rfl, Nat.le_of_ble_eq_true rfl⟩) hS (fun H locs hP hS => ?_)
  refine lv_topl (fun x_1 ex_1 => ?_)
  refine lv_lstore (lv' := [(5, .long (x_1)), (0, .ref (ad 0)), (1, .int (nI (r))), (2, .int (nI (j))), (3, .int (nI (o))), (4, .int (nI (k)))]) hx hb dX4_carriedOver_11 hl (by decide) rfl (fun ls hl => ?_)
  refine lv_aload_n hx hb dX4_carriedOver_13 rfl (lv_at hl 1 rfl) ?_
  refine lv_lload hx hb dX4_carriedOver_14 (lv_at hl 0 rfl) ?_
  refine lv_iconst (v := 4) hx hb dX4_carriedOver_16 (by decide) ?_
  refine lv_iload_n hx hb dX4_carriedOver_17 rfl (lv_at hl 3 rfl) ?_
  refine w_iaddN (a := 4) (b := j) hx hb rfl rfl dX4_carriedOver_18 ?_
  refine lv_iload_n hx hb dX4_carriedOver_19 rfl (lv_at hl 4 rfl) ?_
  refine w_calll (va_runV (As := [.long (x_1), .int (nI (4 + j)), .int (nI (o))]) (rest := []) ⟨hx, hb, hml, hown, hts⟩ (c_X4_carriedFrom l nW D cA ad hi hNW I J X H.size x_1 (4 + j) o (by omega) (by omega)) (cwV 3 hts gX4_carriedOver_X4_carriedFrom rfl rfl rfl (by decide +kernel) ⟨Nat.le_of_ble_eq_true rfl, Nat.le_of_ble_eq_true rfl⟩) (w_preV hK hP 0 (by omega) ⟨rfl, rfl⟩ rfl) rfl rfl hl.1 rfl (lv_room (Nat.le_of_ble_eq_true rfl)) dX4_carriedOver_20 ⟨Nat.le_of_ble_eq_true rfl, Nat.le_of_ble_eq_true rfl⟩) hS (fun H locs hP hS => ?_)
  refine lv_topl (fun x_2 ex_2 => ?_)
  refine lv_lstore (lv' := [(5, .long (x_2)), (0, .ref (ad 0)), (1, .int (nI (r))), (2, .int (nI (j))), (3, .int (nI (o))), (4, .int (nI (k)))]) hx hb dX4_carriedOver_23 hl (by decide) rfl (fun ls hl => ?_)
  refine lv_aload_n hx hb dX4_carriedOver_25 rfl (lv_at hl 1 rfl) ?_
  refine lv_lload hx hb dX4_carriedOver_26 (lv_at hl 0 rfl) ?_
  refine lv_iload_n hx hb dX4_carriedOver_28 rfl (lv_at hl 4 rfl) ?_
  refine lv_iconst (v := 4) hx hb dX4_carriedOver_29 (by decide) ?_
  refine lv_iload hx hb dX4_carriedOver_30 (lv_at hl 5 rfl) ?_
  refine w_iaddN (a := 4) (b := k) hx hb rfl rfl dX4_carriedOver_32 ?_
  refine w_calll (va_runV (As := [.long (x_2), .int (nI (o)), .int (nI (4 + k))]) (rest := []) ⟨hx, hb, hml, hown, hts⟩ (c_X4_carriedFrom l nW D cA ad hi hNW I J X H.size x_2 o (4 + k) (by omega) (by omega)) (cwV 3 hts gX4_carriedOver_X4_carriedFrom rfl rfl rfl (by decide +kernel) ⟨Nat.le_of_ble_eq_true rfl, Nat.le_of_ble_eq_true rfl⟩) (w_preV hK hP 0 (by omega) ⟨rfl, rfl⟩ rfl) rfl rfl hl.1 rfl (lv_room (Nat.le_of_ble_eq_true rfl)) dX4_carriedOver_33 ⟨Nat.le_of_ble_eq_true rfl, Nat.le_of_ble_eq_true rfl⟩) hS (fun H locs hP hS => ?_)
  exact w_lret hx hb hr hlocks hK hP hS ⟨by subst_vars; rfl, by subst_vars; rfl, by subst_vars; rfl, by subst_vars; rfl⟩ dX4_carriedOver_36

theorem adI_sz (I : SI) (k : Nat) (b r : Int32) : adI I k b r 83 3 = nI (k + 1) := by unfold adI; exact st2_s _ _ _ _
def eligB (I : SI) (r b : Nat) : Prop := I 7 b = 0 ∧ I (3 + r) b = 0
noncomputable def rbS (I : SI) (J : SJ) (r : Nat) : Nat → SI × SJ × Nat
  | 0 => (st2 I 83 3 0, J, 0)
  | b + 1 => @ite (SI × SJ × Nat) (eligB (rbS I J r b).1 r b) (Classical.propDecidable _) (adI (rbS I J r b).1 (rbS I J r b).2.2 (nI b) (nI r), st2 (rbS I J r b).2.1 84 (rbS I J r b).2.2 ((rbS I J r b).2.1 (35 + r) (4 + b)), (rbS I J r b).2.2 + 1) (rbS I J r b)
theorem rbS_sz {I : SI} {J : SJ} {r : Nat} : ∀ b, (rbS I J r b).1 83 3 = nI (rbS I J r b).2.2 ∧ (rbS I J r b).2.2 ≤ b
  | 0 => ⟨show st2 I 83 3 0 83 3 = 0 from st2_s _ _ _ _, Nat.le_refl _⟩
  | b + 1 => by
    have ih := rbS_sz (I := I) (J := J) (r := r) b
    unfold rbS
    by_cases h : eligB (rbS I J r b).1 r b
    · rw [if_pos h]; exact ⟨by dsimp only; exact adI_sz _ _ _ _, Nat.succ_le_succ ih.2⟩
    · rw [if_neg h]; exact ⟨ih.1, Nat.le_succ_of_le ih.2⟩

theorem inX4_rankBooks_X1 : ∀ w ∈ wsX10, w ∈ wsX4_rankBooks := by decide +kernel
theorem inX4_rankBooks_X2 : ∀ w ∈ wsX20, w ∈ wsX4_rankBooks := by decide +kernel
theorem inX4_rankBooks_X3 : ∀ w ∈ wsX30, w ∈ wsX4_rankBooks := by decide +kernel
theorem inX4_rankBooks_X4 : ∀ w ∈ wsX40, w ∈ wsX4_rankBooks := by decide +kernel
set_option maxHeartbeats 4000000 in
set_option maxRecDepth 100000 in
theorem lp_X4_rankBooks {p : Program} {l : Launch} {e : Env} {s : State} {m : MethodId} {args : Array Value} {below : List Frame} {meth : Method} {c : Code} {Q : State → Prop} {nW : Nat} {D : va_G} {cA : Nat → ClassId} {ad : Nat → Nat} (hi : inj nW ad) (hNW : 102 ≤ nW) (hx : p.tables.exec = Jvm.exec) (hb : c.code = cX4_rankBooks) (hml : c.maxLocals = 3) (hown : s.vm.findClass RX4 = some m.cls) (hts : ∀ w ∈ wsX4_rankBooks, w.before args s = true) (hK : WK D cA s) (I : SI) (J : SJ) (X : SX) (r : Nat) (hr4 : r < 4) (kx :  ∀ (H : Heap) (locs : List Loc), WP nW D cA ad ((rbS I J r (5)).1) ((rbS I J r (5)).2.1) X H → va_S (fr nW ad s.heap.size) s.heap H locs → ∀ (ls : Array Slot), lv_has ls 3 [(0, .ref (ad 0))] → W p l e (headSpec wsX4_rankBooks ({ frames := 1, cells := 0, slots := 0, locals := 24 })).room s m args below meth c H locs 0 0 Q (F0 m 64 ls [])) : ∀ (t b : Nat), b + t = 5 →  ∀ (H : Heap) (locs : List Loc), WP nW D cA ad ((rbS I J r (b)).1) ((rbS I J r (b)).2.1) X H → va_S (fr nW ad s.heap.size) s.heap H locs → ∀ (ls : Array Slot), lv_has ls 3 [(2, .int (nI (b))), (1, .int (nI (r))), (0, .ref (ad 0))] → W p l e (headSpec wsX4_rankBooks ({ frames := 1, cells := 0, slots := 0, locals := 24 })).room s m args below meth c H locs 0 0 Q (F0 m 9 ls []) := by
  have hA : ∀ k, k < nW → fr nW ad s.heap.size (ad k) := fr_ad
  intro t
  induction t with
  | zero =>
    intro b hj  H locs hP hS ls hl
    obtain rfl : 5 = b := by omega
    have hsz := rbS_sz (I := I) (J := J) (r := r) (5)
    refine lv_iload_n hx hb dX4_rankBooks_9 rfl (lv_at hl 0 rfl) ?_
    refine lv_iconst (v := 5) hx hb dX4_rankBooks_10 (by decide) ?_
    refine lv_icmp_ge (tgt := 64) hx hb dX4_rankBooks_11 (by decide) (fun cc => ?_) (fun cc => ?_)
    · have qcc : 5 ≤ 5 := (wn_le (a := 5) (b := 5) rfl rfl (by omega) (by omega)).mp cc
      exact kx  H locs (w_cong (I1 := ((rbS I J r (5)).1)) (J1 := ((rbS I J r (5)).2.1)) (X1 := X) hP ⟨(by subst_vars; rfl), (by subst_vars; rfl), rfl⟩) hS ls (lv_sub hl [2] rfl)
    · have qcc : ¬ 5 ≤ 5 := fun z => cc ((wn_le (a := 5) (b := 5) rfl rfl (by omega) (by omega)).mpr z)
      exact absurd qcc (by omega)
  | succ t ih =>
    intro b hj  H locs hP hS ls hl
    have hsz := rbS_sz (I := I) (J := J) (r := r) (b)
    refine lv_iload_n hx hb dX4_rankBooks_9 rfl (lv_at hl 0 rfl) ?_
    refine lv_iconst (v := 5) hx hb dX4_rankBooks_10 (by decide) ?_
    refine lv_icmp_ge (tgt := 64) hx hb dX4_rankBooks_11 (by decide) (fun cc => ?_) (fun cc => ?_)
    · have qcc : 5 ≤ b := (wn_le (a := 5) (b := b) rfl rfl (by omega) (by omega)).mp cc
      exact absurd qcc (by omega)
    · have qcc : ¬ 5 ≤ b := fun z => cc ((wn_le (a := 5) (b := b) rfl rfl (by omega) (by omega)).mpr z)
      refine lv_aload_n hx hb dX4_rankBooks_14 rfl (lv_at hl 2 rfl) ?_
      refine w_get (C := RX4) (T := TX4) (N := 7) (v := .ref (ad 1)) (index := 12) hx hb hts inX4_rankBooks_X4 hown hK hP 0 0 ⟨rfl, rfl, by decide⟩ (by omega) rfl (List.mem_of_getElem? (i := 2) rfl) (fun _ h9 => h9) dX4_rankBooks_15 ?_
      refine lv_iload_n hx hb dX4_rankBooks_18 rfl (lv_at hl 0 rfl) ?_
      refine w_calli (va_runV (As := [.int (nI (b))]) (rest := []) ⟨hx, hb, hml, hown, hts⟩ (c_X1_barOf l nW D cA ad hi hNW ((rbS I J r (b)).1) ((rbS I J r (b)).2.1) X H.size b (by omega)) (cwV 1 hts gX4_rankBooks_X1_barOf rfl rfl rfl (by decide +kernel) ⟨Nat.le_of_ble_eq_true rfl, Nat.le_of_ble_eq_true rfl⟩) (w_preV hK hP 1 (by omega) ⟨rfl, rfl⟩ rfl) rfl rfl hl.1 rfl (lv_room (Nat.le_of_ble_eq_true rfl)) dX4_rankBooks_19 ⟨Nat.le_of_ble_eq_true rfl, Nat.le_of_ble_eq_true rfl⟩) hS (fun H locs hP hS => ?_)
      refine lv_if_ne (tgt := 58) hx hb dX4_rankBooks_22 (by decide) (fun c22 => ?_) (fun c22 => ?_)
      · have hw : ¬ eligB (rbS I J r (b)).1 r b := fun z => c22 z.1
        refine lv_iinc (v := nI (b + 1)) (lv' := [(2, .int (nI (b + 1))), (1, .int (nI (r))), (0, .ref (ad 0))]) hx hb dX4_rankBooks_58 hl (k := 0) rfl (wn_inc rfl) (by decide) rfl (fun ls hl => ?_)
        refine lv_goto (tgt := 9) hx hb dX4_rankBooks_61 (by decide) ?_
        exact ih (b + 1) (by omega)  H locs (w_cong (I1 := ((rbS I J r ((b + 1))).1)) (J1 := ((rbS I J r ((b + 1))).2.1)) (X1 := X) hP ⟨(by subst_vars; first | (simp only [rbS, if_neg hw]; done) | (simp only [rbS, if_pos hw]; try rfl)), (by subst_vars; first | (simp only [rbS, if_neg hw]; done) | (simp only [rbS, if_pos hw]; try rfl)), rfl⟩) hS ls (lv_cong (l := [(2, .int (nI (b + 1))), (1, .int (nI (r))), (0, .ref (ad 0))]) (l' := [(2, .int (nI ((b + 1)))), (1, .int (nI (r))), (0, .ref (ad 0))]) (lv_sub hl [0, 1, 2] rfl) (by subst_vars; first | (simp only [rbS, if_neg hw]; done) | (simp only [rbS, if_pos hw]; try rfl)))
      · refine lv_aload_n hx hb dX4_rankBooks_25 rfl (lv_at hl 2 rfl) ?_
        refine w_get (C := RX4) (T := TX4) (N := 7) (v := .ref (ad 1)) (index := 12) hx hb hts inX4_rankBooks_X4 hown hK hP 0 0 ⟨rfl, rfl, by decide⟩ (by omega) rfl (List.mem_of_getElem? (i := 2) rfl) (fun _ h9 => h9) dX4_rankBooks_26 ?_
        refine lv_iload_n hx hb dX4_rankBooks_29 rfl (lv_at hl 1 rfl) ?_
        refine lv_iload_n hx hb dX4_rankBooks_30 rfl (lv_at hl 0 rfl) ?_
        refine w_calli (va_runV (As := [.int (nI (r)), .int (nI (b))]) (rest := []) ⟨hx, hb, hml, hown, hts⟩ (c_X1_loanWeight l nW D cA ad hi hNW ((rbS I J r (b)).1) ((rbS I J r (b)).2.1) X H.size r b (by omega) (by omega)) (cwV 2 hts gX4_rankBooks_X1_loanWeight rfl rfl rfl (by decide +kernel) ⟨Nat.le_of_ble_eq_true rfl, Nat.le_of_ble_eq_true rfl⟩) (w_preV hK hP 1 (by omega) ⟨rfl, rfl⟩ rfl) rfl rfl hl.1 rfl (lv_room (Nat.le_of_ble_eq_true rfl)) dX4_rankBooks_31 ⟨Nat.le_of_ble_eq_true rfl, Nat.le_of_ble_eq_true rfl⟩) hS (fun H locs hP hS => ?_)
        refine lv_if_ne (tgt := 58) hx hb dX4_rankBooks_34 (by decide) (fun c34 => ?_) (fun c34 => ?_)
        · have hw : ¬ eligB (rbS I J r (b)).1 r b := fun z => c34 z.2
          refine lv_iinc (v := nI (b + 1)) (lv' := [(2, .int (nI (b + 1))), (1, .int (nI (r))), (0, .ref (ad 0))]) hx hb dX4_rankBooks_58 hl (k := 0) rfl (wn_inc rfl) (by decide) rfl (fun ls hl => ?_)
          refine lv_goto (tgt := 9) hx hb dX4_rankBooks_61 (by decide) ?_
          exact ih (b + 1) (by omega)  H locs (w_cong (I1 := ((rbS I J r ((b + 1))).1)) (J1 := ((rbS I J r ((b + 1))).2.1)) (X1 := X) hP ⟨(by subst_vars; first | (simp only [rbS, if_neg hw]; done) | (simp only [rbS, if_pos hw]; try rfl)), (by subst_vars; first | (simp only [rbS, if_neg hw]; done) | (simp only [rbS, if_pos hw]; try rfl)), rfl⟩) hS ls (lv_cong (l := [(2, .int (nI (b + 1))), (1, .int (nI (r))), (0, .ref (ad 0))]) (l' := [(2, .int (nI ((b + 1)))), (1, .int (nI (r))), (0, .ref (ad 0))]) (lv_sub hl [0, 1, 2] rfl) (by subst_vars; first | (simp only [rbS, if_neg hw]; done) | (simp only [rbS, if_pos hw]; try rfl)))
        · have hw : eligB (rbS I J r (b)).1 r b := ⟨c22, c34⟩
          refine lv_aload_n hx hb dX4_rankBooks_37 rfl (lv_at hl 2 rfl) ?_
          refine w_get (C := RX4) (T := TX4) (N := 7) (v := .ref (ad 83)) (index := 25) hx hb hts inX4_rankBooks_X4 hown hK hP 0 2 ⟨rfl, rfl, by decide⟩ (by omega) rfl (List.mem_of_getElem? (i := 1) rfl) (fun _ h9 => h9) dX4_rankBooks_38 ?_
          refine lv_aload_n hx hb dX4_rankBooks_41 rfl (lv_at hl 2 rfl) ?_
          refine w_get (C := RX4) (T := TX4) (N := 7) (v := .ref (ad 30)) (index := 18) hx hb hts inX4_rankBooks_X4 hown hK hP 0 1 ⟨rfl, rfl, by decide⟩ (by omega) rfl (List.mem_of_getElem? (i := 3) rfl) (fun _ h9 => h9) dX4_rankBooks_42 ?_
          refine lv_iload_n hx hb dX4_rankBooks_45 rfl (lv_at hl 1 rfl) ?_
          refine w_aald hx hb hK hP 30 (r) 31 7 ⟨rfl, (by show r < 4; omega), rfl, rfl, by decide, by decide⟩ (by omega) rfl dX4_rankBooks_46 ?_
          refine lv_iconst (v := 4) hx hb dX4_rankBooks_47 (by decide) ?_
          refine lv_iload_n hx hb dX4_rankBooks_48 rfl (lv_at hl 0 rfl) ?_
          refine w_iaddN (a := 4) (b := b) hx hb rfl rfl dX4_rankBooks_49 ?_
          refine w_calll (va_runV (As := [.int (nI (4 + b))]) (rest := [.ref (ad 83)]) ⟨hx, hb, hml, hown, hts⟩ (c_X3_landedAt l nW D cA ad hi hNW ((rbS I J r (b)).1) ((rbS I J r (b)).2.1) X H.size r (4 + b) (by omega) (by omega)) (cwV 1 hts gX4_rankBooks_X3_landedAt rfl rfl rfl (by decide +kernel) ⟨Nat.le_of_ble_eq_true rfl, Nat.le_of_ble_eq_true rfl⟩) (w_preV hK hP (31 + r) (by omega) (k_walk (by omega)) rfl) rfl rfl hl.1 rfl (lv_room (Nat.le_of_ble_eq_true rfl)) dX4_rankBooks_50 ⟨Nat.le_of_ble_eq_true rfl, Nat.le_of_ble_eq_true rfl⟩) hS (fun H locs hP hS => ?_)
          refine lv_iload_n hx hb dX4_rankBooks_53 rfl (lv_at hl 0 rfl) ?_
          refine lv_iload_n hx hb dX4_rankBooks_54 rfl (lv_at hl 1 rfl) ?_
          refine w_callv (va_runV (As := [.long (((rbS I J r (b)).2.1) (35 + r) (4 + b)), .int (nI (b)), .int (nI (r))]) (rest := []) ⟨hx, hb, hml, hown, hts⟩ (c_X2_add l nW D cA ad hi hNW ((rbS I J r (b)).1) ((rbS I J r (b)).2.1) X H.size (((rbS I J r (b)).2.1) (35 + r) (4 + b)) (nI (b)) (nI (r)) (rbS I J r (b)).2.2 ⟨hsz.1, by omega⟩) (cwV 3 hts gX4_rankBooks_X2_add rfl rfl rfl (by decide +kernel) ⟨Nat.le_of_ble_eq_true rfl, Nat.le_of_ble_eq_true rfl⟩) (w_preV hK hP 83 (by omega) ⟨rfl, rfl⟩ rfl) rfl rfl hl.1 rfl (lv_room (Nat.le_of_ble_eq_true rfl)) dX4_rankBooks_55 ⟨Nat.le_of_ble_eq_true rfl, Nat.le_of_ble_eq_true rfl⟩) hS (fun H locs hP hS => ?_)
          refine lv_iinc (v := nI (b + 1)) (lv' := [(2, .int (nI (b + 1))), (1, .int (nI (r))), (0, .ref (ad 0))]) hx hb dX4_rankBooks_58 hl (k := 0) rfl (wn_inc rfl) (by decide) rfl (fun ls hl => ?_)
          refine lv_goto (tgt := 9) hx hb dX4_rankBooks_61 (by decide) ?_
          exact ih (b + 1) (by omega)  H locs (w_cong (I1 := ((rbS I J r ((b + 1))).1)) (J1 := ((rbS I J r ((b + 1))).2.1)) (X1 := X) hP ⟨(by subst_vars; first | (simp only [rbS, if_neg hw]; done) | (simp only [rbS, if_pos hw]; try rfl)), (by subst_vars; first | (simp only [rbS, if_neg hw]; done) | (simp only [rbS, if_pos hw]; try rfl)), rfl⟩) hS ls (lv_cong (l := [(2, .int (nI (b + 1))), (1, .int (nI (r))), (0, .ref (ad 0))]) (l' := [(2, .int (nI ((b + 1)))), (1, .int (nI (r))), (0, .ref (ad 0))]) (lv_sub hl [0, 1, 2] rfl) (by subst_vars; first | (simp only [rbS, if_neg hw]; done) | (simp only [rbS, if_pos hw]; try rfl)))

set_option maxHeartbeats 4000000 in
set_option maxRecDepth 100000 in
/-- X4_rankBooks -/
theorem c_X4_rankBooks (l : Launch) (nW : Nat) (D : va_G) (cA : Nat → ClassId) (ad : Nat → Nat) (hi : inj nW ad) (hNW : 102 ≤ nW) (I : SI) (J : SJ) (X : SX) (sz : Nat) (r : Nat) (hr4 : r < 4) : Met l yX4_rankBooks wsX4_rankBooks ({ frames := 1, cells := 0, slots := 0, locals := 24 }) (va_Pc [.ref (ad 0), .int (nI (r))] (wPre nW D cA ad I J X sz)) (qV nW D cA ad sz ((rbS I J r (5)).1) ((rbS I J r (5)).2.1) X) 0 0 (fr nW ad sz) := by
  refine Met.ofW (cc := cX4_rankBooks) (maxL := 3) (ret := none) (by decide) rfl ?_
  intro p e s m args below meth c s₁ B hml hv
  obtain ⟨rfl, rfl, hP, hK⟩ := hv
  have hx := B.exec
  have hb := B.bytes
  have hr := B.returns
  have hts := atoms_spec (ws := wsX4_rankBooks) B.pre
  have hown : s.vm.findClass RX4 = some m.cls := findClass_of_methodNamed B.named
  have hlocks := B.notSynchronized
  have hS : va_S (fr nW ad s.heap.size) s.heap s.heap [] := va_S.rf
  have hA : ∀ k, k < nW → fr nW ad s.heap.size (ad k) := fr_ad
  have hl := lv_entry ([.ref (ad 0), .int (nI (r))]) (n := 3) (Nat.le_of_ble_eq_true rfl)
  rw [lg_entry_eq]
  generalize (lg_sl ([.ref (ad 0), .int (nI (r))]) ++ List.replicate (3 - (lg_sl ([.ref (ad 0), .int (nI (r))])).length) Slot.unset).toArray = ls at hl ⊢
  have hl : lv_has ls 3 [(0, .ref (ad 0)), (1, .int (nI (r)))] := hl
  have hS0 := hS
  suffices K : ∀ (H : Heap) (locs : List Loc), WP nW D cA ad I J X H → va_S (fr nW ad s.heap.size) s.heap H locs → W p l e (headSpec wsX4_rankBooks ({ frames := 1, cells := 0, slots := 0, locals := 24 })).room s m ([.ref (ad 0), .int (nI (r))] : List Value).toArray below meth c H locs 0 0 (MQ below (qV nW D cA ad s.heap.size ((rbS I J r (5)).1) ((rbS I J r (5)).2.1) X) ([.ref (ad 0), .int (nI (r))] : List Value).toArray s 0 0 (fr nW ad s.heap.size)) (F0 m 0 ls []) from K _ _ hP hS
  clear hP hS hS0
  intro H locs hP hS
  refine lv_aload_n hx hb dX4_rankBooks_0 rfl (lv_at hl 0 rfl) ?_
  refine w_get (C := RX4) (T := TX4) (N := 7) (v := .ref (ad 83)) (index := 25) hx hb hts inX4_rankBooks_X4 hown hK hP 0 2 ⟨rfl, rfl, by decide⟩ (by omega) rfl (List.mem_of_getElem? (i := 1) rfl) (fun _ h9 => h9) dX4_rankBooks_1 ?_
  refine w_callv (va_runV (As := []) (rest := []) ⟨hx, hb, hml, hown, hts⟩ (c_X2_clear l nW D cA ad hi hNW I J X H.size) (cwV 0 hts gX4_rankBooks_X2_clear rfl rfl rfl (by decide +kernel) ⟨Nat.le_of_ble_eq_true rfl, Nat.le_of_ble_eq_true rfl⟩) (w_preV hK hP 83 (by omega) ⟨rfl, rfl⟩ rfl) rfl rfl hl.1 rfl (lv_room (Nat.le_of_ble_eq_true rfl)) dX4_rankBooks_4 ⟨Nat.le_of_ble_eq_true rfl, Nat.le_of_ble_eq_true rfl⟩) hS (fun H locs hP hS => ?_)
  refine lv_iconst (v := 0) hx hb dX4_rankBooks_7 (by decide) ?_
  refine lv_istore_n (lv' := [(2, .int (0)), (0, .ref (ad 0)), (1, .int (nI (r)))]) hx hb dX4_rankBooks_8 rfl hl (by decide) rfl (fun ls hl => ?_)
  refine lp_X4_rankBooks hi hNW hx hb hml hown hts hK I J X r hr4 (fun  H locs hP hS ls hl => ?_) (5) (0) (by omega)  H locs (w_cong (I1 := ((rbS I J r (0)).1)) (J1 := ((rbS I J r (0)).2.1)) (X1 := X) hP ⟨(by subst_vars; rfl), (by subst_vars; rfl), rfl⟩) hS ls (lv_cong (l := [(2, .int (0)), (1, .int (nI (r))), (0, .ref (ad 0))]) (l' := [(2, .int (nI (0))), (1, .int (nI (r))), (0, .ref (ad 0))]) (lv_sub hl [0, 2, 1] rfl) (by subst_vars; rfl))
  exact w_vret hx hb hr hlocks hK hP hS ⟨by subst_vars; rfl, by subst_vars; rfl, by subst_vars; rfl⟩ dX4_rankBooks_64

noncomputable def rwIn (r k j : Nat) (s : SI × SJ × Nat) : Nat → SI × SJ × Nat
  | 0 => s
  | o + 1 => @ite (SI × SJ × Nat) (isWc (rwIn r k j s o).1 r j o k) (Classical.propDecidable _) (adI (rwIn r k j s o).1 (rwIn r k j s o).2.2 (nI j) (nI o), st2 (rwIn r k j s o).2.1 84 (rwIn r k j s o).2.2 (coF (rwIn r k j s o).1 r j o k), (rwIn r k j s o).2.2 + 1) (rwIn r k j s o)
noncomputable def rwOut (I : SI) (J : SJ) (r k : Nat) : Nat → SI × SJ × Nat
  | 0 => (st2 I 83 3 0, J, 0)
  | j + 1 => rwIn r k j (rwOut I J r k j) 4
def rwOK (s : SI × SJ × Nat) (n : Nat) : Prop := s.1 83 3 = nI s.2.2 ∧ s.2.2 ≤ n
theorem rwIn_sz {r k j n : Nat} {s : SI × SJ × Nat} (h : rwOK s n) : ∀ o, rwOK (rwIn r k j s o) (n + o)
  | 0 => h
  | o + 1 => by
    have ih := rwIn_sz (r := r) (k := k) (j := j) h o
    unfold rwIn
    by_cases q : isWc (rwIn r k j s o).1 r j o k
    · rw [if_pos q]; exact ⟨by dsimp only; exact adI_sz _ _ _ _, Nat.succ_le_succ ih.2⟩
    · rw [if_neg q]; exact ⟨ih.1, Nat.le_succ_of_le ih.2⟩
theorem rwOut_sz {I : SI} {J : SJ} {r k : Nat} : ∀ j, rwOK (rwOut I J r k j) (4 * j)
  | 0 => ⟨show st2 I 83 3 0 83 3 = 0 from st2_s _ _ _ _, Nat.le_refl _⟩
  | j + 1 => rwIn_sz (rwOut_sz j) 4

theorem inX4_rankWays_X1 : ∀ w ∈ wsX10, w ∈ wsX4_rankWays := by decide +kernel
theorem inX4_rankWays_X2 : ∀ w ∈ wsX20, w ∈ wsX4_rankWays := by decide +kernel
theorem inX4_rankWays_X4 : ∀ w ∈ wsX40, w ∈ wsX4_rankWays := by decide +kernel
set_option maxHeartbeats 4000000 in
set_option maxRecDepth 100000 in
theorem lp_X4_rankWays_B {p : Program} {l : Launch} {e : Env} {s : State} {m : MethodId} {args : Array Value} {below : List Frame} {meth : Method} {c : Code} {Q : State → Prop} {nW : Nat} {D : va_G} {cA : Nat → ClassId} {ad : Nat → Nat} (hi : inj nW ad) (hNW : 102 ≤ nW) (hx : p.tables.exec = Jvm.exec) (hb : c.code = cX4_rankWays) (hml : c.maxLocals = 5) (hown : s.vm.findClass RX4 = some m.cls) (hts : ∀ w ∈ wsX4_rankWays, w.before args s = true) (hK : WK D cA s) (I : SI) (J : SJ) (X : SX) (r k j : Nat) (hr4 : r < 4) (hk5 : k < 5) (hj5 : j < 5) (kx :  ∀ (H : Heap) (locs : List Loc), WP nW D cA ad ((rwIn r k j (rwOut I J r k j) (4)).1) ((rwIn r k j (rwOut I J r k j) (4)).2.1) X H → va_S (fr nW ad s.heap.size) s.heap H locs → ∀ (ls : Array Slot), lv_has ls 5 [(3, .int (nI (j))), (1, .int (nI (r))), (2, .int (nI (k))), (0, .ref (ad 0))] → W p l e (headSpec wsX4_rankWays ({ frames := 3, cells := 0, slots := 0, locals := 73 })).room s m args below meth c H locs 0 0 Q (F0 m 60 ls [])) : ∀ (t o : Nat), o + t = 4 →  ∀ (H : Heap) (locs : List Loc), WP nW D cA ad ((rwIn r k j (rwOut I J r k j) (o)).1) ((rwIn r k j (rwOut I J r k j) (o)).2.1) X H → va_S (fr nW ad s.heap.size) s.heap H locs → ∀ (ls : Array Slot), lv_has ls 5 [(4, .int (nI (o))), (3, .int (nI (j))), (1, .int (nI (r))), (2, .int (nI (k))), (0, .ref (ad 0))] → W p l e (headSpec wsX4_rankWays ({ frames := 3, cells := 0, slots := 0, locals := 73 })).room s m args below meth c H locs 0 0 Q (F0 m 17 ls []) := by
  have hA : ∀ k, k < nW → fr nW ad s.heap.size (ad k) := fr_ad
  intro t
  induction t with
  | zero =>
    intro o hj  H locs hP hS ls hl
    obtain rfl : 4 = o := by omega
    have hsz : rwOK (rwIn r k j (rwOut I J r k j) (4)) (4 * j + (4)) := rwIn_sz (rwOut_sz j) (4)
    refine lv_iload hx hb dX4_rankWays_17 (lv_at hl 0 rfl) ?_
    refine lv_iconst (v := 4) hx hb dX4_rankWays_19 (by decide) ?_
    refine lv_icmp_ge (tgt := 60) hx hb dX4_rankWays_20 (by decide) (fun cc => ?_) (fun cc => ?_)
    · have qcc : 4 ≤ 4 := (wn_le (a := 4) (b := 4) rfl rfl (by omega) (by omega)).mp cc
      exact kx  H locs (w_cong (I1 := ((rwIn r k j (rwOut I J r k j) (4)).1)) (J1 := ((rwIn r k j (rwOut I J r k j) (4)).2.1)) (X1 := X) hP ⟨(by subst_vars; rfl), (by subst_vars; rfl), rfl⟩) hS ls (lv_sub hl [1, 2, 3, 4] rfl)
    · have qcc : ¬ 4 ≤ 4 := fun z => cc ((wn_le (a := 4) (b := 4) rfl rfl (by omega) (by omega)).mpr z)
      exact absurd qcc (by omega)
  | succ t ih =>
    intro o hj  H locs hP hS ls hl
    have hsz : rwOK (rwIn r k j (rwOut I J r k j) (o)) (4 * j + (o)) := rwIn_sz (rwOut_sz j) (o)
    refine lv_iload hx hb dX4_rankWays_17 (lv_at hl 0 rfl) ?_
    refine lv_iconst (v := 4) hx hb dX4_rankWays_19 (by decide) ?_
    refine lv_icmp_ge (tgt := 60) hx hb dX4_rankWays_20 (by decide) (fun cc => ?_) (fun cc => ?_)
    · have qcc : 4 ≤ o := (wn_le (a := 4) (b := o) rfl rfl (by omega) (by omega)).mp cc
      exact absurd qcc (by omega)
    · have qcc : ¬ 4 ≤ o := fun z => cc ((wn_le (a := 4) (b := o) rfl rfl (by omega) (by omega)).mpr z)
      refine lv_aload_n hx hb dX4_rankWays_23 rfl (lv_at hl 4 rfl) ?_
      refine lv_iload_n hx hb dX4_rankWays_24 rfl (lv_at hl 2 rfl) ?_
      refine lv_iload_n hx hb dX4_rankWays_25 rfl (lv_at hl 1 rfl) ?_
      refine lv_iload hx hb dX4_rankWays_26 (lv_at hl 0 rfl) ?_
      refine lv_iload_n hx hb dX4_rankWays_28 rfl (lv_at hl 3 rfl) ?_
      refine w_calli (va_runV (As := [.int (nI (r)), .int (nI (j)), .int (nI (o)), .int (nI (k))]) (rest := []) ⟨hx, hb, hml, hown, hts⟩ (c_X4_isWay l nW D cA ad hi hNW ((rwIn r k j (rwOut I J r k j) (o)).1) ((rwIn r k j (rwOut I J r k j) (o)).2.1) X H.size r j o k (by omega) (by omega) (by omega) (by omega)) (cwV 4 hts gX4_rankWays_X4_isWay rfl rfl rfl (by decide +kernel) ⟨Nat.le_of_ble_eq_true rfl, Nat.le_of_ble_eq_true rfl⟩) (w_preV hK hP 0 (by omega) ⟨rfl, rfl⟩ rfl) rfl rfl hl.1 rfl (lv_room (Nat.le_of_ble_eq_true rfl)) dX4_rankWays_29 ⟨Nat.le_of_ble_eq_true rfl, Nat.le_of_ble_eq_true rfl⟩) hS (fun H locs hP hS => ?_)
      refine lv_if_eq (tgt := 54) hx hb dX4_rankWays_32 (by decide) (fun c32 => ?_) (fun c32 => ?_)
      · have hw := isWcF_n c32
        refine lv_iinc (v := nI (o + 1)) (lv' := [(4, .int (nI (o + 1))), (3, .int (nI (j))), (1, .int (nI (r))), (2, .int (nI (k))), (0, .ref (ad 0))]) hx hb dX4_rankWays_54 hl (k := 0) rfl (wn_inc rfl) (by decide) rfl (fun ls hl => ?_)
        refine lv_goto (tgt := 17) hx hb dX4_rankWays_57 (by decide) ?_
        exact ih (o + 1) (by omega)  H locs (w_cong (I1 := ((rwIn r k j (rwOut I J r k j) ((o + 1))).1)) (J1 := ((rwIn r k j (rwOut I J r k j) ((o + 1))).2.1)) (X1 := X) hP ⟨(by subst_vars; first | (simp only [rwIn, if_neg hw]; done) | (simp only [rwIn, if_pos hw]; try rfl)), (by subst_vars; first | (simp only [rwIn, if_neg hw]; done) | (simp only [rwIn, if_pos hw]; try rfl)), rfl⟩) hS ls (lv_cong (l := [(4, .int (nI (o + 1))), (3, .int (nI (j))), (1, .int (nI (r))), (2, .int (nI (k))), (0, .ref (ad 0))]) (l' := [(4, .int (nI ((o + 1)))), (3, .int (nI (j))), (1, .int (nI (r))), (2, .int (nI (k))), (0, .ref (ad 0))]) (lv_sub hl [0, 1, 2, 3, 4] rfl) (by subst_vars; first | (simp only [rwIn, if_neg hw]; done) | (simp only [rwIn, if_pos hw]; try rfl)))
      · have hw := isWcF_y c32
        refine lv_aload_n hx hb dX4_rankWays_35 rfl (lv_at hl 4 rfl) ?_
        refine w_get (C := RX4) (T := TX4) (N := 7) (v := .ref (ad 83)) (index := 25) hx hb hts inX4_rankWays_X4 hown hK hP 0 2 ⟨rfl, rfl, by decide⟩ (by omega) rfl (List.mem_of_getElem? (i := 1) rfl) (fun _ h9 => h9) dX4_rankWays_36 ?_
        refine lv_aload_n hx hb dX4_rankWays_39 rfl (lv_at hl 4 rfl) ?_
        refine lv_iload_n hx hb dX4_rankWays_40 rfl (lv_at hl 2 rfl) ?_
        refine lv_iload_n hx hb dX4_rankWays_41 rfl (lv_at hl 1 rfl) ?_
        refine lv_iload hx hb dX4_rankWays_42 (lv_at hl 0 rfl) ?_
        refine lv_iload_n hx hb dX4_rankWays_44 rfl (lv_at hl 3 rfl) ?_
        refine w_calll (va_runV (As := [.int (nI (r)), .int (nI (j)), .int (nI (o)), .int (nI (k))]) (rest := [.ref (ad 83)]) ⟨hx, hb, hml, hown, hts⟩ (c_X4_carriedOver l nW D cA ad hi hNW ((rwIn r k j (rwOut I J r k j) (o)).1) ((rwIn r k j (rwOut I J r k j) (o)).2.1) X H.size r j o k (by omega) (by omega) (by omega) (by omega)) (cwV 4 hts gX4_rankWays_X4_carriedOver rfl rfl rfl (by decide +kernel) ⟨Nat.le_of_ble_eq_true rfl, Nat.le_of_ble_eq_true rfl⟩) (w_preV hK hP 0 (by omega) ⟨rfl, rfl⟩ rfl) rfl rfl hl.1 rfl (lv_room (Nat.le_of_ble_eq_true rfl)) dX4_rankWays_45 ⟨Nat.le_of_ble_eq_true rfl, Nat.le_of_ble_eq_true rfl⟩) hS (fun H locs hP hS => ?_)
        refine lv_iload_n hx hb dX4_rankWays_48 rfl (lv_at hl 1 rfl) ?_
        refine lv_iload hx hb dX4_rankWays_49 (lv_at hl 0 rfl) ?_
        refine w_callv (va_runV (As := [.long (coF ((rwIn r k j (rwOut I J r k j) (o)).1) r j o k), .int (nI (j)), .int (nI (o))]) (rest := []) ⟨hx, hb, hml, hown, hts⟩ (c_X2_add l nW D cA ad hi hNW ((rwIn r k j (rwOut I J r k j) (o)).1) ((rwIn r k j (rwOut I J r k j) (o)).2.1) X H.size (coF ((rwIn r k j (rwOut I J r k j) (o)).1) r j o k) (nI (j)) (nI (o)) (rwIn r k j (rwOut I J r k j) (o)).2.2 ⟨hsz.1, by have := hsz.2; omega⟩) (cwV 3 hts gX4_rankWays_X2_add rfl rfl rfl (by decide +kernel) ⟨Nat.le_of_ble_eq_true rfl, Nat.le_of_ble_eq_true rfl⟩) (w_preV hK hP 83 (by omega) ⟨rfl, rfl⟩ rfl) rfl rfl hl.1 rfl (lv_room (Nat.le_of_ble_eq_true rfl)) dX4_rankWays_51 ⟨Nat.le_of_ble_eq_true rfl, Nat.le_of_ble_eq_true rfl⟩) hS (fun H locs hP hS => ?_)
        refine lv_iinc (v := nI (o + 1)) (lv' := [(4, .int (nI (o + 1))), (3, .int (nI (j))), (1, .int (nI (r))), (2, .int (nI (k))), (0, .ref (ad 0))]) hx hb dX4_rankWays_54 hl (k := 0) rfl (wn_inc rfl) (by decide) rfl (fun ls hl => ?_)
        refine lv_goto (tgt := 17) hx hb dX4_rankWays_57 (by decide) ?_
        exact ih (o + 1) (by omega)  H locs (w_cong (I1 := ((rwIn r k j (rwOut I J r k j) ((o + 1))).1)) (J1 := ((rwIn r k j (rwOut I J r k j) ((o + 1))).2.1)) (X1 := X) hP ⟨(by subst_vars; first | (simp only [rwIn, if_neg hw]; done) | (simp only [rwIn, if_pos hw]; try rfl)), (by subst_vars; first | (simp only [rwIn, if_neg hw]; done) | (simp only [rwIn, if_pos hw]; try rfl)), rfl⟩) hS ls (lv_cong (l := [(4, .int (nI (o + 1))), (3, .int (nI (j))), (1, .int (nI (r))), (2, .int (nI (k))), (0, .ref (ad 0))]) (l' := [(4, .int (nI ((o + 1)))), (3, .int (nI (j))), (1, .int (nI (r))), (2, .int (nI (k))), (0, .ref (ad 0))]) (lv_sub hl [0, 1, 2, 3, 4] rfl) (by subst_vars; first | (simp only [rwIn, if_neg hw]; done) | (simp only [rwIn, if_pos hw]; try rfl)))

set_option maxHeartbeats 4000000 in
set_option maxRecDepth 100000 in
theorem lp_X4_rankWays_A {p : Program} {l : Launch} {e : Env} {s : State} {m : MethodId} {args : Array Value} {below : List Frame} {meth : Method} {c : Code} {Q : State → Prop} {nW : Nat} {D : va_G} {cA : Nat → ClassId} {ad : Nat → Nat} (hi : inj nW ad) (hNW : 102 ≤ nW) (hx : p.tables.exec = Jvm.exec) (hb : c.code = cX4_rankWays) (hml : c.maxLocals = 5) (hown : s.vm.findClass RX4 = some m.cls) (hts : ∀ w ∈ wsX4_rankWays, w.before args s = true) (hK : WK D cA s) (I : SI) (J : SJ) (X : SX) (r k : Nat) (hr4 : r < 4) (hk5 : k < 5) (kx :  ∀ (H : Heap) (locs : List Loc), WP nW D cA ad ((rwOut I J r k (5)).1) ((rwOut I J r k (5)).2.1) X H → va_S (fr nW ad s.heap.size) s.heap H locs → ∀ (ls : Array Slot), lv_has ls 5 [(0, .ref (ad 0))] → W p l e (headSpec wsX4_rankWays ({ frames := 3, cells := 0, slots := 0, locals := 73 })).room s m args below meth c H locs 0 0 Q (F0 m 66 ls [])) : ∀ (t j : Nat), j + t = 5 →  ∀ (H : Heap) (locs : List Loc), WP nW D cA ad ((rwOut I J r k (j)).1) ((rwOut I J r k (j)).2.1) X H → va_S (fr nW ad s.heap.size) s.heap H locs → ∀ (ls : Array Slot), lv_has ls 5 [(3, .int (nI (j))), (1, .int (nI (r))), (2, .int (nI (k))), (0, .ref (ad 0))] → W p l e (headSpec wsX4_rankWays ({ frames := 3, cells := 0, slots := 0, locals := 73 })).room s m args below meth c H locs 0 0 Q (F0 m 9 ls []) := by
  have hA : ∀ k, k < nW → fr nW ad s.heap.size (ad k) := fr_ad
  intro t
  induction t with
  | zero =>
    intro j hj  H locs hP hS ls hl
    obtain rfl : 5 = j := by omega
    refine lv_iload_n hx hb dX4_rankWays_9 rfl (lv_at hl 0 rfl) ?_
    refine lv_iconst (v := 5) hx hb dX4_rankWays_10 (by decide) ?_
    refine lv_icmp_ge (tgt := 66) hx hb dX4_rankWays_11 (by decide) (fun cc => ?_) (fun cc => ?_)
    · have qcc : 5 ≤ 5 := (wn_le (a := 5) (b := 5) rfl rfl (by omega) (by omega)).mp cc
      exact kx  H locs (w_cong (I1 := ((rwOut I J r k (5)).1)) (J1 := ((rwOut I J r k (5)).2.1)) (X1 := X) hP ⟨(by subst_vars; rfl), (by subst_vars; rfl), rfl⟩) hS ls (lv_sub hl [3] rfl)
    · have qcc : ¬ 5 ≤ 5 := fun z => cc ((wn_le (a := 5) (b := 5) rfl rfl (by omega) (by omega)).mpr z)
      exact absurd qcc (by omega)
  | succ t ih =>
    intro j hj  H locs hP hS ls hl
    refine lv_iload_n hx hb dX4_rankWays_9 rfl (lv_at hl 0 rfl) ?_
    refine lv_iconst (v := 5) hx hb dX4_rankWays_10 (by decide) ?_
    refine lv_icmp_ge (tgt := 66) hx hb dX4_rankWays_11 (by decide) (fun cc => ?_) (fun cc => ?_)
    · have qcc : 5 ≤ j := (wn_le (a := 5) (b := j) rfl rfl (by omega) (by omega)).mp cc
      exact absurd qcc (by omega)
    · have qcc : ¬ 5 ≤ j := fun z => cc ((wn_le (a := 5) (b := j) rfl rfl (by omega) (by omega)).mpr z)
      refine lv_iconst (v := 0) hx hb dX4_rankWays_14 (by decide) ?_
      refine lv_istore (lv' := [(4, .int (0)), (3, .int (nI (j))), (1, .int (nI (r))), (2, .int (nI (k))), (0, .ref (ad 0))]) hx hb dX4_rankWays_15 hl (by decide) rfl (fun ls hl => ?_)
      refine lp_X4_rankWays_B hi hNW hx hb hml hown hts hK I J X r k j hr4 hk5 (by omega) (fun  H locs hP hS ls hl => ?_) (4) (0) (by omega)  H locs (w_cong (I1 := ((rwIn r k j (rwOut I J r k j) (0)).1)) (J1 := ((rwIn r k j (rwOut I J r k j) (0)).2.1)) (X1 := X) hP ⟨(by subst_vars; rfl), (by subst_vars; rfl), rfl⟩) hS ls (lv_cong (l := [(4, .int (0)), (3, .int (nI (j))), (1, .int (nI (r))), (2, .int (nI (k))), (0, .ref (ad 0))]) (l' := [(4, .int (nI (0))), (3, .int (nI (j))), (1, .int (nI (r))), (2, .int (nI (k))), (0, .ref (ad 0))]) (lv_sub hl [0, 1, 2, 3, 4] rfl) (by subst_vars; rfl))
      refine lv_iinc (v := nI (j + 1)) (lv' := [(3, .int (nI (j + 1))), (1, .int (nI (r))), (2, .int (nI (k))), (0, .ref (ad 0))]) hx hb dX4_rankWays_60 hl (k := 0) rfl (wn_inc rfl) (by decide) rfl (fun ls hl => ?_)
      refine lv_goto (tgt := 9) hx hb dX4_rankWays_63 (by decide) ?_
      exact ih (j + 1) (by omega)  H locs (w_cong (I1 := ((rwOut I J r k ((j + 1))).1)) (J1 := ((rwOut I J r k ((j + 1))).2.1)) (X1 := X) hP ⟨(by subst_vars; rfl), (by subst_vars; rfl), rfl⟩) hS ls (lv_cong (l := [(3, .int (nI (j + 1))), (1, .int (nI (r))), (2, .int (nI (k))), (0, .ref (ad 0))]) (l' := [(3, .int (nI ((j + 1)))), (1, .int (nI (r))), (2, .int (nI (k))), (0, .ref (ad 0))]) (lv_sub hl [0, 1, 2, 3] rfl) (by subst_vars; rfl))

set_option maxHeartbeats 4000000 in
set_option maxRecDepth 100000 in
/-- X4_rankWays -/
theorem c_X4_rankWays (l : Launch) (nW : Nat) (D : va_G) (cA : Nat → ClassId) (ad : Nat → Nat) (hi : inj nW ad) (hNW : 102 ≤ nW) (I : SI) (J : SJ) (X : SX) (sz : Nat) (r k : Nat) (hr4 : r < 4) (hk5 : k < 5) : Met l yX4_rankWays wsX4_rankWays ({ frames := 3, cells := 0, slots := 0, locals := 73 }) (va_Pc [.ref (ad 0), .int (nI (r)), .int (nI (k))] (wPre nW D cA ad I J X sz)) (qV nW D cA ad sz ((rwOut I J r k (5)).1) ((rwOut I J r k (5)).2.1) X) 0 0 (fr nW ad sz) := by
  refine Met.ofW (cc := cX4_rankWays) (maxL := 5) (ret := none) (by decide) rfl ?_
  intro p e s m args below meth c s₁ B hml hv
  obtain ⟨rfl, rfl, hP, hK⟩ := hv
  have hx := B.exec
  have hb := B.bytes
  have hr := B.returns
  have hts := atoms_spec (ws := wsX4_rankWays) B.pre
  have hown : s.vm.findClass RX4 = some m.cls := findClass_of_methodNamed B.named
  have hlocks := B.notSynchronized
  have hS : va_S (fr nW ad s.heap.size) s.heap s.heap [] := va_S.rf
  have hA : ∀ k, k < nW → fr nW ad s.heap.size (ad k) := fr_ad
  have hl := lv_entry ([.ref (ad 0), .int (nI (r)), .int (nI (k))]) (n := 5) (Nat.le_of_ble_eq_true rfl)
  rw [lg_entry_eq]
  generalize (lg_sl ([.ref (ad 0), .int (nI (r)), .int (nI (k))]) ++ List.replicate (5 - (lg_sl ([.ref (ad 0), .int (nI (r)), .int (nI (k))])).length) Slot.unset).toArray = ls at hl ⊢
  have hl : lv_has ls 5 [(0, .ref (ad 0)), (1, .int (nI (r))), (2, .int (nI (k)))] := hl
  have hS0 := hS
  suffices K : ∀ (H : Heap) (locs : List Loc), WP nW D cA ad I J X H → va_S (fr nW ad s.heap.size) s.heap H locs → W p l e (headSpec wsX4_rankWays ({ frames := 3, cells := 0, slots := 0, locals := 73 })).room s m ([.ref (ad 0), .int (nI (r)), .int (nI (k))] : List Value).toArray below meth c H locs 0 0 (MQ below (qV nW D cA ad s.heap.size ((rwOut I J r k (5)).1) ((rwOut I J r k (5)).2.1) X) ([.ref (ad 0), .int (nI (r)), .int (nI (k))] : List Value).toArray s 0 0 (fr nW ad s.heap.size)) (F0 m 0 ls []) from K _ _ hP hS
  clear hP hS hS0
  intro H locs hP hS
  refine lv_aload_n hx hb dX4_rankWays_0 rfl (lv_at hl 0 rfl) ?_
  refine w_get (C := RX4) (T := TX4) (N := 7) (v := .ref (ad 83)) (index := 25) hx hb hts inX4_rankWays_X4 hown hK hP 0 2 ⟨rfl, rfl, by decide⟩ (by omega) rfl (List.mem_of_getElem? (i := 1) rfl) (fun _ h9 => h9) dX4_rankWays_1 ?_
  refine w_callv (va_runV (As := []) (rest := []) ⟨hx, hb, hml, hown, hts⟩ (c_X2_clear l nW D cA ad hi hNW I J X H.size) (cwV 0 hts gX4_rankWays_X2_clear rfl rfl rfl (by decide +kernel) ⟨Nat.le_of_ble_eq_true rfl, Nat.le_of_ble_eq_true rfl⟩) (w_preV hK hP 83 (by omega) ⟨rfl, rfl⟩ rfl) rfl rfl hl.1 rfl (lv_room (Nat.le_of_ble_eq_true rfl)) dX4_rankWays_4 ⟨Nat.le_of_ble_eq_true rfl, Nat.le_of_ble_eq_true rfl⟩) hS (fun H locs hP hS => ?_)
  refine lv_iconst (v := 0) hx hb dX4_rankWays_7 (by decide) ?_
  refine lv_istore_n (lv' := [(3, .int (0)), (0, .ref (ad 0)), (1, .int (nI (r))), (2, .int (nI (k)))]) hx hb dX4_rankWays_8 rfl hl (by decide) rfl (fun ls hl => ?_)
  refine lp_X4_rankWays_A hi hNW hx hb hml hown hts hK I J X r k hr4 hk5 (fun  H locs hP hS ls hl => ?_) (5) (0) (by omega)  H locs (w_cong (I1 := ((rwOut I J r k (0)).1)) (J1 := ((rwOut I J r k (0)).2.1)) (X1 := X) hP ⟨(by subst_vars; rfl), (by subst_vars; rfl), rfl⟩) hS ls (lv_cong (l := [(3, .int (0)), (1, .int (nI (r))), (2, .int (nI (k))), (0, .ref (ad 0))]) (l' := [(3, .int (nI (0))), (1, .int (nI (r))), (2, .int (nI (k))), (0, .ref (ad 0))]) (lv_sub hl [0, 2, 3, 1] rfl) (by subst_vars; rfl))
  exact w_vret hx hb hr hlocks hK hP hS ⟨by subst_vars; rfl, by subst_vars; rfl, by subst_vars; rfl⟩ dX4_rankWays_66
