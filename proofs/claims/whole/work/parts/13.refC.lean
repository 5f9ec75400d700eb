/-! the reference's answers: pure -/
def f01 (x : Int32) : Int32 := if 0 < x then 1 else 0
def inF (x a b : Int32) : Int32 := if x < a then 0 else if b < x then 0 else 1
def isPairF (r k : Int32) : Int32 := if inF r 0 3 = 0 then 0 else if inF k 0 4 = 0 then 0 else 1
def isNodeF (r n : Int32) : Int32 := if inF r 0 3 = 0 then 0 else if inF n 0 8 = 0 then 0 else 1

theorem inX5_thrown_X5 : ∀ w ∈ wsX50, w ∈ wsX5_thrown := by decide +kernel
set_option maxHeartbeats 4000000 in
set_option maxRecDepth 100000 in
/-- X5_thrown -/
theorem c_X5_thrown (l : Launch) (nW : Nat) (D : va_G) (cA : Nat → ClassId) (ad : Nat → Nat) (hi : inj nW ad) (hNW : 114 ≤ nW) (I : SI) (J : SJ) (X : SX) (sz : Nat)  : Met l yX5_thrown wsX5_thrown ({ frames := 0, cells := 0, slots := 0, locals := 0 }) (va_Pc [.ref (ad 102)] (wPre nW D cA ad I J X sz)) (qI nW D cA ad sz (I 102 14) I J X) 0 0 (fr nW ad sz) := by
  refine Met.ofW (cc := cX5_thrown) (maxL := 1) (ret := (some .int)) (by decide) rfl ?_
  intro p e s m args below meth c s₁ B hml hv
  obtain ⟨rfl, rfl, hP, hK⟩ := hv
  have hx := B.exec
  have hb := B.bytes
  have hr := B.returns
  have hts := atoms_spec (ws := wsX5_thrown) B.pre
  have hown : s.vm.findClass RX5 = some m.cls := findClass_of_methodNamed B.named
  have hlocks := B.notSynchronized
  have hS : va_S (fr nW ad s.heap.size) s.heap s.heap [] := va_S.rf
  have hA : ∀ k, k < nW → fr nW ad s.heap.size (ad k) := fr_ad
  have hl := lv_entry ([.ref (ad 102)]) (n := 1) (Nat.le_of_ble_eq_true rfl)
  rw [lg_entry_eq]
  generalize (lg_sl ([.ref (ad 102)]) ++ List.replicate (1 - (lg_sl ([.ref (ad 102)])).length) Slot.unset).toArray = ls at hl ⊢
  have hl : lv_has ls 1 [(0, .ref (ad 102))] := hl
  have hS0 := hS
  suffices K : ∀ (H : Heap) (locs : List Loc), WP nW D cA ad I J X H → va_S (fr nW ad s.heap.size) s.heap H locs → W p l e (headSpec wsX5_thrown ({ frames := 0, cells := 0, slots := 0, locals := 0 })).room s m ([.ref (ad 102)] : List Value).toArray below meth c H locs 0 0 (MQ below (qI nW D cA ad s.heap.size (I 102 14) I J X) ([.ref (ad 102)] : List Value).toArray s 0 0 (fr nW ad s.heap.size)) (F0 m 0 ls []) from K _ _ hP hS
  clear hP hS hS0
  intro H locs hP hS
  refine lv_aload_n hx hb dX5_thrown_0 rfl (lv_at hl 0 rfl) ?_
  refine w_get (C := RX5) (T := TX5) (N := 15) (v := .int (I 102 14)) (index := 55) hx hb hts inX5_thrown_X5 hown hK hP 102 14 ⟨rfl, rfl, by decide⟩ (by omega) rfl (List.mem_of_getElem? (i := 1) rfl) (fun _ h9 => h9) dX5_thrown_1 ?_
  exact w_iret hx hb hr hlocks hK hP hS ⟨by subst_vars; rfl, by subst_vars; rfl, by subst_vars; rfl, by subst_vars; rfl⟩ dX5_thrown_4

theorem inX5_fails_X5 : ∀ w ∈ wsX50, w ∈ wsX5_fails := by decide +kernel
set_option maxHeartbeats 4000000 in
set_option maxRecDepth 100000 in
/-- X5_fails -/
theorem c_X5_fails (l : Launch) (nW : Nat) (D : va_G) (cA : Nat → ClassId) (ad : Nat → Nat) (hi : inj nW ad) (hNW : 114 ≤ nW) (I : SI) (J : SJ) (X : SX) (sz : Nat) (x : Int32) : Met l yX5_fails wsX5_fails ({ frames := 0, cells := 0, slots := 0, locals := 0 }) (va_Pc [.ref (ad 102), .int (x)] (wPre nW D cA ad I J X sz)) (qI nW D cA ad sz (f01 x) (st2 I 102 14 x) J X) 0 0 (fr nW ad sz) := by
  refine Met.ofW (cc := cX5_fails) (maxL := 2) (ret := (some .boolean)) (by decide) rfl ?_
  intro p e s m args below meth c s₁ B hml hv
  obtain ⟨rfl, rfl, hP, hK⟩ := hv
  have hx := B.exec
  have hb := B.bytes
  have hr := B.returns
  have hts := atoms_spec (ws := wsX5_fails) B.pre
  have hown : s.vm.findClass RX5 = some m.cls := findClass_of_methodNamed B.named
  have hlocks := B.notSynchronized
  have hS : va_S (fr nW ad s.heap.size) s.heap s.heap [] := va_S.rf
  have hA : ∀ k, k < nW → fr nW ad s.heap.size (ad k) := fr_ad
  have hl := lv_entry ([.ref (ad 102), .int (x)]) (n := 2) (Nat.le_of_ble_eq_true rfl)
  rw [lg_entry_eq]
  generalize (lg_sl ([.ref (ad 102), .int (x)]) ++ List.replicate (2 - (lg_sl ([.ref (ad 102), .int (x)])).length) Slot.unset).toArray = ls at hl ⊢
  have hl : lv_has ls 2 [(0, .ref (ad 102)), (1, .int (x))] := hl
  have hS0 := hS
  suffices K : ∀ (H : Heap) (locs : List Loc), WP nW D cA ad I J X H → va_S (fr nW ad s.heap.size) s.heap H locs → W p l e (headSpec wsX5_fails ({ frames := 0, cells := 0, slots := 0, locals := 0 })).room s m ([.ref (ad 102), .int (x)] : List Value).toArray below meth c H locs 0 0 (MQ below (qI nW D cA ad s.heap.size (f01 x) (st2 I 102 14 x) J X) ([.ref (ad 102), .int (x)] : List Value).toArray s 0 0 (fr nW ad s.heap.size)) (F0 m 0 ls []) from K _ _ hP hS
  clear hP hS hS0
  intro H locs hP hS
  refine lv_aload_n hx hb dX5_fails_0 rfl (lv_at hl 0 rfl) ?_
  refine lv_iload_n hx hb dX5_fails_1 rfl (lv_at hl 1 rfl) ?_
  refine w_put (C := RX5) (T := TX5) (N := 15) (index := 55) (v := x) hx hb hts inX5_fails_X5 tyX5 tyX5_ok nmX5 hown hK hP hi hA hS 102 14 ⟨rfl, rfl, by decide⟩ (by omega) rfl (by exact (by decide : 14 < 15)) (List.mem_of_getElem? (i := 1) rfl) (fun _ h9 => h9) rfl (by decide +kernel) dX5_fails_2 (fun H locs hP hS => ?_)
  obtain ⟨I_1, eI_1⟩ : ∃ y, y = st2 I 102 14 (x) := ⟨_, rfl⟩
  have hP : WP nW D cA ad I_1 J X H := by rw [eI_1]; exact hP
  refine lv_iload_n hx hb dX5_fails_5 rfl (lv_at hl 1 rfl) ?_
  refine lv_if_le (tgt := 13) hx hb dX5_fails_6 (by decide) (fun c6 => ?_) (fun c6 => ?_)
  · refine lv_iconst (v := 0) hx hb dX5_fails_13 (by decide) ?_
    exact w_zret hx hb hr rfl hlocks hK hP hS ⟨by unfold f01; rw [if_neg (i32_nlt c6)], by subst_vars; rfl, by subst_vars; rfl, by subst_vars; rfl⟩ dX5_fails_14
  · refine lv_iconst (v := 1) hx hb dX5_fails_9 (by decide) ?_
    refine lv_goto (tgt := 14) hx hb dX5_fails_10 (by decide) ?_
    exact w_zret hx hb hr rfl hlocks hK hP hS ⟨by unfold f01; rw [if_pos (i32_lt c6)], by subst_vars; rfl, by subst_vars; rfl, by subst_vars; rfl⟩ dX5_fails_14

set_option maxHeartbeats 4000000 in
set_option maxRecDepth 100000 in
/-- X5_in -/
theorem c_X5_in (l : Launch) (nW : Nat) (D : va_G) (cA : Nat → ClassId) (ad : Nat → Nat) (hi : inj nW ad) (hNW : 114 ≤ nW) (I : SI) (J : SJ) (X : SX) (sz : Nat) (x a b : Int32) : Met l yX5_in wsX5_in ({ frames := 0, cells := 0, slots := 0, locals := 0 }) (va_Pc [.ref (ad 102), .int (x), .int (a), .int (b)] (wPre nW D cA ad I J X sz)) (qI nW D cA ad sz (inF x a b) I J X) 0 0 (fr nW ad sz) := by
  refine Met.ofW (cc := cX5_in) (maxL := 4) (ret := (some .boolean)) (by decide) rfl ?_
  intro p e s m args below meth c s₁ B hml hv
  obtain ⟨rfl, rfl, hP, hK⟩ := hv
  have hx := B.exec
  have hb := B.bytes
  have hr := B.returns
  have hts := atoms_spec (ws := wsX5_in) B.pre
  have hown : s.vm.findClass RX5 = some m.cls := findClass_of_methodNamed B.named
  have hlocks := B.notSynchronized
  have hS : va_S (fr nW ad s.heap.size) s.heap s.heap [] := va_S.rf
  have hA : ∀ k, k < nW → fr nW ad s.heap.size (ad k) := fr_ad
  have hl := lv_entry ([.ref (ad 102), .int (x), .int (a), .int (b)]) (n := 4) (Nat.le_of_ble_eq_true rfl)
  rw [lg_entry_eq]
  generalize (lg_sl ([.ref (ad 102), .int (x), .int (a), .int (b)]) ++ List.replicate (4 - (lg_sl ([.ref (ad 102), .int (x), .int (a), .int (b)])).length) Slot.unset).toArray = ls at hl ⊢
  have hl : lv_has ls 4 [(0, .ref (ad 102)), (1, .int (x)), (2, .int (a)), (3, .int (b))] := hl
  have hS0 := hS
  suffices K : ∀ (H : Heap) (locs : List Loc), WP nW D cA ad I J X H → va_S (fr nW ad s.heap.size) s.heap H locs → W p l e (headSpec wsX5_in ({ frames := 0, cells := 0, slots := 0, locals := 0 })).room s m ([.ref (ad 102), .int (x), .int (a), .int (b)] : List Value).toArray below meth c H locs 0 0 (MQ below (qI nW D cA ad s.heap.size (inF x a b) I J X) ([.ref (ad 102), .int (x), .int (a), .int (b)] : List Value).toArray s 0 0 (fr nW ad s.heap.size)) (F0 m 0 ls []) from K _ _ hP hS
  clear hP hS hS0
  intro H locs hP hS
  refine lv_iload_n hx hb dX5_in_0 rfl (lv_at hl 1 rfl) ?_
  refine lv_iload_n hx hb dX5_in_1 rfl (lv_at hl 2 rfl) ?_
  refine lv_icmp_lt (tgt := 14) hx hb dX5_in_2 (by decide) (fun c2 => ?_) (fun c2 => ?_)
  · refine lv_iconst (v := 0) hx hb dX5_in_14 (by decide) ?_
    exact w_zret hx hb hr rfl hlocks hK hP hS ⟨by unfold inF; rw [if_pos c2], by subst_vars; rfl, by subst_vars; rfl, by subst_vars; rfl⟩ dX5_in_15
  · refine lv_iload_n hx hb dX5_in_5 rfl (lv_at hl 1 rfl) ?_
    refine lv_iload_n hx hb dX5_in_6 rfl (lv_at hl 3 rfl) ?_
    refine lv_icmp_gt (tgt := 14) hx hb dX5_in_7 (by decide) (fun c7 => ?_) (fun c7 => ?_)
    · refine lv_iconst (v := 0) hx hb dX5_in_14 (by decide) ?_
      exact w_zret hx hb hr rfl hlocks hK hP hS ⟨by unfold inF; rw [if_neg c2, if_pos c7], by subst_vars; rfl, by subst_vars; rfl, by subst_vars; rfl⟩ dX5_in_15
    · refine lv_iconst (v := 1) hx hb dX5_in_10 (by decide) ?_
      refine lv_goto (tgt := 15) hx hb dX5_in_11 (by decide) ?_
      exact w_zret hx hb hr rfl hlocks hK hP hS ⟨by unfold inF; rw [if_neg c2, if_neg c7], by subst_vars; rfl, by subst_vars; rfl, by subst_vars; rfl⟩ dX5_in_15

set_option maxHeartbeats 4000000 in
set_option maxRecDepth 100000 in
/-- X5_isPair -/
theorem c_X5_isPair (l : Launch) (nW : Nat) (D : va_G) (cA : Nat → ClassId) (ad : Nat → Nat) (hi : inj nW ad) (hNW : 114 ≤ nW) (I : SI) (J : SJ) (X : SX) (sz : Nat) (r k : Int32) : Met l yX5_isPair wsX5_isPair ({ frames := 1, cells := 0, slots := 0, locals := 23 }) (va_Pc [.ref (ad 102), .int (r), .int (k)] (wPre nW D cA ad I J X sz)) (qI nW D cA ad sz (isPairF r k) I J X) 0 0 (fr nW ad sz) := by
  refine Met.ofW (cc := cX5_isPair) (maxL := 3) (ret := (some .boolean)) (by decide) rfl ?_
  intro p e s m args below meth c s₁ B hml hv
  obtain ⟨rfl, rfl, hP, hK⟩ := hv
  have hx := B.exec
  have hb := B.bytes
  have hr := B.returns
  have hts := atoms_spec (ws := wsX5_isPair) B.pre
  have hown : s.vm.findClass RX5 = some m.cls := findClass_of_methodNamed B.named
  have hlocks := B.notSynchronized
  have hS : va_S (fr nW ad s.heap.size) s.heap s.heap [] := va_S.rf
  have hA : ∀ k, k < nW → fr nW ad s.heap.size (ad k) := fr_ad
  have hl := lv_entry ([.ref (ad 102), .int (r), .int (k)]) (n := 3) (Nat.le_of_ble_eq_true rfl)
  rw [lg_entry_eq]
  generalize (lg_sl ([.ref (ad 102), .int (r), .int (k)]) ++ List.replicate (3 - (lg_sl ([.ref (ad 102), .int (r), .int (k)])).length) Slot.unset).toArray = ls at hl ⊢
  have hl : lv_has ls 3 [(0, .ref (ad 102)), (1, .int (r)), (2, .int (k))] := hl
  have hS0 := hS
  suffices K : ∀ (H : Heap) (locs : List Loc), WP nW D cA ad I J X H → va_S (fr nW ad s.heap.size) s.heap H locs → W p l e (headSpec wsX5_isPair ({ frames := 1, cells := 0, slots := 0, locals := 23 })).room s m ([.ref (ad 102), .int (r), .int (k)] : List Value).toArray below meth c H locs 0 0 (MQ below (qI nW D cA ad s.heap.size (isPairF r k) I J X) ([.ref (ad 102), .int (r), .int (k)] : List Value).toArray s 0 0 (fr nW ad s.heap.size)) (F0 m 0 ls []) from K _ _ hP hS
  clear hP hS hS0
  intro H locs hP hS
  refine lv_aload_n hx hb dX5_isPair_0 rfl (lv_at hl 0 rfl) ?_
  refine lv_iload_n hx hb dX5_isPair_1 rfl (lv_at hl 1 rfl) ?_
  refine lv_iconst (v := 0) hx hb dX5_isPair_2 (by decide) ?_
  refine lv_iconst (v := 3) hx hb dX5_isPair_3 (by decide) ?_
  refine w_calli (va_runV (As := [.int (r), .int (0), .int (3)]) (rest := []) ⟨hx, hb, hml, hown, hts⟩ (c_X5_in l nW D cA ad hi hNW I J X H.size r 0 3) (cwV 3 hts gX5_isPair_X5_in rfl rfl rfl (by decide +kernel) ⟨Nat.le_of_ble_eq_true rfl, Nat.le_of_ble_eq_true rfl⟩) (w_preV hK hP 102 (by omega) ⟨rfl, rfl⟩ rfl) rfl rfl hl.1 rfl (lv_room (Nat.le_of_ble_eq_true rfl)) dX5_isPair_4 ⟨Nat.le_of_ble_eq_true rfl, Nat.le_of_ble_eq_true rfl⟩) hS (fun H locs hP hS => ?_)
  refine lv_if_eq (tgt := 24) hx hb dX5_isPair_7 (by decide) (fun c7 => ?_) (fun c7 => ?_)
  · refine lv_iconst (v := 0) hx hb dX5_isPair_24 (by decide) ?_
    exact w_zret hx hb hr rfl hlocks hK hP hS ⟨by unfold isPairF; rw [if_pos c7], by subst_vars; rfl, by subst_vars; rfl, by subst_vars; rfl⟩ dX5_isPair_25
  · refine lv_aload_n hx hb dX5_isPair_10 rfl (lv_at hl 0 rfl) ?_
    refine lv_iload_n hx hb dX5_isPair_11 rfl (lv_at hl 2 rfl) ?_
    refine lv_iconst (v := 0) hx hb dX5_isPair_12 (by decide) ?_
    refine lv_iconst (v := 4) hx hb dX5_isPair_13 (by decide) ?_
    refine w_calli (va_runV (As := [.int (k), .int (0), .int (4)]) (rest := []) ⟨hx, hb, hml, hown, hts⟩ (c_X5_in l nW D cA ad hi hNW I J X H.size k 0 4) (cwV 3 hts gX5_isPair_X5_in rfl rfl rfl (by decide +kernel) ⟨Nat.le_of_ble_eq_true rfl, Nat.le_of_ble_eq_true rfl⟩) (w_preV hK hP 102 (by omega) ⟨rfl, rfl⟩ rfl) rfl rfl hl.1 rfl (lv_room (Nat.le_of_ble_eq_true rfl)) dX5_isPair_14 ⟨Nat.le_of_ble_eq_true rfl, Nat.le_of_ble_eq_true rfl⟩) hS (fun H locs hP hS => ?_)
    refine lv_if_eq (tgt := 24) hx hb dX5_isPair_17 (by decide) (fun c17 => ?_) (fun c17 => ?_)
    · refine lv_iconst (v := 0) hx hb dX5_isPair_24 (by decide) ?_
      exact w_zret hx hb hr rfl hlocks hK hP hS ⟨by unfold isPairF; rw [if_neg c7, if_pos c17], by subst_vars; rfl, by subst_vars; rfl, by subst_vars; rfl⟩ dX5_isPair_25
    · refine lv_iconst (v := 1) hx hb dX5_isPair_20 (by decide) ?_
      refine lv_goto (tgt := 25) hx hb dX5_isPair_21 (by decide) ?_
      exact w_zret hx hb hr rfl hlocks hK hP hS ⟨by unfold isPairF; rw [if_neg c7, if_neg c17], by subst_vars; rfl, by subst_vars; rfl, by subst_vars; rfl⟩ dX5_isPair_25

set_option maxHeartbeats 4000000 in
set_option maxRecDepth 100000 in
/-- X5_isNode -/
theorem c_X5_isNode (l : Launch) (nW : Nat) (D : va_G) (cA : Nat → ClassId) (ad : Nat → Nat) (hi : inj nW ad) (hNW : 114 ≤ nW) (I : SI) (J : SJ) (X : SX) (sz : Nat) (r k : Int32) : Met l yX5_isNode wsX5_isNode ({ frames := 1, cells := 0, slots := 0, locals := 23 }) (va_Pc [.ref (ad 102), .int (r), .int (k)] (wPre nW D cA ad I J X sz)) (qI nW D cA ad sz (isNodeF r k) I J X) 0 0 (fr nW ad sz) := by
  refine Met.ofW (cc := cX5_isNode) (maxL := 3) (ret := (some .boolean)) (by decide) rfl ?_
  intro p e s m args below meth c s₁ B hml hv
  obtain ⟨rfl, rfl, hP, hK⟩ := hv
  have hx := B.exec
  have hb := B.bytes
  have hr := B.returns
  have hts := atoms_spec (ws := wsX5_isNode) B.pre
  have hown : s.vm.findClass RX5 = some m.cls := findClass_of_methodNamed B.named
  have hlocks := B.notSynchronized
  have hS : va_S (fr nW ad s.heap.size) s.heap s.heap [] := va_S.rf
  have hA : ∀ k, k < nW → fr nW ad s.heap.size (ad k) := fr_ad
  have hl := lv_entry ([.ref (ad 102), .int (r), .int (k)]) (n := 3) (Nat.le_of_ble_eq_true rfl)
  rw [lg_entry_eq]
  generalize (lg_sl ([.ref (ad 102), .int (r), .int (k)]) ++ List.replicate (3 - (lg_sl ([.ref (ad 102), .int (r), .int (k)])).length) Slot.unset).toArray = ls at hl ⊢
  have hl : lv_has ls 3 [(0, .ref (ad 102)), (1, .int (r)), (2, .int (k))] := hl
  have hS0 := hS
  suffices K : ∀ (H : Heap) (locs : List Loc), WP nW D cA ad I J X H → va_S (fr nW ad s.heap.size) s.heap H locs → W p l e (headSpec wsX5_isNode ({ frames := 1, cells := 0, slots := 0, locals := 23 })).room s m ([.ref (ad 102), .int (r), .int (k)] : List Value).toArray below meth c H locs 0 0 (MQ below (qI nW D cA ad s.heap.size (isNodeF r k) I J X) ([.ref (ad 102), .int (r), .int (k)] : List Value).toArray s 0 0 (fr nW ad s.heap.size)) (F0 m 0 ls []) from K _ _ hP hS
  clear hP hS hS0
  intro H locs hP hS
  refine lv_aload_n hx hb dX5_isNode_0 rfl (lv_at hl 0 rfl) ?_
  refine lv_iload_n hx hb dX5_isNode_1 rfl (lv_at hl 1 rfl) ?_
  refine lv_iconst (v := 0) hx hb dX5_isNode_2 (by decide) ?_
  refine lv_iconst (v := 3) hx hb dX5_isNode_3 (by decide) ?_
  refine w_calli (va_runV (As := [.int (r), .int (0), .int (3)]) (rest := []) ⟨hx, hb, hml, hown, hts⟩ (c_X5_in l nW D cA ad hi hNW I J X H.size r 0 3) (cwV 3 hts gX5_isNode_X5_in rfl rfl rfl (by decide +kernel) ⟨Nat.le_of_ble_eq_true rfl, Nat.le_of_ble_eq_true rfl⟩) (w_preV hK hP 102 (by omega) ⟨rfl, rfl⟩ rfl) rfl rfl hl.1 rfl (lv_room (Nat.le_of_ble_eq_true rfl)) dX5_isNode_4 ⟨Nat.le_of_ble_eq_true rfl, Nat.le_of_ble_eq_true rfl⟩) hS (fun H locs hP hS => ?_)
  refine lv_if_eq (tgt := 25) hx hb dX5_isNode_7 (by decide) (fun c7 => ?_) (fun c7 => ?_)
  · refine lv_iconst (v := 0) hx hb dX5_isNode_25 (by decide) ?_
    exact w_zret hx hb hr rfl hlocks hK hP hS ⟨by unfold isNodeF; rw [if_pos c7], by subst_vars; rfl, by subst_vars; rfl, by subst_vars; rfl⟩ dX5_isNode_26
  · refine lv_aload_n hx hb dX5_isNode_10 rfl (lv_at hl 0 rfl) ?_
    refine lv_iload_n hx hb dX5_isNode_11 rfl (lv_at hl 2 rfl) ?_
    refine lv_iconst (v := 0) hx hb dX5_isNode_12 (by decide) ?_
    refine lv_bipush (v := 8) hx hb dX5_isNode_13 (by decide) ?_
    refine w_calli (va_runV (As := [.int (k), .int (0), .int (8)]) (rest := []) ⟨hx, hb, hml, hown, hts⟩ (c_X5_in l nW D cA ad hi hNW I J X H.size k 0 8) (cwV 3 hts gX5_isNode_X5_in rfl rfl rfl (by decide +kernel) ⟨Nat.le_of_ble_eq_true rfl, Nat.le_of_ble_eq_true rfl⟩) (w_preV hK hP 102 (by omega) ⟨rfl, rfl⟩ rfl) rfl rfl hl.1 rfl (lv_room (Nat.le_of_ble_eq_true rfl)) dX5_isNode_15 ⟨Nat.le_of_ble_eq_true rfl, Nat.le_of_ble_eq_true rfl⟩) hS (fun H locs hP hS => ?_)
    refine lv_if_eq (tgt := 25) hx hb dX5_isNode_18 (by decide) (fun c17 => ?_) (fun c17 => ?_)
    · refine lv_iconst (v := 0) hx hb dX5_isNode_25 (by decide) ?_
      exact w_zret hx hb hr rfl hlocks hK hP hS ⟨by unfold isNodeF; rw [if_neg c7, if_pos c17], by subst_vars; rfl, by subst_vars; rfl, by subst_vars; rfl⟩ dX5_isNode_26
    · refine lv_iconst (v := 1) hx hb dX5_isNode_21 (by decide) ?_
      refine lv_goto (tgt := 26) hx hb dX5_isNode_22 (by decide) ?_
      exact w_zret hx hb hr rfl hlocks hK hP hS ⟨by unfold isNodeF; rw [if_neg c7, if_neg c17], by subst_vars; rfl, by subst_vars; rfl, by subst_vars; rfl⟩ dX5_isNode_26

def capW (x : Int32) : Int32 := if x ≤ 99 then x else 99
def loanMI (I : SI) (r k : Nat) (more : Int32) : SI := st2 (st2 I 102 14 0) 103 (5 * r + k) (capW ((st2 I 102 14 0) 103 (5 * r + k) + more))
def strikeMI (I : SI) (r k : Nat) : SI := st2 (st2 I 102 14 0) 103 (5 * r + k) 0
def barMI (I : SI) (k : Nat) (h : Int32) : SI := st2 (st2 I 102 14 0) 104 k h
def walkMI (I : SI) (d b : Int32) : SI := st2 (st2 (st2 I 102 14 0) 102 2 d) 102 3 b
def fdM (I : SI) : Nat → SI × Int32
  | 0 => (st2 I 102 14 0, 0)
  | k + 1 => (st2 (fdM I k).1 103 k ((fdM I k).1 103 k / 2), (fdM I k).2 + (if 0 < st2 (fdM I k).1 103 k ((fdM I k).1 103 k / 2) 103 k then 1 else 0))

theorem inX5_loan_X5 : ∀ w ∈ wsX50, w ∈ wsX5_loan := by decide +kernel
set_option maxHeartbeats 4000000 in
set_option maxRecDepth 100000 in
/-- X5_loan -/
theorem c_X5_loan_ok (l : Launch) (nW : Nat) (D : va_G) (cA : Nat → ClassId) (ad : Nat → Nat) (hi : inj nW ad) (hNW : 114 ≤ nW) (I : SI) (J : SJ) (X : SX) (sz : Nat) (r k : Nat) (hr4 : r < 4) (hk5 : k < 5) (more : Int32) (hp : isPairF (nI r) (nI k) = 1) (hm : inF more 1 99 = 1) (lo : Nat → Nat → Nat) (Is : Nat → SI) (Js : Nat → SJ) (hM : SettOK lo Is Js) (h0 : loanMI I r k more = Is 0) (j0 : mdA (loanMI I r k more) lo J 4 = Js 0) : Met l yX5_loan wsX5_loan ({ frames := 7, cells := 0, slots := 0, locals := 177 }) (va_Pc [.ref (ad 102), .int (nI (r)), .int (nI (k)), .int (more)] (wPre nW D cA ad I J X sz)) (qI nW D cA ad sz (Is 4 103 (5 * r + k)) (Is 4) (Js 4) X) 0 0 (fr nW ad sz) := by
  refine Met.ofW (cc := cX5_loan) (maxL := 5) (ret := (some .int)) (by decide) rfl ?_
  intro p e s m args below meth c s₁ B hml hv
  obtain ⟨rfl, rfl, hP, hK⟩ := hv
  have hx := B.exec
  have hb := B.bytes
  have hr := B.returns
  have hts := atoms_spec (ws := wsX5_loan) B.pre
  have hown : s.vm.findClass RX5 = some m.cls := findClass_of_methodNamed B.named
  have hlocks := B.notSynchronized
  have hS : va_S (fr nW ad s.heap.size) s.heap s.heap [] := va_S.rf
  have hA : ∀ k, k < nW → fr nW ad s.heap.size (ad k) := fr_ad
  have hl := lv_entry ([.ref (ad 102), .int (nI (r)), .int (nI (k)), .int (more)]) (n := 5) (Nat.le_of_ble_eq_true rfl)
  rw [lg_entry_eq]
  generalize (lg_sl ([.ref (ad 102), .int (nI (r)), .int (nI (k)), .int (more)]) ++ List.replicate (5 - (lg_sl ([.ref (ad 102), .int (nI (r)), .int (nI (k)), .int (more)])).length) Slot.unset).toArray = ls at hl ⊢
  have hl : lv_has ls 5 [(0, .ref (ad 102)), (1, .int (nI (r))), (2, .int (nI (k))), (3, .int (more))] := hl
  have hS0 := hS
  suffices K : ∀ (H : Heap) (locs : List Loc), WP nW D cA ad I J X H → va_S (fr nW ad s.heap.size) s.heap H locs → W p l e (headSpec wsX5_loan ({ frames := 7, cells := 0, slots := 0, locals := 177 })).room s m ([.ref (ad 102), .int (nI (r)), .int (nI (k)), .int (more)] : List Value).toArray below meth c H locs 0 0 (MQ below (qI nW D cA ad s.heap.size (Is 4 103 (5 * r + k)) (Is 4) (Js 4) X) ([.ref (ad 102), .int (nI (r)), .int (nI (k)), .int (more)] : List Value).toArray s 0 0 (fr nW ad s.heap.size)) (F0 m 0 ls []) from K _ _ hP hS
  clear hP hS hS0
  intro H locs hP hS
  refine lv_aload_n hx hb dX5_loan_0 rfl (lv_at hl 0 rfl) ?_
  refine lv_aload_n hx hb dX5_loan_1 rfl (lv_at hl 0 rfl) ?_
  refine lv_iload_n hx hb dX5_loan_2 rfl (lv_at hl 1 rfl) ?_
  refine lv_iload_n hx hb dX5_loan_3 rfl (lv_at hl 2 rfl) ?_
  refine w_calli (va_runV (As := [.int (nI (r)), .int (nI (k))]) (rest := [.ref (ad 102)]) ⟨hx, hb, hml, hown, hts⟩ (c_X5_isPair l nW D cA ad hi hNW I J X H.size (nI (r)) (nI (k))) (cwV 2 hts gX5_loan_X5_isPair rfl rfl rfl (by decide +kernel) ⟨Nat.le_of_ble_eq_true rfl, Nat.le_of_ble_eq_true rfl⟩) (w_preV hK hP 102 (by omega) ⟨rfl, rfl⟩ rfl) rfl rfl hl.1 rfl (lv_room (Nat.le_of_ble_eq_true rfl)) dX5_loan_4 ⟨Nat.le_of_ble_eq_true rfl, Nat.le_of_ble_eq_true rfl⟩) hS (fun H locs hP hS => ?_)
  refine w_topN (a := 1) hp ?_
  refine lv_if_ne (tgt := 14) hx hb dX5_loan_7 (by decide) (fun c7 => ?_) (fun c7 => ?_)
  · have qc7 : ¬ 1 = 0 := fun z => c7 ((wn_eq (a := 1) (b := 0) rfl rfl (by omega) (by omega)).mpr z)
    refine lv_aload_n hx hb dX5_loan_14 rfl (lv_at hl 0 rfl) ?_
    refine lv_iload_n hx hb dX5_loan_15 rfl (lv_at hl 3 rfl) ?_
    refine lv_iconst (v := 1) hx hb dX5_loan_16 (by decide) ?_
    refine lv_bipush (v := 99) hx hb dX5_loan_17 (by decide) ?_
    refine w_calli (va_runV (As := [.int (more), .int (1), .int (99)]) (rest := [.ref (ad 102)]) ⟨hx, hb, hml, hown, hts⟩ (c_X5_in l nW D cA ad hi hNW I J X H.size more 1 99) (cwV 3 hts gX5_loan_X5_in rfl rfl rfl (by decide +kernel) ⟨Nat.le_of_ble_eq_true rfl, Nat.le_of_ble_eq_true rfl⟩) (w_preV hK hP 102 (by omega) ⟨rfl, rfl⟩ rfl) rfl rfl hl.1 rfl (lv_room (Nat.le_of_ble_eq_true rfl)) dX5_loan_19 ⟨Nat.le_of_ble_eq_true rfl, Nat.le_of_ble_eq_true rfl⟩) hS (fun H locs hP hS => ?_)
    refine w_topN (a := 1) hm ?_
    refine lv_if_eq (tgt := 29) hx hb dX5_loan_22 (by decide) (fun c22 => ?_) (fun c22 => ?_)
    · have qc22 : 1 = 0 := (wn_eq (a := 1) (b := 0) rfl rfl (by omega) (by omega)).mp c22
      exact absurd qc22 (by omega)
    · have qc22 : ¬ 1 = 0 := fun z => c22 ((wn_eq (a := 1) (b := 0) rfl rfl (by omega) (by omega)).mpr z)
      refine lv_iconst (v := 0) hx hb dX5_loan_25 (by decide) ?_
      refine lv_goto (tgt := 30) hx hb dX5_loan_26 (by decide) ?_
      refine w_calli (va_runV (As := [.int (0)]) (rest := []) ⟨hx, hb, hml, hown, hts⟩ (c_X5_fails l nW D cA ad hi hNW I J X H.size 0) (cwV 1 hts gX5_loan_X5_fails rfl rfl rfl (by decide +kernel) ⟨Nat.le_of_ble_eq_true rfl, Nat.le_of_ble_eq_true rfl⟩) (w_preV hK hP 102 (by omega) ⟨rfl, rfl⟩ rfl) rfl rfl hl.1 rfl (lv_room (Nat.le_of_ble_eq_true rfl)) dX5_loan_30 ⟨Nat.le_of_ble_eq_true rfl, Nat.le_of_ble_eq_true rfl⟩) hS (fun H locs hP hS => ?_)
      refine w_topN (a := 0) (by decide) ?_
      refine lv_if_eq (tgt := 38) hx hb dX5_loan_33 (by decide) (fun c33 => ?_) (fun c33 => ?_)
      · have qc33 : 0 = 0 := (wn_eq (a := 0) (b := 0) rfl rfl (by omega) (by omega)).mp c33
        refine lv_aload_n hx hb dX5_loan_38 rfl (lv_at hl 0 rfl) ?_
        refine w_get (C := RX5) (T := TX5) (N := 15) (v := .ref (ad 103)) (index := 7) hx hb hts inX5_loan_X5 hown hK hP 102 0 ⟨rfl, rfl, by decide⟩ (by omega) rfl (List.mem_of_getElem? (i := 1) rfl) (fun _ h9 => h9) dX5_loan_39 ?_
        refine lv_iconst (v := 5) hx hb dX5_loan_42 (by decide) ?_
        refine lv_iload_n hx hb dX5_loan_43 rfl (lv_at hl 1 rfl) ?_
        refine w_imulN (a := 5) (b := r) hx hb rfl rfl dX5_loan_44 ?_
        refine lv_iload_n hx hb dX5_loan_45 rfl (lv_at hl 2 rfl) ?_
        refine w_iaddN (a := (5 * r)) (b := k) hx hb rfl rfl dX5_loan_46 ?_
        refine w_iald hx hb hK hP 103 ((5 * r) + k) ⟨rfl, (by show (5 * r) + k < 20; omega)⟩ (by omega) rfl dX5_loan_47 ?_
        refine lv_iload_n hx hb dX5_loan_48 rfl (lv_at hl 3 rfl) ?_
        refine lv_iadd hx hb dX5_loan_49 ?_
        refine lv_topi (fun its eits => ?_)
        refine lv_istore (lv' := [(4, .int (its)), (0, .ref (ad 102)), (1, .int (nI (r))), (2, .int (nI (k))), (3, .int (more))]) hx hb dX5_loan_50 hl (by decide) rfl (fun ls hl => ?_)
        refine lv_aload_n hx hb dX5_loan_52 rfl (lv_at hl 1 rfl) ?_
        refine w_get (C := RX5) (T := TX5) (N := 15) (v := .ref (ad 103)) (index := 7) hx hb hts inX5_loan_X5 hown hK hP 102 0 ⟨rfl, rfl, by decide⟩ (by omega) rfl (List.mem_of_getElem? (i := 1) rfl) (fun _ h9 => h9) dX5_loan_53 ?_
        refine lv_iconst (v := 5) hx hb dX5_loan_56 (by decide) ?_
        refine lv_iload_n hx hb dX5_loan_57 rfl (lv_at hl 2 rfl) ?_
        refine w_imulN (a := 5) (b := r) hx hb rfl rfl dX5_loan_58 ?_
        refine lv_iload_n hx hb dX5_loan_59 rfl (lv_at hl 3 rfl) ?_
        refine w_iaddN (a := (5 * r)) (b := k) hx hb rfl rfl dX5_loan_60 ?_
        refine lv_iload hx hb dX5_loan_61 (lv_at hl 0 rfl) ?_
        refine lv_bipush (v := 99) hx hb dX5_loan_63 (by decide) ?_
        refine lv_icmp_le (tgt := 73) hx hb dX5_loan_65 (by decide) (fun c65 => ?_) (fun c65 => ?_)
        · refine lv_iload hx hb dX5_loan_73 (lv_at hl 0 rfl) ?_
          refine w_iast (v := its) hx hb hK hP hi hA hS 103 ((5 * r) + k) ⟨rfl, (by show (5 * r) + k < 20; omega)⟩ (by omega) rfl dX5_loan_75 (fun H locs hP hS => ?_)
          obtain ⟨I_1, eI_1⟩ : ∃ y, y = st2 (st2 I 102 14 0) 103 ((5 * r) + k) (its) := ⟨_, rfl⟩
          have hP : WP nW D cA ad I_1 J X H := by rw [eI_1]; exact hP
          refine lv_aload_n hx hb dX5_loan_76 rfl (lv_at hl 1 rfl) ?_
          refine w_callv (va_runV (As := []) (rest := []) ⟨hx, hb, hml, hown, hts⟩ (c_X5_mends l nW D cA ad hi hNW I_1 J X H.size lo Is Js hM (by subst_vars; rw [← h0]; unfold loanMI capW; rw [if_pos c65]) (by subst_vars; rw [← j0]; unfold loanMI capW; rw [if_pos c65])) (cwV 0 hts gX5_loan_X5_mends rfl rfl rfl (by decide +kernel) ⟨Nat.le_of_ble_eq_true rfl, Nat.le_of_ble_eq_true rfl⟩) (w_preV hK hP 102 (by omega) ⟨rfl, rfl⟩ rfl) rfl rfl hl.1 rfl (lv_room (Nat.le_of_ble_eq_true rfl)) dX5_loan_77 ⟨Nat.le_of_ble_eq_true rfl, Nat.le_of_ble_eq_true rfl⟩) hS (fun H locs hP hS => ?_)
          refine lv_aload_n hx hb dX5_loan_80 rfl (lv_at hl 1 rfl) ?_
          refine w_get (C := RX5) (T := TX5) (N := 15) (v := .ref (ad 103)) (index := 7) hx hb hts inX5_loan_X5 hown hK hP 102 0 ⟨rfl, rfl, by decide⟩ (by omega) rfl (List.mem_of_getElem? (i := 1) rfl) (fun _ h9 => h9) dX5_loan_81 ?_
          refine lv_iconst (v := 5) hx hb dX5_loan_84 (by decide) ?_
          refine lv_iload_n hx hb dX5_loan_85 rfl (lv_at hl 2 rfl) ?_
          refine w_imulN (a := 5) (b := r) hx hb rfl rfl dX5_loan_86 ?_
          refine lv_iload_n hx hb dX5_loan_87 rfl (lv_at hl 3 rfl) ?_
          refine w_iaddN (a := (5 * r)) (b := k) hx hb rfl rfl dX5_loan_88 ?_
          refine w_iald hx hb hK hP 103 ((5 * r) + k) ⟨rfl, (by show (5 * r) + k < 20; omega)⟩ (by omega) rfl dX5_loan_89 ?_
          exact w_iret hx hb hr hlocks hK hP hS ⟨by subst_vars; rfl, by subst_vars; rfl, by subst_vars; rfl, by subst_vars; rfl⟩ dX5_loan_90
        · refine lv_bipush (v := 99) hx hb dX5_loan_68 (by decide) ?_
          refine lv_goto (tgt := 75) hx hb dX5_loan_70 (by decide) ?_
          refine w_iast (v := 99) hx hb hK hP hi hA hS 103 ((5 * r) + k) ⟨rfl, (by show (5 * r) + k < 20; omega)⟩ (by omega) rfl dX5_loan_75 (fun H locs hP hS => ?_)
          obtain ⟨I_2, eI_2⟩ : ∃ y, y = st2 (st2 I 102 14 0) 103 ((5 * r) + k) (99) := ⟨_, rfl⟩
          have hP : WP nW D cA ad I_2 J X H := by rw [eI_2]; exact hP
          refine lv_aload_n hx hb dX5_loan_76 rfl (lv_at hl 1 rfl) ?_
          refine w_callv (va_runV (As := []) (rest := []) ⟨hx, hb, hml, hown, hts⟩ (c_X5_mends l nW D cA ad hi hNW I_2 J X H.size lo Is Js hM (by subst_vars; rw [← h0]; unfold loanMI capW; rw [if_neg c65]) (by subst_vars; rw [← j0]; unfold loanMI capW; rw [if_neg c65])) (cwV 0 hts gX5_loan_X5_mends rfl rfl rfl (by decide +kernel) ⟨Nat.le_of_ble_eq_true rfl, Nat.le_of_ble_eq_true rfl⟩) (w_preV hK hP 102 (by omega) ⟨rfl, rfl⟩ rfl) rfl rfl hl.1 rfl (lv_room (Nat.le_of_ble_eq_true rfl)) dX5_loan_77 ⟨Nat.le_of_ble_eq_true rfl, Nat.le_of_ble_eq_true rfl⟩) hS (fun H locs hP hS => ?_)
          refine lv_aload_n hx hb dX5_loan_80 rfl (lv_at hl 1 rfl) ?_
          refine w_get (C := RX5) (T := TX5) (N := 15) (v := .ref (ad 103)) (index := 7) hx hb hts inX5_loan_X5 hown hK hP 102 0 ⟨rfl, rfl, by decide⟩ (by omega) rfl (List.mem_of_getElem? (i := 1) rfl) (fun _ h9 => h9) dX5_loan_81 ?_
          refine lv_iconst (v := 5) hx hb dX5_loan_84 (by decide) ?_
          refine lv_iload_n hx hb dX5_loan_85 rfl (lv_at hl 2 rfl) ?_
          refine w_imulN (a := 5) (b := r) hx hb rfl rfl dX5_loan_86 ?_
          refine lv_iload_n hx hb dX5_loan_87 rfl (lv_at hl 3 rfl) ?_
          refine w_iaddN (a := (5 * r)) (b := k) hx hb rfl rfl dX5_loan_88 ?_
          refine w_iald hx hb hK hP 103 ((5 * r) + k) ⟨rfl, (by show (5 * r) + k < 20; omega)⟩ (by omega) rfl dX5_loan_89 ?_
          exact w_iret hx hb hr hlocks hK hP hS ⟨by subst_vars; rfl, by subst_vars; rfl, by subst_vars; rfl, by subst_vars; rfl⟩ dX5_loan_90
      · have qc33 : ¬ 0 = 0 := fun z => c33 ((wn_eq (a := 0) (b := 0) rfl rfl (by omega) (by omega)).mpr z)
        exact absurd qc33 (by omega)
  · have qc7 : 1 = 0 := (wn_eq (a := 1) (b := 0) rfl rfl (by omega) (by omega)).mp c7
    exact absurd qc7 (by omega)

set_option maxHeartbeats 4000000 in
set_option maxRecDepth 100000 in
/-- X5_loan -/
theorem c_X5_loan_f1 (l : Launch) (nW : Nat) (D : va_G) (cA : Nat → ClassId) (ad : Nat → Nat) (hi : inj nW ad) (hNW : 114 ≤ nW) (I : SI) (J : SJ) (X : SX) (sz : Nat) (r k more : Int32) (hp : isPairF r k = 0) : Met l yX5_loan wsX5_loan ({ frames := 7, cells := 0, slots := 0, locals := 177 }) (va_Pc [.ref (ad 102), .int (r), .int (k), .int (more)] (wPre nW D cA ad I J X sz)) (qI nW D cA ad sz (-1) (st2 I 102 14 1) J X) 0 0 (fr nW ad sz) := by
  refine Met.ofW (cc := cX5_loan) (maxL := 5) (ret := (some .int)) (by decide) rfl ?_
  intro p e s m args below meth c s₁ B hml hv
  obtain ⟨rfl, rfl, hP, hK⟩ := hv
  have hx := B.exec
  have hb := B.bytes
  have hr := B.returns
  have hts := atoms_spec (ws := wsX5_loan) B.pre
  have hown : s.vm.findClass RX5 = some m.cls := findClass_of_methodNamed B.named
  have hlocks := B.notSynchronized
  have hS : va_S (fr nW ad s.heap.size) s.heap s.heap [] := va_S.rf
  have hA : ∀ k, k < nW → fr nW ad s.heap.size (ad k) := fr_ad
  have hl := lv_entry ([.ref (ad 102), .int (r), .int (k), .int (more)]) (n := 5) (Nat.le_of_ble_eq_true rfl)
  rw [lg_entry_eq]
  generalize (lg_sl ([.ref (ad 102), .int (r), .int (k), .int (more)]) ++ List.replicate (5 - (lg_sl ([.ref (ad 102), .int (r), .int (k), .int (more)])).length) Slot.unset).toArray = ls at hl ⊢
  have hl : lv_has ls 5 [(0, .ref (ad 102)), (1, .int (r)), (2, .int (k)), (3, .int (more))] := hl
  have hS0 := hS
  suffices K : ∀ (H : Heap) (locs : List Loc), WP nW D cA ad I J X H → va_S (fr nW ad s.heap.size) s.heap H locs → W p l e (headSpec wsX5_loan ({ frames := 7, cells := 0, slots := 0, locals := 177 })).room s m ([.ref (ad 102), .int (r), .int (k), .int (more)] : List Value).toArray below meth c H locs 0 0 (MQ below (qI nW D cA ad s.heap.size (-1) (st2 I 102 14 1) J X) ([.ref (ad 102), .int (r), .int (k), .int (more)] : List Value).toArray s 0 0 (fr nW ad s.heap.size)) (F0 m 0 ls []) from K _ _ hP hS
  clear hP hS hS0
  intro H locs hP hS
  refine lv_aload_n hx hb dX5_loan_0 rfl (lv_at hl 0 rfl) ?_
  refine lv_aload_n hx hb dX5_loan_1 rfl (lv_at hl 0 rfl) ?_
  refine lv_iload_n hx hb dX5_loan_2 rfl (lv_at hl 1 rfl) ?_
  refine lv_iload_n hx hb dX5_loan_3 rfl (lv_at hl 2 rfl) ?_
  refine w_calli (va_runV (As := [.int (r), .int (k)]) (rest := [.ref (ad 102)]) ⟨hx, hb, hml, hown, hts⟩ (c_X5_isPair l nW D cA ad hi hNW I J X H.size r k) (cwV 2 hts gX5_loan_X5_isPair rfl rfl rfl (by decide +kernel) ⟨Nat.le_of_ble_eq_true rfl, Nat.le_of_ble_eq_true rfl⟩) (w_preV hK hP 102 (by omega) ⟨rfl, rfl⟩ rfl) rfl rfl hl.1 rfl (lv_room (Nat.le_of_ble_eq_true rfl)) dX5_loan_4 ⟨Nat.le_of_ble_eq_true rfl, Nat.le_of_ble_eq_true rfl⟩) hS (fun H locs hP hS => ?_)
  refine w_topN (a := 0) hp ?_
  refine lv_if_ne (tgt := 14) hx hb dX5_loan_7 (by decide) (fun c7 => ?_) (fun c7 => ?_)
  · have qc7 : ¬ 0 = 0 := fun z => c7 ((wn_eq (a := 0) (b := 0) rfl rfl (by omega) (by omega)).mpr z)
    exact absurd qc7 (by omega)
  · have qc7 : 0 = 0 := (wn_eq (a := 0) (b := 0) rfl rfl (by omega) (by omega)).mp c7
    refine lv_iconst (v := 1) hx hb dX5_loan_10 (by decide) ?_
    refine lv_goto (tgt := 30) hx hb dX5_loan_11 (by decide) ?_
    refine w_calli (va_runV (As := [.int (1)]) (rest := []) ⟨hx, hb, hml, hown, hts⟩ (c_X5_fails l nW D cA ad hi hNW I J X H.size 1) (cwV 1 hts gX5_loan_X5_fails rfl rfl rfl (by decide +kernel) ⟨Nat.le_of_ble_eq_true rfl, Nat.le_of_ble_eq_true rfl⟩) (w_preV hK hP 102 (by omega) ⟨rfl, rfl⟩ rfl) rfl rfl hl.1 rfl (lv_room (Nat.le_of_ble_eq_true rfl)) dX5_loan_30 ⟨Nat.le_of_ble_eq_true rfl, Nat.le_of_ble_eq_true rfl⟩) hS (fun H locs hP hS => ?_)
    refine w_topN (a := 1) (by decide) ?_
    refine lv_if_eq (tgt := 38) hx hb dX5_loan_33 (by decide) (fun c33 => ?_) (fun c33 => ?_)
    · have qc33 : 1 = 0 := (wn_eq (a := 1) (b := 0) rfl rfl (by omega) (by omega)).mp c33
      exact absurd qc33 (by omega)
    · have qc33 : ¬ 1 = 0 := fun z => c33 ((wn_eq (a := 1) (b := 0) rfl rfl (by omega) (by omega)).mpr z)
      refine lv_iconst (v := (-1)) hx hb dX5_loan_36 (by decide) ?_
      exact w_iret hx hb hr hlocks hK hP hS ⟨by subst_vars; rfl, by subst_vars; rfl, by subst_vars; rfl, by subst_vars; rfl⟩ dX5_loan_37

set_option maxHeartbeats 4000000 in
set_option maxRecDepth 100000 in
/-- X5_loan -/
theorem c_X5_loan_f2 (l : Launch) (nW : Nat) (D : va_G) (cA : Nat → ClassId) (ad : Nat → Nat) (hi : inj nW ad) (hNW : 114 ≤ nW) (I : SI) (J : SJ) (X : SX) (sz : Nat) (r k more : Int32) (hp : isPairF r k = 1) (hm : inF more 1 99 = 0) : Met l yX5_loan wsX5_loan ({ frames := 7, cells := 0, slots := 0, locals := 177 }) (va_Pc [.ref (ad 102), .int (r), .int (k), .int (more)] (wPre nW D cA ad I J X sz)) (qI nW D cA ad sz (-1) (st2 I 102 14 2) J X) 0 0 (fr nW ad sz) := by
  refine Met.ofW (cc := cX5_loan) (maxL := 5) (ret := (some .int)) (by decide) rfl ?_
  intro p e s m args below meth c s₁ B hml hv
  obtain ⟨rfl, rfl, hP, hK⟩ := hv
  have hx := B.exec
  have hb := B.bytes
  have hr := B.returns
  have hts := atoms_spec (ws := wsX5_loan) B.pre
  have hown : s.vm.findClass RX5 = some m.cls := findClass_of_methodNamed B.named
  have hlocks := B.notSynchronized
  have hS : va_S (fr nW ad s.heap.size) s.heap s.heap [] := va_S.rf
  have hA : ∀ k, k < nW → fr nW ad s.heap.size (ad k) := fr_ad
  have hl := lv_entry ([.ref (ad 102), .int (r), .int (k), .int (more)]) (n := 5) (Nat.le_of_ble_eq_true rfl)
  rw [lg_entry_eq]
  generalize (lg_sl ([.ref (ad 102), .int (r), .int (k), .int (more)]) ++ List.replicate (5 - (lg_sl ([.ref (ad 102), .int (r), .int (k), .int (more)])).length) Slot.unset).toArray = ls at hl ⊢
  have hl : lv_has ls 5 [(0, .ref (ad 102)), (1, .int (r)), (2, .int (k)), (3, .int (more))] := hl
  have hS0 := hS
  suffices K : ∀ (H : Heap) (locs : List Loc), WP nW D cA ad I J X H → va_S (fr nW ad s.heap.size) s.heap H locs → W p l e (headSpec wsX5_loan ({ frames := 7, cells := 0, slots := 0, locals := 177 })).room s m ([.ref (ad 102), .int (r), .int (k), .int (more)] : List Value).toArray below meth c H locs 0 0 (MQ below (qI nW D cA ad s.heap.size (-1) (st2 I 102 14 2) J X) ([.ref (ad 102), .int (r), .int (k), .int (more)] : List Value).toArray s 0 0 (fr nW ad s.heap.size)) (F0 m 0 ls []) from K _ _ hP hS
  clear hP hS hS0
  intro H locs hP hS
  refine lv_aload_n hx hb dX5_loan_0 rfl (lv_at hl 0 rfl) ?_
  refine lv_aload_n hx hb dX5_loan_1 rfl (lv_at hl 0 rfl) ?_
  refine lv_iload_n hx hb dX5_loan_2 rfl (lv_at hl 1 rfl) ?_
  refine lv_iload_n hx hb dX5_loan_3 rfl (lv_at hl 2 rfl) ?_
  refine w_calli (va_runV (As := [.int (r), .int (k)]) (rest := [.ref (ad 102)]) ⟨hx, hb, hml, hown, hts⟩ (c_X5_isPair l nW D cA ad hi hNW I J X H.size r k) (cwV 2 hts gX5_loan_X5_isPair rfl rfl rfl (by decide +kernel) ⟨Nat.le_of_ble_eq_true rfl, Nat.le_of_ble_eq_true rfl⟩) (w_preV hK hP 102 (by omega) ⟨rfl, rfl⟩ rfl) rfl rfl hl.1 rfl (lv_room (Nat.le_of_ble_eq_true rfl)) dX5_loan_4 ⟨Nat.le_of_ble_eq_true rfl, Nat.le_of_ble_eq_true rfl⟩) hS (fun H locs hP hS => ?_)
  refine w_topN (a := 1) hp ?_
  refine lv_if_ne (tgt := 14) hx hb dX5_loan_7 (by decide) (fun c7 => ?_) (fun c7 => ?_)
  · have qc7 : ¬ 1 = 0 := fun z => c7 ((wn_eq (a := 1) (b := 0) rfl rfl (by omega) (by omega)).mpr z)
    refine lv_aload_n hx hb dX5_loan_14 rfl (lv_at hl 0 rfl) ?_
    refine lv_iload_n hx hb dX5_loan_15 rfl (lv_at hl 3 rfl) ?_
    refine lv_iconst (v := 1) hx hb dX5_loan_16 (by decide) ?_
    refine lv_bipush (v := 99) hx hb dX5_loan_17 (by decide) ?_
    refine w_calli (va_runV (As := [.int (more), .int (1), .int (99)]) (rest := [.ref (ad 102)]) ⟨hx, hb, hml, hown, hts⟩ (c_X5_in l nW D cA ad hi hNW I J X H.size more 1 99) (cwV 3 hts gX5_loan_X5_in rfl rfl rfl (by decide +kernel) ⟨Nat.le_of_ble_eq_true rfl, Nat.le_of_ble_eq_true rfl⟩) (w_preV hK hP 102 (by omega) ⟨rfl, rfl⟩ rfl) rfl rfl hl.1 rfl (lv_room (Nat.le_of_ble_eq_true rfl)) dX5_loan_19 ⟨Nat.le_of_ble_eq_true rfl, Nat.le_of_ble_eq_true rfl⟩) hS (fun H locs hP hS => ?_)
    refine w_topN (a := 0) hm ?_
    refine lv_if_eq (tgt := 29) hx hb dX5_loan_22 (by decide) (fun c22 => ?_) (fun c22 => ?_)
    · have qc22 : 0 = 0 := (wn_eq (a := 0) (b := 0) rfl rfl (by omega) (by omega)).mp c22
      refine lv_iconst (v := 2) hx hb dX5_loan_29 (by decide) ?_
      refine w_calli (va_runV (As := [.int (2)]) (rest := []) ⟨hx, hb, hml, hown, hts⟩ (c_X5_fails l nW D cA ad hi hNW I J X H.size 2) (cwV 1 hts gX5_loan_X5_fails rfl rfl rfl (by decide +kernel) ⟨Nat.le_of_ble_eq_true rfl, Nat.le_of_ble_eq_true rfl⟩) (w_preV hK hP 102 (by omega) ⟨rfl, rfl⟩ rfl) rfl rfl hl.1 rfl (lv_room (Nat.le_of_ble_eq_true rfl)) dX5_loan_30 ⟨Nat.le_of_ble_eq_true rfl, Nat.le_of_ble_eq_true rfl⟩) hS (fun H locs hP hS => ?_)
      refine w_topN (a := 1) (by decide) ?_
      refine lv_if_eq (tgt := 38) hx hb dX5_loan_33 (by decide) (fun c33 => ?_) (fun c33 => ?_)
      · have qc33 : 1 = 0 := (wn_eq (a := 1) (b := 0) rfl rfl (by omega) (by omega)).mp c33
        exact absurd qc33 (by omega)
      · have qc33 : ¬ 1 = 0 := fun z => c33 ((wn_eq (a := 1) (b := 0) rfl rfl (by omega) (by omega)).mpr z)
        refine lv_iconst (v := (-1)) hx hb dX5_loan_36 (by decide) ?_
        exact w_iret hx hb hr hlocks hK hP hS ⟨by subst_vars; rfl, by subst_vars; rfl, by subst_vars; rfl, by subst_vars; rfl⟩ dX5_loan_37
    · have qc22 : ¬ 0 = 0 := fun z => c22 ((wn_eq (a := 0) (b := 0) rfl rfl (by omega) (by omega)).mpr z)
      exact absurd qc22 (by omega)
  · have qc7 : 1 = 0 := (wn_eq (a := 1) (b := 0) rfl rfl (by omega) (by omega)).mp c7
    exact absurd qc7 (by omega)

theorem inX5_strike_X5 : ∀ w ∈ wsX50, w ∈ wsX5_strike := by decide +kernel
set_option maxHeartbeats 4000000 in
set_option maxRecDepth 100000 in
/-- X5_strike -/
theorem c_X5_strike_ok (l : Launch) (nW : Nat) (D : va_G) (cA : Nat → ClassId) (ad : Nat → Nat) (hi : inj nW ad) (hNW : 114 ≤ nW) (I : SI) (J : SJ) (X : SX) (sz : Nat) (r k : Nat) (hr4 : r < 4) (hk5 : k < 5) (hp : isPairF (nI r) (nI k) = 1) (hz : ¬ I 103 (5 * r + k) = 0) (lo : Nat → Nat → Nat) (Is : Nat → SI) (Js : Nat → SJ) (hM : SettOK lo Is Js) (h0 : strikeMI I r k = Is 0) (j0 : mdA (strikeMI I r k) lo J 4 = Js 0) : Met l yX5_strike wsX5_strike ({ frames := 7, cells := 0, slots := 0, locals := 177 }) (va_Pc [.ref (ad 102), .int (nI (r)), .int (nI (k))] (wPre nW D cA ad I J X sz)) (qI nW D cA ad sz (I 103 (5 * r + k)) (Is 4) (Js 4) X) 0 0 (fr nW ad sz) := by
  refine Met.ofW (cc := cX5_strike) (maxL := 5) (ret := (some .int)) (by decide) rfl ?_
  intro p e s m args below meth c s₁ B hml hv
  obtain ⟨rfl, rfl, hP, hK⟩ := hv
  have hx := B.exec
  have hb := B.bytes
  have hr := B.returns
  have hts := atoms_spec (ws := wsX5_strike) B.pre
  have hown : s.vm.findClass RX5 = some m.cls := findClass_of_methodNamed B.named
  have hlocks := B.notSynchronized
  have hS : va_S (fr nW ad s.heap.size) s.heap s.heap [] := va_S.rf
  have hA : ∀ k, k < nW → fr nW ad s.heap.size (ad k) := fr_ad
  have hl := lv_entry ([.ref (ad 102), .int (nI (r)), .int (nI (k))]) (n := 5) (Nat.le_of_ble_eq_true rfl)
  rw [lg_entry_eq]
  generalize (lg_sl ([.ref (ad 102), .int (nI (r)), .int (nI (k))]) ++ List.replicate (5 - (lg_sl ([.ref (ad 102), .int (nI (r)), .int (nI (k))])).length) Slot.unset).toArray = ls at hl ⊢
  have hl : lv_has ls 5 [(0, .ref (ad 102)), (1, .int (nI (r))), (2, .int (nI (k)))] := hl
  have hS0 := hS
  suffices K : ∀ (H : Heap) (locs : List Loc), WP nW D cA ad I J X H → va_S (fr nW ad s.heap.size) s.heap H locs → W p l e (headSpec wsX5_strike ({ frames := 7, cells := 0, slots := 0, locals := 177 })).room s m ([.ref (ad 102), .int (nI (r)), .int (nI (k))] : List Value).toArray below meth c H locs 0 0 (MQ below (qI nW D cA ad s.heap.size (I 103 (5 * r + k)) (Is 4) (Js 4) X) ([.ref (ad 102), .int (nI (r)), .int (nI (k))] : List Value).toArray s 0 0 (fr nW ad s.heap.size)) (F0 m 0 ls []) from K _ _ hP hS
  clear hP hS hS0
  intro H locs hP hS
  refine lv_aload_n hx hb dX5_strike_0 rfl (lv_at hl 0 rfl) ?_
  refine lv_iload_n hx hb dX5_strike_1 rfl (lv_at hl 1 rfl) ?_
  refine lv_iload_n hx hb dX5_strike_2 rfl (lv_at hl 2 rfl) ?_
  refine w_calli (va_runV (As := [.int (nI (r)), .int (nI (k))]) (rest := []) ⟨hx, hb, hml, hown, hts⟩ (c_X5_isPair l nW D cA ad hi hNW I J X H.size (nI (r)) (nI (k))) (cwV 2 hts gX5_strike_X5_isPair rfl rfl rfl (by decide +kernel) ⟨Nat.le_of_ble_eq_true rfl, Nat.le_of_ble_eq_true rfl⟩) (w_preV hK hP 102 (by omega) ⟨rfl, rfl⟩ rfl) rfl rfl hl.1 rfl (lv_room (Nat.le_of_ble_eq_true rfl)) dX5_strike_3 ⟨Nat.le_of_ble_eq_true rfl, Nat.le_of_ble_eq_true rfl⟩) hS (fun H locs hP hS => ?_)
  refine w_topN (a := 1) hp ?_
  refine lv_istore_n (lv' := [(3, .int (nI (1))), (0, .ref (ad 102)), (1, .int (nI (r))), (2, .int (nI (k)))]) hx hb dX5_strike_6 rfl hl (by decide) rfl (fun ls hl => ?_)
  refine lv_aload_n hx hb dX5_strike_7 rfl (lv_at hl 1 rfl) ?_
  refine lv_iload_n hx hb dX5_strike_8 rfl (lv_at hl 0 rfl) ?_
  refine lv_if_ne (tgt := 16) hx hb dX5_strike_9 (by decide) (fun c9 => ?_) (fun c9 => ?_)
  · have qc9 : ¬ 1 = 0 := fun z => c9 ((wn_eq (a := 1) (b := 0) rfl rfl (by omega) (by omega)).mpr z)
    refine lv_aload_n hx hb dX5_strike_16 rfl (lv_at hl 1 rfl) ?_
    refine w_get (C := RX5) (T := TX5) (N := 15) (v := .ref (ad 103)) (index := 7) hx hb hts inX5_strike_X5 hown hK hP 102 0 ⟨rfl, rfl, by decide⟩ (by omega) rfl (List.mem_of_getElem? (i := 1) rfl) (fun _ h9 => h9) dX5_strike_17 ?_
    refine lv_iconst (v := 5) hx hb dX5_strike_20 (by decide) ?_
    refine lv_iload_n hx hb dX5_strike_21 rfl (lv_at hl 2 rfl) ?_
    refine w_imulN (a := 5) (b := r) hx hb rfl rfl dX5_strike_22 ?_
    refine lv_iload_n hx hb dX5_strike_23 rfl (lv_at hl 3 rfl) ?_
    refine w_iaddN (a := (5 * r)) (b := k) hx hb rfl rfl dX5_strike_24 ?_
    refine w_iald hx hb hK hP 103 ((5 * r) + k) ⟨rfl, (by show (5 * r) + k < 20; omega)⟩ (by omega) rfl dX5_strike_25 ?_
    refine lv_if_ne (tgt := 33) hx hb dX5_strike_26 (by decide) (fun c26 => ?_) (fun c26 => ?_)
    · refine lv_iconst (v := 0) hx hb dX5_strike_33 (by decide) ?_
      refine w_calli (va_runV (As := [.int (0)]) (rest := []) ⟨hx, hb, hml, hown, hts⟩ (c_X5_fails l nW D cA ad hi hNW I J X H.size 0) (cwV 1 hts gX5_strike_X5_fails rfl rfl rfl (by decide +kernel) ⟨Nat.le_of_ble_eq_true rfl, Nat.le_of_ble_eq_true rfl⟩) (w_preV hK hP 102 (by omega) ⟨rfl, rfl⟩ rfl) rfl rfl hl.1 rfl (lv_room (Nat.le_of_ble_eq_true rfl)) dX5_strike_34 ⟨Nat.le_of_ble_eq_true rfl, Nat.le_of_ble_eq_true rfl⟩) hS (fun H locs hP hS => ?_)
      refine w_topN (a := 0) (by decide) ?_
      refine lv_if_eq (tgt := 42) hx hb dX5_strike_37 (by decide) (fun c37 => ?_) (fun c37 => ?_)
      · have qc37 : 0 = 0 := (wn_eq (a := 0) (b := 0) rfl rfl (by omega) (by omega)).mp c37
        refine lv_aload_n hx hb dX5_strike_42 rfl (lv_at hl 1 rfl) ?_
        refine w_get (C := RX5) (T := TX5) (N := 15) (v := .ref (ad 103)) (index := 7) hx hb hts inX5_strike_X5 hown hK hP 102 0 ⟨rfl, rfl, by decide⟩ (by omega) rfl (List.mem_of_getElem? (i := 1) rfl) (fun _ h9 => h9) dX5_strike_43 ?_
        refine lv_iconst (v := 5) hx hb dX5_strike_46 (by decide) ?_
        refine lv_iload_n hx hb dX5_strike_47 rfl (lv_at hl 2 rfl) ?_
        refine w_imulN (a := 5) (b := r) hx hb rfl rfl dX5_strike_48 ?_
        refine lv_iload_n hx hb dX5_strike_49 rfl (lv_at hl 3 rfl) ?_
        refine w_iaddN (a := (5 * r)) (b := k) hx hb rfl rfl dX5_strike_50 ?_
        refine w_iald hx hb hK hP 103 ((5 * r) + k) ⟨rfl, (by show (5 * r) + k < 20; omega)⟩ (by omega) rfl dX5_strike_51 ?_
        refine lv_topi (fun its eits => ?_)
        refine lv_istore (lv' := [(4, .int (its)), (3, .int (nI (1))), (0, .ref (ad 102)), (1, .int (nI (r))), (2, .int (nI (k)))]) hx hb dX5_strike_52 hl (by decide) rfl (fun ls hl => ?_)
        refine lv_aload_n hx hb dX5_strike_54 rfl (lv_at hl 2 rfl) ?_
        refine w_get (C := RX5) (T := TX5) (N := 15) (v := .ref (ad 103)) (index := 7) hx hb hts inX5_strike_X5 hown hK hP 102 0 ⟨rfl, rfl, by decide⟩ (by omega) rfl (List.mem_of_getElem? (i := 1) rfl) (fun _ h9 => h9) dX5_strike_55 ?_
        refine lv_iconst (v := 5) hx hb dX5_strike_58 (by decide) ?_
        refine lv_iload_n hx hb dX5_strike_59 rfl (lv_at hl 3 rfl) ?_
        refine w_imulN (a := 5) (b := r) hx hb rfl rfl dX5_strike_60 ?_
        refine lv_iload_n hx hb dX5_strike_61 rfl (lv_at hl 4 rfl) ?_
        refine w_iaddN (a := (5 * r)) (b := k) hx hb rfl rfl dX5_strike_62 ?_
        refine lv_iconst (v := 0) hx hb dX5_strike_63 (by decide) ?_
        refine w_iast (v := 0) hx hb hK hP hi hA hS 103 ((5 * r) + k) ⟨rfl, (by show (5 * r) + k < 20; omega)⟩ (by omega) rfl dX5_strike_64 (fun H locs hP hS => ?_)
        obtain ⟨I_1, eI_1⟩ : ∃ y, y = st2 (st2 I 102 14 0) 103 ((5 * r) + k) (0) := ⟨_, rfl⟩
        have hP : WP nW D cA ad I_1 J X H := by rw [eI_1]; exact hP
        refine lv_aload_n hx hb dX5_strike_65 rfl (lv_at hl 2 rfl) ?_
        refine w_callv (va_runV (As := []) (rest := []) ⟨hx, hb, hml, hown, hts⟩ (c_X5_mends l nW D cA ad hi hNW I_1 J X H.size lo Is Js hM (by subst_vars; exact h0) (by subst_vars; exact j0)) (cwV 0 hts gX5_strike_X5_mends rfl rfl rfl (by decide +kernel) ⟨Nat.le_of_ble_eq_true rfl, Nat.le_of_ble_eq_true rfl⟩) (w_preV hK hP 102 (by omega) ⟨rfl, rfl⟩ rfl) rfl rfl hl.1 rfl (lv_room (Nat.le_of_ble_eq_true rfl)) dX5_strike_66 ⟨Nat.le_of_ble_eq_true rfl, Nat.le_of_ble_eq_true rfl⟩) hS (fun H locs hP hS => ?_)
        refine lv_iload hx hb dX5_strike_69 (lv_at hl 0 rfl) ?_
        exact w_iret hx hb hr hlocks hK hP hS ⟨by subst_vars; exact st2_n _ _ (by omega), by subst_vars; rfl, by subst_vars; rfl, by subst_vars; rfl⟩ dX5_strike_71
      · have qc37 : ¬ 0 = 0 := fun z => c37 ((wn_eq (a := 0) (b := 0) rfl rfl (by omega) (by omega)).mpr z)
        exact absurd qc37 (by omega)
    · exact absurd c26 hz
  · have qc9 : 1 = 0 := (wn_eq (a := 1) (b := 0) rfl rfl (by omega) (by omega)).mp c9
    exact absurd qc9 (by omega)

set_option maxHeartbeats 4000000 in
set_option maxRecDepth 100000 in
/-- X5_strike -/
theorem c_X5_strike_f1 (l : Launch) (nW : Nat) (D : va_G) (cA : Nat → ClassId) (ad : Nat → Nat) (hi : inj nW ad) (hNW : 114 ≤ nW) (I : SI) (J : SJ) (X : SX) (sz : Nat) (r k : Int32) (hp : isPairF r k = 0) : Met l yX5_strike wsX5_strike ({ frames := 7, cells := 0, slots := 0, locals := 177 }) (va_Pc [.ref (ad 102), .int (r), .int (k)] (wPre nW D cA ad I J X sz)) (qI nW D cA ad sz (-1) (st2 I 102 14 1) J X) 0 0 (fr nW ad sz) := by
  refine Met.ofW (cc := cX5_strike) (maxL := 5) (ret := (some .int)) (by decide) rfl ?_
  intro p e s m args below meth c s₁ B hml hv
  obtain ⟨rfl, rfl, hP, hK⟩ := hv
  have hx := B.exec
  have hb := B.bytes
  have hr := B.returns
  have hts := atoms_spec (ws := wsX5_strike) B.pre
  have hown : s.vm.findClass RX5 = some m.cls := findClass_of_methodNamed B.named
  have hlocks := B.notSynchronized
  have hS : va_S (fr nW ad s.heap.size) s.heap s.heap [] := va_S.rf
  have hA : ∀ k, k < nW → fr nW ad s.heap.size (ad k) := fr_ad
  have hl := lv_entry ([.ref (ad 102), .int (r), .int (k)]) (n := 5) (Nat.le_of_ble_eq_true rfl)
  rw [lg_entry_eq]
  generalize (lg_sl ([.ref (ad 102), .int (r), .int (k)]) ++ List.replicate (5 - (lg_sl ([.ref (ad 102), .int (r), .int (k)])).length) Slot.unset).toArray = ls at hl ⊢
  have hl : lv_has ls 5 [(0, .ref (ad 102)), (1, .int (r)), (2, .int (k))] := hl
  have hS0 := hS
  suffices K : ∀ (H : Heap) (locs : List Loc), WP nW D cA ad I J X H → va_S (fr nW ad s.heap.size) s.heap H locs → W p l e (headSpec wsX5_strike ({ frames := 7, cells := 0, slots := 0, locals := 177 })).room s m ([.ref (ad 102), .int (r), .int (k)] : List Value).toArray below meth c H locs 0 0 (MQ below (qI nW D cA ad s.heap.size (-1) (st2 I 102 14 1) J X) ([.ref (ad 102), .int (r), .int (k)] : List Value).toArray s 0 0 (fr nW ad s.heap.size)) (F0 m 0 ls []) from K _ _ hP hS
  clear hP hS hS0
  intro H locs hP hS
  refine lv_aload_n hx hb dX5_strike_0 rfl (lv_at hl 0 rfl) ?_
  refine lv_iload_n hx hb dX5_strike_1 rfl (lv_at hl 1 rfl) ?_
  refine lv_iload_n hx hb dX5_strike_2 rfl (lv_at hl 2 rfl) ?_
  refine w_calli (va_runV (As := [.int (r), .int (k)]) (rest := []) ⟨hx, hb, hml, hown, hts⟩ (c_X5_isPair l nW D cA ad hi hNW I J X H.size r k) (cwV 2 hts gX5_strike_X5_isPair rfl rfl rfl (by decide +kernel) ⟨Nat.le_of_ble_eq_true rfl, Nat.le_of_ble_eq_true rfl⟩) (w_preV hK hP 102 (by omega) ⟨rfl, rfl⟩ rfl) rfl rfl hl.1 rfl (lv_room (Nat.le_of_ble_eq_true rfl)) dX5_strike_3 ⟨Nat.le_of_ble_eq_true rfl, Nat.le_of_ble_eq_true rfl⟩) hS (fun H locs hP hS => ?_)
  refine w_topN (a := 0) hp ?_
  refine lv_istore_n (lv' := [(3, .int (nI (0))), (0, .ref (ad 102)), (1, .int (r)), (2, .int (k))]) hx hb dX5_strike_6 rfl hl (by decide) rfl (fun ls hl => ?_)
  refine lv_aload_n hx hb dX5_strike_7 rfl (lv_at hl 1 rfl) ?_
  refine lv_iload_n hx hb dX5_strike_8 rfl (lv_at hl 0 rfl) ?_
  refine lv_if_ne (tgt := 16) hx hb dX5_strike_9 (by decide) (fun c9 => ?_) (fun c9 => ?_)
  · have qc9 : ¬ 0 = 0 := fun z => c9 ((wn_eq (a := 0) (b := 0) rfl rfl (by omega) (by omega)).mpr z)
    exact absurd qc9 (by omega)
  · have qc9 : 0 = 0 := (wn_eq (a := 0) (b := 0) rfl rfl (by omega) (by omega)).mp c9
    refine lv_iconst (v := 1) hx hb dX5_strike_12 (by decide) ?_
    refine lv_goto (tgt := 34) hx hb dX5_strike_13 (by decide) ?_
    refine w_calli (va_runV (As := [.int (1)]) (rest := []) ⟨hx, hb, hml, hown, hts⟩ (c_X5_fails l nW D cA ad hi hNW I J X H.size 1) (cwV 1 hts gX5_strike_X5_fails rfl rfl rfl (by decide +kernel) ⟨Nat.le_of_ble_eq_true rfl, Nat.le_of_ble_eq_true rfl⟩) (w_preV hK hP 102 (by omega) ⟨rfl, rfl⟩ rfl) rfl rfl hl.1 rfl (lv_room (Nat.le_of_ble_eq_true rfl)) dX5_strike_34 ⟨Nat.le_of_ble_eq_true rfl, Nat.le_of_ble_eq_true rfl⟩) hS (fun H locs hP hS => ?_)
    refine w_topN (a := 1) (by decide) ?_
    refine lv_if_eq (tgt := 42) hx hb dX5_strike_37 (by decide) (fun c37 => ?_) (fun c37 => ?_)
    · have qc37 : 1 = 0 := (wn_eq (a := 1) (b := 0) rfl rfl (by omega) (by omega)).mp c37
      exact absurd qc37 (by omega)
    · have qc37 : ¬ 1 = 0 := fun z => c37 ((wn_eq (a := 1) (b := 0) rfl rfl (by omega) (by omega)).mpr z)
      refine lv_iconst (v := (-1)) hx hb dX5_strike_40 (by decide) ?_
      exact w_iret hx hb hr hlocks hK hP hS ⟨by subst_vars; rfl, by subst_vars; rfl, by subst_vars; rfl, by subst_vars; rfl⟩ dX5_strike_41

set_option maxHeartbeats 4000000 in
set_option maxRecDepth 100000 in
/-- X5_strike -/
theorem c_X5_strike_f2 (l : Launch) (nW : Nat) (D : va_G) (cA : Nat → ClassId) (ad : Nat → Nat) (hi : inj nW ad) (hNW : 114 ≤ nW) (I : SI) (J : SJ) (X : SX) (sz : Nat) (r k : Nat) (hr4 : r < 4) (hk5 : k < 5) (hp : isPairF (nI r) (nI k) = 1) (hz : I 103 (5 * r + k) = 0) : Met l yX5_strike wsX5_strike ({ frames := 7, cells := 0, slots := 0, locals := 177 }) (va_Pc [.ref (ad 102), .int (nI (r)), .int (nI (k))] (wPre nW D cA ad I J X sz)) (qI nW D cA ad sz (-1) (st2 I 102 14 2) J X) 0 0 (fr nW ad sz) := by
  refine Met.ofW (cc := cX5_strike) (maxL := 5) (ret := (some .int)) (by decide) rfl ?_
  intro p e s m args below meth c s₁ B hml hv
  obtain ⟨rfl, rfl, hP, hK⟩ := hv
  have hx := B.exec
  have hb := B.bytes
  have hr := B.returns
  have hts := atoms_spec (ws := wsX5_strike) B.pre
  have hown : s.vm.findClass RX5 = some m.cls := findClass_of_methodNamed B.named
  have hlocks := B.notSynchronized
  have hS : va_S (fr nW ad s.heap.size) s.heap s.heap [] := va_S.rf
  have hA : ∀ k, k < nW → fr nW ad s.heap.size (ad k) := fr_ad
  have hl := lv_entry ([.ref (ad 102), .int (nI (r)), .int (nI (k))]) (n := 5) (Nat.le_of_ble_eq_true rfl)
  rw [lg_entry_eq]
  generalize (lg_sl ([.ref (ad 102), .int (nI (r)), .int (nI (k))]) ++ List.replicate (5 - (lg_sl ([.ref (ad 102), .int (nI (r)), .int (nI (k))])).length) Slot.unset).toArray = ls at hl ⊢
  have hl : lv_has ls 5 [(0, .ref (ad 102)), (1, .int (nI (r))), (2, .int (nI (k)))] := hl
  have hS0 := hS
  suffices K : ∀ (H : Heap) (locs : List Loc), WP nW D cA ad I J X H → va_S (fr nW ad s.heap.size) s.heap H locs → W p l e (headSpec wsX5_strike ({ frames := 7, cells := 0, slots := 0, locals := 177 })).room s m ([.ref (ad 102), .int (nI (r)), .int (nI (k))] : List Value).toArray below meth c H locs 0 0 (MQ below (qI nW D cA ad s.heap.size (-1) (st2 I 102 14 2) J X) ([.ref (ad 102), .int (nI (r)), .int (nI (k))] : List Value).toArray s 0 0 (fr nW ad s.heap.size)) (F0 m 0 ls []) from K _ _ hP hS
  clear hP hS hS0
  intro H locs hP hS
  refine lv_aload_n hx hb dX5_strike_0 rfl (lv_at hl 0 rfl) ?_
  refine lv_iload_n hx hb dX5_strike_1 rfl (lv_at hl 1 rfl) ?_
  refine lv_iload_n hx hb dX5_strike_2 rfl (lv_at hl 2 rfl) ?_
  refine w_calli (va_runV (As := [.int (nI (r)), .int (nI (k))]) (rest := []) ⟨hx, hb, hml, hown, hts⟩ (c_X5_isPair l nW D cA ad hi hNW I J X H.size (nI (r)) (nI (k))) (cwV 2 hts gX5_strike_X5_isPair rfl rfl rfl (by decide +kernel) ⟨Nat.le_of_ble_eq_true rfl, Nat.le_of_ble_eq_true rfl⟩) (w_preV hK hP 102 (by omega) ⟨rfl, rfl⟩ rfl) rfl rfl hl.1 rfl (lv_room (Nat.le_of_ble_eq_true rfl)) dX5_strike_3 ⟨Nat.le_of_ble_eq_true rfl, Nat.le_of_ble_eq_true rfl⟩) hS (fun H locs hP hS => ?_)
  refine w_topN (a := 1) hp ?_
  refine lv_istore_n (lv' := [(3, .int (nI (1))), (0, .ref (ad 102)), (1, .int (nI (r))), (2, .int (nI (k)))]) hx hb dX5_strike_6 rfl hl (by decide) rfl (fun ls hl => ?_)
  refine lv_aload_n hx hb dX5_strike_7 rfl (lv_at hl 1 rfl) ?_
  refine lv_iload_n hx hb dX5_strike_8 rfl (lv_at hl 0 rfl) ?_
  refine lv_if_ne (tgt := 16) hx hb dX5_strike_9 (by decide) (fun c9 => ?_) (fun c9 => ?_)
  · have qc9 : ¬ 1 = 0 := fun z => c9 ((wn_eq (a := 1) (b := 0) rfl rfl (by omega) (by omega)).mpr z)
    refine lv_aload_n hx hb dX5_strike_16 rfl (lv_at hl 1 rfl) ?_
    refine w_get (C := RX5) (T := TX5) (N := 15) (v := .ref (ad 103)) (index := 7) hx hb hts inX5_strike_X5 hown hK hP 102 0 ⟨rfl, rfl, by decide⟩ (by omega) rfl (List.mem_of_getElem? (i := 1) rfl) (fun _ h9 => h9) dX5_strike_17 ?_
    refine lv_iconst (v := 5) hx hb dX5_strike_20 (by decide) ?_
    refine lv_iload_n hx hb dX5_strike_21 rfl (lv_at hl 2 rfl) ?_
    refine w_imulN (a := 5) (b := r) hx hb rfl rfl dX5_strike_22 ?_
    refine lv_iload_n hx hb dX5_strike_23 rfl (lv_at hl 3 rfl) ?_
    refine w_iaddN (a := (5 * r)) (b := k) hx hb rfl rfl dX5_strike_24 ?_
    refine w_iald hx hb hK hP 103 ((5 * r) + k) ⟨rfl, (by show (5 * r) + k < 20; omega)⟩ (by omega) rfl dX5_strike_25 ?_
    refine lv_if_ne (tgt := 33) hx hb dX5_strike_26 (by decide) (fun c26 => ?_) (fun c26 => ?_)
    · exact absurd hz c26
    · refine lv_iconst (v := 2) hx hb dX5_strike_29 (by decide) ?_
      refine lv_goto (tgt := 34) hx hb dX5_strike_30 (by decide) ?_
      refine w_calli (va_runV (As := [.int (2)]) (rest := []) ⟨hx, hb, hml, hown, hts⟩ (c_X5_fails l nW D cA ad hi hNW I J X H.size 2) (cwV 1 hts gX5_strike_X5_fails rfl rfl rfl (by decide +kernel) ⟨Nat.le_of_ble_eq_true rfl, Nat.le_of_ble_eq_true rfl⟩) (w_preV hK hP 102 (by omega) ⟨rfl, rfl⟩ rfl) rfl rfl hl.1 rfl (lv_room (Nat.le_of_ble_eq_true rfl)) dX5_strike_34 ⟨Nat.le_of_ble_eq_true rfl, Nat.le_of_ble_eq_true rfl⟩) hS (fun H locs hP hS => ?_)
      refine w_topN (a := 1) (by decide) ?_
      refine lv_if_eq (tgt := 42) hx hb dX5_strike_37 (by decide) (fun c37 => ?_) (fun c37 => ?_)
      · have qc37 : 1 = 0 := (wn_eq (a := 1) (b := 0) rfl rfl (by omega) (by omega)).mp c37
        exact absurd qc37 (by omega)
      · have qc37 : ¬ 1 = 0 := fun z => c37 ((wn_eq (a := 1) (b := 0) rfl rfl (by omega) (by omega)).mpr z)
        refine lv_iconst (v := (-1)) hx hb dX5_strike_40 (by decide) ?_
        exact w_iret hx hb hr hlocks hK hP hS ⟨by subst_vars; rfl, by subst_vars; rfl, by subst_vars; rfl, by subst_vars; rfl⟩ dX5_strike_41
  · have qc9 : 1 = 0 := (wn_eq (a := 1) (b := 0) rfl rfl (by omega) (by omega)).mp c9
    exact absurd qc9 (by omega)

theorem inX5_fade_X5 : ∀ w ∈ wsX50, w ∈ wsX5_fade := by decide +kernel
set_option maxHeartbeats 4000000 in
set_option maxRecDepth 100000 in
theorem lp_X5_fade {p : Program} {l : Launch} {e : Env} {s : State} {m : MethodId} {args : Array Value} {below : List Frame} {meth : Method} {c : Code} {Q : State → Prop} {nW : Nat} {D : va_G} {cA : Nat → ClassId} {ad : Nat → Nat} (hi : inj nW ad) (hNW : 114 ≤ nW) (hx : p.tables.exec = Jvm.exec) (hb : c.code = cX5_fade) (hml : c.maxLocals = 3) (hown : s.vm.findClass RX5 = some m.cls) (hts : ∀ w ∈ wsX5_fade, w.before args s = true) (hK : WK D cA s) (I : SI) (J : SJ) (X : SX)  (kx :  ∀ (H : Heap) (locs : List Loc), WP nW D cA ad ((fdM I 20).1) J X H → va_S (fr nW ad s.heap.size) s.heap H locs → ∀ (ls : Array Slot), lv_has ls 3 [(1, .int ((fdM I 20).2)), (0, .ref (ad 102))] → W p l e (headSpec wsX5_fade ({ frames := 7, cells := 0, slots := 0, locals := 177 })).room s m args below meth c H locs 0 0 Q (F0 m 49 ls [])) : ∀ (t k : Nat), k + t = 20 →  ∀ (H : Heap) (locs : List Loc), WP nW D cA ad ((fdM I (k)).1) J X H → va_S (fr nW ad s.heap.size) s.heap H locs → ∀ (ls : Array Slot), lv_has ls 3 [(2, .int (nI (k))), (1, .int ((fdM I (k)).2)), (0, .ref (ad 102))] → W p l e (headSpec wsX5_fade ({ frames := 7, cells := 0, slots := 0, locals := 177 })).room s m args below meth c H locs 0 0 Q (F0 m 10 ls []) := by
  have hA : ∀ k, k < nW → fr nW ad s.heap.size (ad k) := fr_ad
  intro t
  induction t with
  | zero =>
    intro k hj  H locs hP hS ls hl
    obtain rfl : 20 = k := by omega
    refine lv_iload_n hx hb dX5_fade_10 rfl (lv_at hl 0 rfl) ?_
    refine lv_bipush (v := 20) hx hb dX5_fade_11 (by decide) ?_
    refine lv_icmp_ge (tgt := 49) hx hb dX5_fade_13 (by decide) (fun cc => ?_) (fun cc => ?_)
    · have qcc : 20 ≤ 20 := (wn_le (a := 20) (b := 20) rfl rfl (by omega) (by omega)).mp cc
      exact kx  H locs (w_cong (I1 := ((fdM I 20).1)) (J1 := J) (X1 := X) hP ⟨(by subst_vars; rfl), rfl, rfl⟩) hS ls (lv_cong (l := [(1, .int ((fdM I (20)).2)), (0, .ref (ad 102))]) (l' := [(1, .int ((fdM I 20).2)), (0, .ref (ad 102))]) (lv_sub hl [1, 2] rfl) (by subst_vars; rfl))
    · have qcc : ¬ 20 ≤ 20 := fun z => cc ((wn_le (a := 20) (b := 20) rfl rfl (by omega) (by omega)).mpr z)
      exact absurd qcc (by omega)
  | succ t ih =>
    intro k hj  H locs hP hS ls hl
    refine lv_iload_n hx hb dX5_fade_10 rfl (lv_at hl 0 rfl) ?_
    refine lv_bipush (v := 20) hx hb dX5_fade_11 (by decide) ?_
    refine lv_icmp_ge (tgt := 49) hx hb dX5_fade_13 (by decide) (fun cc => ?_) (fun cc => ?_)
    · have qcc : 20 ≤ k := (wn_le (a := 20) (b := k) rfl rfl (by omega) (by omega)).mp cc
      exact absurd qcc (by omega)
    · have qcc : ¬ 20 ≤ k := fun z => cc ((wn_le (a := 20) (b := k) rfl rfl (by omega) (by omega)).mpr z)
      refine lv_aload_n hx hb dX5_fade_16 rfl (lv_at hl 2 rfl) ?_
      refine w_get (C := RX5) (T := TX5) (N := 15) (v := .ref (ad 103)) (index := 7) hx hb hts inX5_fade_X5 hown hK hP 102 0 ⟨rfl, rfl, by decide⟩ (by omega) rfl (List.mem_of_getElem? (i := 1) rfl) (fun _ h9 => h9) dX5_fade_17 ?_
      refine lv_iload_n hx hb dX5_fade_20 rfl (lv_at hl 0 rfl) ?_
      refine lv_dup2_11 hx hb dX5_fade_21 rfl rfl ?_
      refine w_iald hx hb hK hP 103 (k) ⟨rfl, (by show k < 20; omega)⟩ (by omega) rfl dX5_fade_22 ?_
      refine lv_iconst (v := 2) hx hb dX5_fade_23 (by decide) ?_
      refine lv_idiv hx hb dX5_fade_24 (by decide) ?_
      refine w_iast (v := (((fdM I (k)).1) 103 (k)) / 2) hx hb hK hP hi hA hS 103 (k) ⟨rfl, (by show k < 20; omega)⟩ (by omega) rfl dX5_fade_25 (fun H locs hP hS => ?_)
      obtain ⟨I_1, eI_1⟩ : ∃ y, y = st2 ((fdM I (k)).1) 103 (k) ((((fdM I (k)).1) 103 (k)) / 2) := ⟨_, rfl⟩
      have hP : WP nW D cA ad I_1 J X H := by rw [eI_1]; exact hP
      refine lv_iload_n hx hb dX5_fade_26 rfl (lv_at hl 1 rfl) ?_
      refine lv_aload_n hx hb dX5_fade_27 rfl (lv_at hl 2 rfl) ?_
      refine w_get (C := RX5) (T := TX5) (N := 15) (v := .ref (ad 103)) (index := 7) hx hb hts inX5_fade_X5 hown hK hP 102 0 ⟨rfl, rfl, by decide⟩ (by omega) rfl (List.mem_of_getElem? (i := 1) rfl) (fun _ h9 => h9) dX5_fade_28 ?_
      refine lv_iload_n hx hb dX5_fade_31 rfl (lv_at hl 0 rfl) ?_
      refine w_iald hx hb hK hP 103 (k) ⟨rfl, (by show k < 20; omega)⟩ (by omega) rfl dX5_fade_32 ?_
      refine lv_if_le (tgt := 40) hx hb dX5_fade_33 (by decide) (fun ch => ?_) (fun ch => ?_)
      · have hz := i32_nlt ch
        refine lv_iconst (v := 0) hx hb dX5_fade_40 (by decide) ?_
        refine lv_iadd hx hb dX5_fade_41 ?_
        refine lv_topi (fun lf elf => ?_)
        refine lv_istore_n (lv' := [(1, .int (lf)), (2, .int (nI (k))), (0, .ref (ad 102))]) hx hb dX5_fade_42 rfl hl (by decide) rfl (fun ls hl => ?_)
        refine lv_iinc (v := nI (k + 1)) (lv' := [(2, .int (nI (k + 1))), (1, .int (lf)), (0, .ref (ad 102))]) hx hb dX5_fade_43 hl (k := 1) rfl (wn_inc rfl) (by decide) rfl (fun ls hl => ?_)
        refine lv_goto (tgt := 10) hx hb dX5_fade_46 (by decide) ?_
        exact ih (k + 1) (by omega)  H locs (w_cong (I1 := ((fdM I ((k + 1))).1)) (J1 := J) (X1 := X) hP ⟨(by subst_vars; first | rfl | (simp only [fdM]; first | rw [if_neg hz] | rw [if_pos hz])), rfl, rfl⟩) hS ls (lv_cong (l := [(2, .int (nI (k + 1))), (1, .int (lf)), (0, .ref (ad 102))]) (l' := [(2, .int (nI ((k + 1)))), (1, .int ((fdM I ((k + 1))).2)), (0, .ref (ad 102))]) (lv_sub hl [0, 1, 2] rfl) (by subst_vars; first | rfl | (simp only [fdM]; first | rw [if_neg hz] | rw [if_pos hz])))
      · have hz := i32_lt ch
        refine lv_iconst (v := 1) hx hb dX5_fade_36 (by decide) ?_
        refine lv_goto (tgt := 41) hx hb dX5_fade_37 (by decide) ?_
        refine lv_iadd hx hb dX5_fade_41 ?_
        refine lv_topi (fun lf elf => ?_)
        refine lv_istore_n (lv' := [(1, .int (lf)), (2, .int (nI (k))), (0, .ref (ad 102))]) hx hb dX5_fade_42 rfl hl (by decide) rfl (fun ls hl => ?_)
        refine lv_iinc (v := nI (k + 1)) (lv' := [(2, .int (nI (k + 1))), (1, .int (lf)), (0, .ref (ad 102))]) hx hb dX5_fade_43 hl (k := 1) rfl (wn_inc rfl) (by decide) rfl (fun ls hl => ?_)
        refine lv_goto (tgt := 10) hx hb dX5_fade_46 (by decide) ?_
        exact ih (k + 1) (by omega)  H locs (w_cong (I1 := ((fdM I ((k + 1))).1)) (J1 := J) (X1 := X) hP ⟨(by subst_vars; first | rfl | (simp only [fdM]; first | rw [if_neg hz] | rw [if_pos hz])), rfl, rfl⟩) hS ls (lv_cong (l := [(2, .int (nI (k + 1))), (1, .int (lf)), (0, .ref (ad 102))]) (l' := [(2, .int (nI ((k + 1)))), (1, .int ((fdM I ((k + 1))).2)), (0, .ref (ad 102))]) (lv_sub hl [0, 1, 2] rfl) (by subst_vars; first | rfl | (simp only [fdM]; first | rw [if_neg hz] | rw [if_pos hz])))

set_option maxHeartbeats 4000000 in
set_option maxRecDepth 100000 in
/-- X5_fade -/
theorem c_X5_fade (l : Launch) (nW : Nat) (D : va_G) (cA : Nat → ClassId) (ad : Nat → Nat) (hi : inj nW ad) (hNW : 114 ≤ nW) (I : SI) (J : SJ) (X : SX) (sz : Nat) (lo : Nat → Nat → Nat) (Is : Nat → SI) (Js : Nat → SJ) (hM : SettOK lo Is Js) (h0 : (fdM I 20).1 = Is 0) (j0 : mdA ((fdM I 20).1) lo J 4 = Js 0) : Met l yX5_fade wsX5_fade ({ frames := 7, cells := 0, slots := 0, locals := 177 }) (va_Pc [.ref (ad 102)] (wPre nW D cA ad I J X sz)) (qI nW D cA ad sz ((fdM I 20).2) (Is 4) (Js 4) X) 0 0 (fr nW ad sz) := by
  refine Met.ofW (cc := cX5_fade) (maxL := 3) (ret := (some .int)) (by decide) rfl ?_
  intro p e s m args below meth c s₁ B hml hv
  obtain ⟨rfl, rfl, hP, hK⟩ := hv
  have hx := B.exec
  have hb := B.bytes
  have hr := B.returns
  have hts := atoms_spec (ws := wsX5_fade) B.pre
  have hown : s.vm.findClass RX5 = some m.cls := findClass_of_methodNamed B.named
  have hlocks := B.notSynchronized
  have hS : va_S (fr nW ad s.heap.size) s.heap s.heap [] := va_S.rf
  have hA : ∀ k, k < nW → fr nW ad s.heap.size (ad k) := fr_ad
  have hl := lv_entry ([.ref (ad 102)]) (n := 3) (Nat.le_of_ble_eq_true rfl)
  rw [lg_entry_eq]
  generalize (lg_sl ([.ref (ad 102)]) ++ List.replicate (3 - (lg_sl ([.ref (ad 102)])).length) Slot.unset).toArray = ls at hl ⊢
  have hl : lv_has ls 3 [(0, .ref (ad 102))] := hl
  have hS0 := hS
  suffices K : ∀ (H : Heap) (locs : List Loc), WP nW D cA ad I J X H → va_S (fr nW ad s.heap.size) s.heap H locs → W p l e (headSpec wsX5_fade ({ frames := 7, cells := 0, slots := 0, locals := 177 })).room s m ([.ref (ad 102)] : List Value).toArray below meth c H locs 0 0 (MQ below (qI nW D cA ad s.heap.size ((fdM I 20).2) (Is 4) (Js 4) X) ([.ref (ad 102)] : List Value).toArray s 0 0 (fr nW ad s.heap.size)) (F0 m 0 ls []) from K _ _ hP hS
  clear hP hS hS0
  intro H locs hP hS
  refine lv_aload_n hx hb dX5_fade_0 rfl (lv_at hl 0 rfl) ?_
  refine lv_iconst (v := 0) hx hb dX5_fade_1 (by decide) ?_
  refine w_calli (va_runV (As := [.int (0)]) (rest := []) ⟨hx, hb, hml, hown, hts⟩ (c_X5_fails l nW D cA ad hi hNW I J X H.size 0) (cwV 1 hts gX5_fade_X5_fails rfl rfl rfl (by decide +kernel) ⟨Nat.le_of_ble_eq_true rfl, Nat.le_of_ble_eq_true rfl⟩) (w_preV hK hP 102 (by omega) ⟨rfl, rfl⟩ rfl) rfl rfl hl.1 rfl (lv_room (Nat.le_of_ble_eq_true rfl)) dX5_fade_2 ⟨Nat.le_of_ble_eq_true rfl, Nat.le_of_ble_eq_true rfl⟩) hS (fun H locs hP hS => ?_)
  refine lv_pop hx hb dX5_fade_5 rfl ?_
  refine lv_iconst (v := 0) hx hb dX5_fade_6 (by decide) ?_
  refine lv_istore_n (lv' := [(1, .int (0)), (0, .ref (ad 102))]) hx hb dX5_fade_7 rfl hl (by decide) rfl (fun ls hl => ?_)
  refine lv_iconst (v := 0) hx hb dX5_fade_8 (by decide) ?_
  refine lv_istore_n (lv' := [(2, .int (0)), (1, .int (0)), (0, .ref (ad 102))]) hx hb dX5_fade_9 rfl hl (by decide) rfl (fun ls hl => ?_)
  refine lp_X5_fade hi hNW hx hb hml hown hts hK I J X  (fun  H locs hP hS ls hl => ?_) (20) (0) (by omega)  H locs (w_cong (I1 := ((fdM I 0).1)) (J1 := J) (X1 := X) hP ⟨(by subst_vars; rfl), rfl, rfl⟩) hS ls (lv_cong (l := [(2, .int (0)), (1, .int (0)), (0, .ref (ad 102))]) (l' := [(2, .int (nI (0))), (1, .int ((fdM I 0).2)), (0, .ref (ad 102))]) (lv_sub hl [0, 1, 2] rfl) (by subst_vars; rfl))
  refine lv_aload_n hx hb dX5_fade_49 rfl (lv_at hl 1 rfl) ?_
  refine w_callv (va_runV (As := []) (rest := []) ⟨hx, hb, hml, hown, hts⟩ (c_X5_mends l nW D cA ad hi hNW ((fdM I 20).1) J X H.size lo Is Js hM h0 j0) (cwV 0 hts gX5_fade_X5_mends rfl rfl rfl (by decide +kernel) ⟨Nat.le_of_ble_eq_true rfl, Nat.le_of_ble_eq_true rfl⟩) (w_preV hK hP 102 (by omega) ⟨rfl, rfl⟩ rfl) rfl rfl hl.1 rfl (lv_room (Nat.le_of_ble_eq_true rfl)) dX5_fade_50 ⟨Nat.le_of_ble_eq_true rfl, Nat.le_of_ble_eq_true rfl⟩) hS (fun H locs hP hS => ?_)
  refine lv_iload_n hx hb dX5_fade_53 rfl (lv_at hl 0 rfl) ?_
  exact w_iret hx hb hr hlocks hK hP hS ⟨by subst_vars; rfl, by subst_vars; rfl, by subst_vars; rfl, by subst_vars; rfl⟩ dX5_fade_54

theorem inX5_bar_X5 : ∀ w ∈ wsX50, w ∈ wsX5_bar := by decide +kernel
set_option maxHeartbeats 4000000 in
set_option maxRecDepth 100000 in
/-- X5_bar -/
theorem c_X5_bar_ok (l : Launch) (nW : Nat) (D : va_G) (cA : Nat → ClassId) (ad : Nat → Nat) (hi : inj nW ad) (hNW : 114 ≤ nW) (I : SI) (J : SJ) (X : SX) (sz : Nat) (k : Nat) (hk5 : k < 5) (h : Int32) (hp : inF (nI k) 0 4 = 1) (hm : inF h 0 2 = 1) (lo : Nat → Nat → Nat) (Is : Nat → SI) (Js : Nat → SJ) (hM : SettOK lo Is Js) (h0 : barMI I k h = Is 0) (j0 : mdA (barMI I k h) lo J 4 = Js 0) : Met l yX5_bar wsX5_bar ({ frames := 7, cells := 0, slots := 0, locals := 177 }) (va_Pc [.ref (ad 102), .int (nI (k)), .int (h)] (wPre nW D cA ad I J X sz)) (qI nW D cA ad sz (I 104 k) (Is 4) (Js 4) X) 0 0 (fr nW ad sz) := by
  refine Met.ofW (cc := cX5_bar) (maxL := 5) (ret := (some .int)) (by decide) rfl ?_
  intro p e s m args below meth c s₁ B hml hv
  obtain ⟨rfl, rfl, hP, hK⟩ := hv
  have hx := B.exec
  have hb := B.bytes
  have hr := B.returns
  have hts := atoms_spec (ws := wsX5_bar) B.pre
  have hown : s.vm.findClass RX5 = some m.cls := findClass_of_methodNamed B.named
  have hlocks := B.notSynchronized
  have hS : va_S (fr nW ad s.heap.size) s.heap s.heap [] := va_S.rf
  have hA : ∀ k, k < nW → fr nW ad s.heap.size (ad k) := fr_ad
  have hl := lv_entry ([.ref (ad 102), .int (nI (k)), .int (h)]) (n := 5) (Nat.le_of_ble_eq_true rfl)
  rw [lg_entry_eq]
  generalize (lg_sl ([.ref (ad 102), .int (nI (k)), .int (h)]) ++ List.replicate (5 - (lg_sl ([.ref (ad 102), .int (nI (k)), .int (h)])).length) Slot.unset).toArray = ls at hl ⊢
  have hl : lv_has ls 5 [(0, .ref (ad 102)), (1, .int (nI (k))), (2, .int (h))] := hl
  have hS0 := hS
  suffices K : ∀ (H : Heap) (locs : List Loc), WP nW D cA ad I J X H → va_S (fr nW ad s.heap.size) s.heap H locs → W p l e (headSpec wsX5_bar ({ frames := 7, cells := 0, slots := 0, locals := 177 })).room s m ([.ref (ad 102), .int (nI (k)), .int (h)] : List Value).toArray below meth c H locs 0 0 (MQ below (qI nW D cA ad s.heap.size (I 104 k) (Is 4) (Js 4) X) ([.ref (ad 102), .int (nI (k)), .int (h)] : List Value).toArray s 0 0 (fr nW ad s.heap.size)) (F0 m 0 ls []) from K _ _ hP hS
  clear hP hS hS0
  intro H locs hP hS
  refine lv_aload_n hx hb dX5_bar_0 rfl (lv_at hl 0 rfl) ?_
  refine lv_iload_n hx hb dX5_bar_1 rfl (lv_at hl 1 rfl) ?_
  refine lv_iconst (v := 0) hx hb dX5_bar_2 (by decide) ?_
  refine lv_iconst (v := 4) hx hb dX5_bar_3 (by decide) ?_
  refine w_calli (va_runV (As := [.int (nI (k)), .int (0), .int (4)]) (rest := []) ⟨hx, hb, hml, hown, hts⟩ (c_X5_in l nW D cA ad hi hNW I J X H.size (nI (k)) 0 4) (cwV 3 hts gX5_bar_X5_in rfl rfl rfl (by decide +kernel) ⟨Nat.le_of_ble_eq_true rfl, Nat.le_of_ble_eq_true rfl⟩) (w_preV hK hP 102 (by omega) ⟨rfl, rfl⟩ rfl) rfl rfl hl.1 rfl (lv_room (Nat.le_of_ble_eq_true rfl)) dX5_bar_4 ⟨Nat.le_of_ble_eq_true rfl, Nat.le_of_ble_eq_true rfl⟩) hS (fun H locs hP hS => ?_)
  refine w_topN (a := 1) hp ?_
  refine lv_istore_n (lv' := [(3, .int (nI (1))), (0, .ref (ad 102)), (1, .int (nI (k))), (2, .int (h))]) hx hb dX5_bar_7 rfl hl (by decide) rfl (fun ls hl => ?_)
  refine lv_aload_n hx hb dX5_bar_8 rfl (lv_at hl 1 rfl) ?_
  refine lv_iload_n hx hb dX5_bar_9 rfl (lv_at hl 0 rfl) ?_
  refine lv_if_ne (tgt := 17) hx hb dX5_bar_10 (by decide) (fun c10 => ?_) (fun c10 => ?_)
  · have qc10 : ¬ 1 = 0 := fun z => c10 ((wn_eq (a := 1) (b := 0) rfl rfl (by omega) (by omega)).mpr z)
    refine lv_aload_n hx hb dX5_bar_17 rfl (lv_at hl 1 rfl) ?_
    refine lv_iload_n hx hb dX5_bar_18 rfl (lv_at hl 3 rfl) ?_
    refine lv_iconst (v := 0) hx hb dX5_bar_19 (by decide) ?_
    refine lv_iconst (v := 2) hx hb dX5_bar_20 (by decide) ?_
    refine w_calli (va_runV (As := [.int (h), .int (0), .int (2)]) (rest := [.ref (ad 102)]) ⟨hx, hb, hml, hown, hts⟩ (c_X5_in l nW D cA ad hi hNW I J X H.size h 0 2) (cwV 3 hts gX5_bar_X5_in rfl rfl rfl (by decide +kernel) ⟨Nat.le_of_ble_eq_true rfl, Nat.le_of_ble_eq_true rfl⟩) (w_preV hK hP 102 (by omega) ⟨rfl, rfl⟩ rfl) rfl rfl hl.1 rfl (lv_room (Nat.le_of_ble_eq_true rfl)) dX5_bar_21 ⟨Nat.le_of_ble_eq_true rfl, Nat.le_of_ble_eq_true rfl⟩) hS (fun H locs hP hS => ?_)
    refine w_topN (a := 1) hm ?_
    refine lv_if_eq (tgt := 31) hx hb dX5_bar_24 (by decide) (fun c24 => ?_) (fun c24 => ?_)
    · have qc24 : 1 = 0 := (wn_eq (a := 1) (b := 0) rfl rfl (by omega) (by omega)).mp c24
      exact absurd qc24 (by omega)
    · have qc24 : ¬ 1 = 0 := fun z => c24 ((wn_eq (a := 1) (b := 0) rfl rfl (by omega) (by omega)).mpr z)
      refine lv_iconst (v := 0) hx hb dX5_bar_27 (by decide) ?_
      refine lv_goto (tgt := 32) hx hb dX5_bar_28 (by decide) ?_
      refine w_calli (va_runV (As := [.int (0)]) (rest := []) ⟨hx, hb, hml, hown, hts⟩ (c_X5_fails l nW D cA ad hi hNW I J X H.size 0) (cwV 1 hts gX5_bar_X5_fails rfl rfl rfl (by decide +kernel) ⟨Nat.le_of_ble_eq_true rfl, Nat.le_of_ble_eq_true rfl⟩) (w_preV hK hP 102 (by omega) ⟨rfl, rfl⟩ rfl) rfl rfl hl.1 rfl (lv_room (Nat.le_of_ble_eq_true rfl)) dX5_bar_32 ⟨Nat.le_of_ble_eq_true rfl, Nat.le_of_ble_eq_true rfl⟩) hS (fun H locs hP hS => ?_)
      refine w_topN (a := 0) (by decide) ?_
      refine lv_if_eq (tgt := 40) hx hb dX5_bar_35 (by decide) (fun c35 => ?_) (fun c35 => ?_)
      · have qc35 : 0 = 0 := (wn_eq (a := 0) (b := 0) rfl rfl (by omega) (by omega)).mp c35
        refine lv_aload_n hx hb dX5_bar_40 rfl (lv_at hl 1 rfl) ?_
        refine w_get (C := RX5) (T := TX5) (N := 15) (v := .ref (ad 104)) (index := 13) hx hb hts inX5_bar_X5 hown hK hP 102 1 ⟨rfl, rfl, by decide⟩ (by omega) rfl (List.mem_of_getElem? (i := 1) rfl) (fun _ h9 => h9) dX5_bar_41 ?_
        refine lv_iload_n hx hb dX5_bar_44 rfl (lv_at hl 2 rfl) ?_
        refine w_iald hx hb hK hP 104 (k) ⟨rfl, (by show k < 5; omega)⟩ (by omega) rfl dX5_bar_45 ?_
        refine lv_topi (fun bf ebf => ?_)
        refine lv_istore (lv' := [(4, .int (bf)), (3, .int (nI (1))), (0, .ref (ad 102)), (1, .int (nI (k))), (2, .int (h))]) hx hb dX5_bar_46 hl (by decide) rfl (fun ls hl => ?_)
        refine lv_aload_n hx hb dX5_bar_48 rfl (lv_at hl 2 rfl) ?_
        refine w_get (C := RX5) (T := TX5) (N := 15) (v := .ref (ad 104)) (index := 13) hx hb hts inX5_bar_X5 hown hK hP 102 1 ⟨rfl, rfl, by decide⟩ (by omega) rfl (List.mem_of_getElem? (i := 1) rfl) (fun _ h9 => h9) dX5_bar_49 ?_
        refine lv_iload_n hx hb dX5_bar_52 rfl (lv_at hl 3 rfl) ?_
        refine lv_iload_n hx hb dX5_bar_53 rfl (lv_at hl 4 rfl) ?_
        refine w_iast (v := h) hx hb hK hP hi hA hS 104 (k) ⟨rfl, (by show k < 5; omega)⟩ (by omega) rfl dX5_bar_54 (fun H locs hP hS => ?_)
        obtain ⟨I_1, eI_1⟩ : ∃ y, y = st2 (st2 I 102 14 0) 104 (k) (h) := ⟨_, rfl⟩
        have hP : WP nW D cA ad I_1 J X H := by rw [eI_1]; exact hP
        refine lv_aload_n hx hb dX5_bar_55 rfl (lv_at hl 2 rfl) ?_
        refine w_callv (va_runV (As := []) (rest := []) ⟨hx, hb, hml, hown, hts⟩ (c_X5_mends l nW D cA ad hi hNW I_1 J X H.size lo Is Js hM (by subst_vars; exact h0) (by subst_vars; exact j0)) (cwV 0 hts gX5_bar_X5_mends rfl rfl rfl (by decide +kernel) ⟨Nat.le_of_ble_eq_true rfl, Nat.le_of_ble_eq_true rfl⟩) (w_preV hK hP 102 (by omega) ⟨rfl, rfl⟩ rfl) rfl rfl hl.1 rfl (lv_room (Nat.le_of_ble_eq_true rfl)) dX5_bar_56 ⟨Nat.le_of_ble_eq_true rfl, Nat.le_of_ble_eq_true rfl⟩) hS (fun H locs hP hS => ?_)
        refine lv_iload hx hb dX5_bar_59 (lv_at hl 0 rfl) ?_
        exact w_iret hx hb hr hlocks hK hP hS ⟨by subst_vars; exact st2_n _ _ (by omega), by subst_vars; rfl, by subst_vars; rfl, by subst_vars; rfl⟩ dX5_bar_61
      · have qc35 : ¬ 0 = 0 := fun z => c35 ((wn_eq (a := 0) (b := 0) rfl rfl (by omega) (by omega)).mpr z)
        exact absurd qc35 (by omega)
  · have qc10 : 1 = 0 := (wn_eq (a := 1) (b := 0) rfl rfl (by omega) (by omega)).mp c10
    exact absurd qc10 (by omega)

set_option maxHeartbeats 4000000 in
set_option maxRecDepth 100000 in
/-- X5_bar -/
theorem c_X5_bar_f1 (l : Launch) (nW : Nat) (D : va_G) (cA : Nat → ClassId) (ad : Nat → Nat) (hi : inj nW ad) (hNW : 114 ≤ nW) (I : SI) (J : SJ) (X : SX) (sz : Nat) (k h : Int32) (hp : inF k 0 4 = 0) : Met l yX5_bar wsX5_bar ({ frames := 7, cells := 0, slots := 0, locals := 177 }) (va_Pc [.ref (ad 102), .int (k), .int (h)] (wPre nW D cA ad I J X sz)) (qI nW D cA ad sz (-1) (st2 I 102 14 1) J X) 0 0 (fr nW ad sz) := by
  refine Met.ofW (cc := cX5_bar) (maxL := 5) (ret := (some .int)) (by decide) rfl ?_
  intro p e s m args below meth c s₁ B hml hv
  obtain ⟨rfl, rfl, hP, hK⟩ := hv
  have hx := B.exec
  have hb := B.bytes
  have hr := B.returns
  have hts := atoms_spec (ws := wsX5_bar) B.pre
  have hown : s.vm.findClass RX5 = some m.cls := findClass_of_methodNamed B.named
  have hlocks := B.notSynchronized
  have hS : va_S (fr nW ad s.heap.size) s.heap s.heap [] := va_S.rf
  have hA : ∀ k, k < nW → fr nW ad s.heap.size (ad k) := fr_ad
  have hl := lv_entry ([.ref (ad 102), .int (k), .int (h)]) (n := 5) (Nat.le_of_ble_eq_true rfl)
  rw [lg_entry_eq]
  generalize (lg_sl ([.ref (ad 102), .int (k), .int (h)]) ++ List.replicate (5 - (lg_sl ([.ref (ad 102), .int (k), .int (h)])).length) Slot.unset).toArray = ls at hl ⊢
  have hl : lv_has ls 5 [(0, .ref (ad 102)), (1, .int (k)), (2, .int (h))] := hl
  have hS0 := hS
  suffices K : ∀ (H : Heap) (locs : List Loc), WP nW D cA ad I J X H → va_S (fr nW ad s.heap.size) s.heap H locs → W p l e (headSpec wsX5_bar ({ frames := 7, cells := 0, slots := 0, locals := 177 })).room s m ([.ref (ad 102), .int (k), .int (h)] : List Value).toArray below meth c H locs 0 0 (MQ below (qI nW D cA ad s.heap.size (-1) (st2 I 102 14 1) J X) ([.ref (ad 102), .int (k), .int (h)] : List Value).toArray s 0 0 (fr nW ad s.heap.size)) (F0 m 0 ls []) from K _ _ hP hS
  clear hP hS hS0
  intro H locs hP hS
  refine lv_aload_n hx hb dX5_bar_0 rfl (lv_at hl 0 rfl) ?_
  refine lv_iload_n hx hb dX5_bar_1 rfl (lv_at hl 1 rfl) ?_
  refine lv_iconst (v := 0) hx hb dX5_bar_2 (by decide) ?_
  refine lv_iconst (v := 4) hx hb dX5_bar_3 (by decide) ?_
  refine w_calli (va_runV (As := [.int (k), .int (0), .int (4)]) (rest := []) ⟨hx, hb, hml, hown, hts⟩ (c_X5_in l nW D cA ad hi hNW I J X H.size k 0 4) (cwV 3 hts gX5_bar_X5_in rfl rfl rfl (by decide +kernel) ⟨Nat.le_of_ble_eq_true rfl, Nat.le_of_ble_eq_true rfl⟩) (w_preV hK hP 102 (by omega) ⟨rfl, rfl⟩ rfl) rfl rfl hl.1 rfl (lv_room (Nat.le_of_ble_eq_true rfl)) dX5_bar_4 ⟨Nat.le_of_ble_eq_true rfl, Nat.le_of_ble_eq_true rfl⟩) hS (fun H locs hP hS => ?_)
  refine w_topN (a := 0) hp ?_
  refine lv_istore_n (lv' := [(3, .int (nI (0))), (0, .ref (ad 102)), (1, .int (k)), (2, .int (h))]) hx hb dX5_bar_7 rfl hl (by decide) rfl (fun ls hl => ?_)
  refine lv_aload_n hx hb dX5_bar_8 rfl (lv_at hl 1 rfl) ?_
  refine lv_iload_n hx hb dX5_bar_9 rfl (lv_at hl 0 rfl) ?_
  refine lv_if_ne (tgt := 17) hx hb dX5_bar_10 (by decide) (fun c10 => ?_) (fun c10 => ?_)
  · have qc10 : ¬ 0 = 0 := fun z => c10 ((wn_eq (a := 0) (b := 0) rfl rfl (by omega) (by omega)).mpr z)
    exact absurd qc10 (by omega)
  · have qc10 : 0 = 0 := (wn_eq (a := 0) (b := 0) rfl rfl (by omega) (by omega)).mp c10
    refine lv_iconst (v := 1) hx hb dX5_bar_13 (by decide) ?_
    refine lv_goto (tgt := 32) hx hb dX5_bar_14 (by decide) ?_
    refine w_calli (va_runV (As := [.int (1)]) (rest := []) ⟨hx, hb, hml, hown, hts⟩ (c_X5_fails l nW D cA ad hi hNW I J X H.size 1) (cwV 1 hts gX5_bar_X5_fails rfl rfl rfl (by decide +kernel) ⟨Nat.le_of_ble_eq_true rfl, Nat.le_of_ble_eq_true rfl⟩) (w_preV hK hP 102 (by omega) ⟨rfl, rfl⟩ rfl) rfl rfl hl.1 rfl (lv_room (Nat.le_of_ble_eq_true rfl)) dX5_bar_32 ⟨Nat.le_of_ble_eq_true rfl, Nat.le_of_ble_eq_true rfl⟩) hS (fun H locs hP hS => ?_)
    refine w_topN (a := 1) (by decide) ?_
    refine lv_if_eq (tgt := 40) hx hb dX5_bar_35 (by decide) (fun c35 => ?_) (fun c35 => ?_)
    · have qc35 : 1 = 0 := (wn_eq (a := 1) (b := 0) rfl rfl (by omega) (by omega)).mp c35
      exact absurd qc35 (by omega)
    · have qc35 : ¬ 1 = 0 := fun z => c35 ((wn_eq (a := 1) (b := 0) rfl rfl (by omega) (by omega)).mpr z)
      refine lv_iconst (v := (-1)) hx hb dX5_bar_38 (by decide) ?_
      exact w_iret hx hb hr hlocks hK hP hS ⟨by subst_vars; rfl, by subst_vars; rfl, by subst_vars; rfl, by subst_vars; rfl⟩ dX5_bar_39

set_option maxHeartbeats 4000000 in
set_option maxRecDepth 100000 in
/-- X5_bar -/
theorem c_X5_bar_f2 (l : Launch) (nW : Nat) (D : va_G) (cA : Nat → ClassId) (ad : Nat → Nat) (hi : inj nW ad) (hNW : 114 ≤ nW) (I : SI) (J : SJ) (X : SX) (sz : Nat) (k h : Int32) (hp : inF k 0 4 = 1) (hm : inF h 0 2 = 0) : Met l yX5_bar wsX5_bar ({ frames := 7, cells := 0, slots := 0, locals := 177 }) (va_Pc [.ref (ad 102), .int (k), .int (h)] (wPre nW D cA ad I J X sz)) (qI nW D cA ad sz (-1) (st2 I 102 14 2) J X) 0 0 (fr nW ad sz) := by
  refine Met.ofW (cc := cX5_bar) (maxL := 5) (ret := (some .int)) (by decide) rfl ?_
  intro p e s m args below meth c s₁ B hml hv
  obtain ⟨rfl, rfl, hP, hK⟩ := hv
  have hx := B.exec
  have hb := B.bytes
  have hr := B.returns
  have hts := atoms_spec (ws := wsX5_bar) B.pre
  have hown : s.vm.findClass RX5 = some m.cls := findClass_of_methodNamed B.named
  have hlocks := B.notSynchronized
  have hS : va_S (fr nW ad s.heap.size) s.heap s.heap [] := va_S.rf
  have hA : ∀ k, k < nW → fr nW ad s.heap.size (ad k) := fr_ad
  have hl := lv_entry ([.ref (ad 102), .int (k), .int (h)]) (n := 5) (Nat.le_of_ble_eq_true rfl)
  rw [lg_entry_eq]
  generalize (lg_sl ([.ref (ad 102), .int (k), .int (h)]) ++ List.replicate (5 - (lg_sl ([.ref (ad 102), .int (k), .int (h)])).length) Slot.unset).toArray = ls at hl ⊢
  have hl : lv_has ls 5 [(0, .ref (ad 102)), (1, .int (k)), (2, .int (h))] := hl
  have hS0 := hS
  suffices K : ∀ (H : Heap) (locs : List Loc), WP nW D cA ad I J X H → va_S (fr nW ad s.heap.size) s.heap H locs → W p l e (headSpec wsX5_bar ({ frames := 7, cells := 0, slots := 0, locals := 177 })).room s m ([.ref (ad 102), .int (k), .int (h)] : List Value).toArray below meth c H locs 0 0 (MQ below (qI nW D cA ad s.heap.size (-1) (st2 I 102 14 2) J X) ([.ref (ad 102), .int (k), .int (h)] : List Value).toArray s 0 0 (fr nW ad s.heap.size)) (F0 m 0 ls []) from K _ _ hP hS
  clear hP hS hS0
  intro H locs hP hS
  refine lv_aload_n hx hb dX5_bar_0 rfl (lv_at hl 0 rfl) ?_
  refine lv_iload_n hx hb dX5_bar_1 rfl (lv_at hl 1 rfl) ?_
  refine lv_iconst (v := 0) hx hb dX5_bar_2 (by decide) ?_
  refine lv_iconst (v := 4) hx hb dX5_bar_3 (by decide) ?_
  refine w_calli (va_runV (As := [.int (k), .int (0), .int (4)]) (rest := []) ⟨hx, hb, hml, hown, hts⟩ (c_X5_in l nW D cA ad hi hNW I J X H.size k 0 4) (cwV 3 hts gX5_bar_X5_in rfl rfl rfl (by decide +kernel) ⟨Nat.le_of_ble_eq_true rfl, Nat.le_of_ble_eq_true rfl⟩) (w_preV hK hP 102 (by omega) ⟨rfl, rfl⟩ rfl) rfl rfl hl.1 rfl (lv_room (Nat.le_of_ble_eq_true rfl)) dX5_bar_4 ⟨Nat.le_of_ble_eq_true rfl, Nat.le_of_ble_eq_true rfl⟩) hS (fun H locs hP hS => ?_)
  refine w_topN (a := 1) hp ?_
  refine lv_istore_n (lv' := [(3, .int (nI (1))), (0, .ref (ad 102)), (1, .int (k)), (2, .int (h))]) hx hb dX5_bar_7 rfl hl (by decide) rfl (fun ls hl => ?_)
  refine lv_aload_n hx hb dX5_bar_8 rfl (lv_at hl 1 rfl) ?_
  refine lv_iload_n hx hb dX5_bar_9 rfl (lv_at hl 0 rfl) ?_
  refine lv_if_ne (tgt := 17) hx hb dX5_bar_10 (by decide) (fun c10 => ?_) (fun c10 => ?_)
  · have qc10 : ¬ 1 = 0 := fun z => c10 ((wn_eq (a := 1) (b := 0) rfl rfl (by omega) (by omega)).mpr z)
    refine lv_aload_n hx hb dX5_bar_17 rfl (lv_at hl 1 rfl) ?_
    refine lv_iload_n hx hb dX5_bar_18 rfl (lv_at hl 3 rfl) ?_
    refine lv_iconst (v := 0) hx hb dX5_bar_19 (by decide) ?_
    refine lv_iconst (v := 2) hx hb dX5_bar_20 (by decide) ?_
    refine w_calli (va_runV (As := [.int (h), .int (0), .int (2)]) (rest := [.ref (ad 102)]) ⟨hx, hb, hml, hown, hts⟩ (c_X5_in l nW D cA ad hi hNW I J X H.size h 0 2) (cwV 3 hts gX5_bar_X5_in rfl rfl rfl (by decide +kernel) ⟨Nat.le_of_ble_eq_true rfl, Nat.le_of_ble_eq_true rfl⟩) (w_preV hK hP 102 (by omega) ⟨rfl, rfl⟩ rfl) rfl rfl hl.1 rfl (lv_room (Nat.le_of_ble_eq_true rfl)) dX5_bar_21 ⟨Nat.le_of_ble_eq_true rfl, Nat.le_of_ble_eq_true rfl⟩) hS (fun H locs hP hS => ?_)
    refine w_topN (a := 0) hm ?_
    refine lv_if_eq (tgt := 31) hx hb dX5_bar_24 (by decide) (fun c24 => ?_) (fun c24 => ?_)
    · have qc24 : 0 = 0 := (wn_eq (a := 0) (b := 0) rfl rfl (by omega) (by omega)).mp c24
      refine lv_iconst (v := 2) hx hb dX5_bar_31 (by decide) ?_
      refine w_calli (va_runV (As := [.int (2)]) (rest := []) ⟨hx, hb, hml, hown, hts⟩ (c_X5_fails l nW D cA ad hi hNW I J X H.size 2) (cwV 1 hts gX5_bar_X5_fails rfl rfl rfl (by decide +kernel) ⟨Nat.le_of_ble_eq_true rfl, Nat.le_of_ble_eq_true rfl⟩) (w_preV hK hP 102 (by omega) ⟨rfl, rfl⟩ rfl) rfl rfl hl.1 rfl (lv_room (Nat.le_of_ble_eq_true rfl)) dX5_bar_32 ⟨Nat.le_of_ble_eq_true rfl, Nat.le_of_ble_eq_true rfl⟩) hS (fun H locs hP hS => ?_)
      refine w_topN (a := 1) (by decide) ?_
      refine lv_if_eq (tgt := 40) hx hb dX5_bar_35 (by decide) (fun c35 => ?_) (fun c35 => ?_)
      · have qc35 : 1 = 0 := (wn_eq (a := 1) (b := 0) rfl rfl (by omega) (by omega)).mp c35
        exact absurd qc35 (by omega)
      · have qc35 : ¬ 1 = 0 := fun z => c35 ((wn_eq (a := 1) (b := 0) rfl rfl (by omega) (by omega)).mpr z)
        refine lv_iconst (v := (-1)) hx hb dX5_bar_38 (by decide) ?_
        exact w_iret hx hb hr hlocks hK hP hS ⟨by subst_vars; rfl, by subst_vars; rfl, by subst_vars; rfl, by subst_vars; rfl⟩ dX5_bar_39
    · have qc24 : ¬ 0 = 0 := fun z => c24 ((wn_eq (a := 0) (b := 0) rfl rfl (by omega) (by omega)).mpr z)
      exact absurd qc24 (by omega)
  · have qc10 : 1 = 0 := (wn_eq (a := 1) (b := 0) rfl rfl (by omega) (by omega)).mp c10
    exact absurd qc10 (by omega)

theorem inX5_walk_X5 : ∀ w ∈ wsX50, w ∈ wsX5_walk := by decide +kernel
set_option maxHeartbeats 4000000 in
set_option maxRecDepth 100000 in
/-- X5_walk -/
theorem c_X5_walk_ok (l : Launch) (nW : Nat) (D : va_G) (cA : Nat → ClassId) (ad : Nat → Nat) (hi : inj nW ad) (hNW : 114 ≤ nW) (I : SI) (J : SJ) (X : SX) (sz : Nat) (d b : Int32) (hp : inF d 50 90 = 1) (hm : inF b 100 100000 = 1) (lo : Nat → Nat → Nat) (Is : Nat → SI) (Js : Nat → SJ) (hM : SettOK lo Is Js) (h0 : walkMI I d b = Is 0) (j0 : beginM J = Js 0) : Met l yX5_walk wsX5_walk ({ frames := 7, cells := 0, slots := 0, locals := 171 }) (va_Pc [.ref (ad 102), .int (d), .int (b)] (wPre nW D cA ad I J X sz)) (qV nW D cA ad sz (Is 4) (Js 4) X) 0 0 (fr nW ad sz) := by
  refine Met.ofW (cc := cX5_walk) (maxL := 3) (ret := none) (by decide) rfl ?_
  intro p e s m args below meth c s₁ B hml hv
  obtain ⟨rfl, rfl, hP, hK⟩ := hv
  have hx := B.exec
  have hb := B.bytes
  have hr := B.returns
  have hts := atoms_spec (ws := wsX5_walk) B.pre
  have hown : s.vm.findClass RX5 = some m.cls := findClass_of_methodNamed B.named
  have hlocks := B.notSynchronized
  have hS : va_S (fr nW ad s.heap.size) s.heap s.heap [] := va_S.rf
  have hA : ∀ k, k < nW → fr nW ad s.heap.size (ad k) := fr_ad
  have hl := lv_entry ([.ref (ad 102), .int (d), .int (b)]) (n := 3) (Nat.le_of_ble_eq_true rfl)
  rw [lg_entry_eq]
  generalize (lg_sl ([.ref (ad 102), .int (d), .int (b)]) ++ List.replicate (3 - (lg_sl ([.ref (ad 102), .int (d), .int (b)])).length) Slot.unset).toArray = ls at hl ⊢
  have hl : lv_has ls 3 [(0, .ref (ad 102)), (1, .int (d)), (2, .int (b))] := hl
  have hS0 := hS
  suffices K : ∀ (H : Heap) (locs : List Loc), WP nW D cA ad I J X H → va_S (fr nW ad s.heap.size) s.heap H locs → W p l e (headSpec wsX5_walk ({ frames := 7, cells := 0, slots := 0, locals := 171 })).room s m ([.ref (ad 102), .int (d), .int (b)] : List Value).toArray below meth c H locs 0 0 (MQ below (qV nW D cA ad s.heap.size (Is 4) (Js 4) X) ([.ref (ad 102), .int (d), .int (b)] : List Value).toArray s 0 0 (fr nW ad s.heap.size)) (F0 m 0 ls []) from K _ _ hP hS
  clear hP hS hS0
  intro H locs hP hS
  refine lv_aload_n hx hb dX5_walk_0 rfl (lv_at hl 0 rfl) ?_
  refine lv_aload_n hx hb dX5_walk_1 rfl (lv_at hl 0 rfl) ?_
  refine lv_iload_n hx hb dX5_walk_2 rfl (lv_at hl 1 rfl) ?_
  refine lv_bipush (v := 50) hx hb dX5_walk_3 (by decide) ?_
  refine lv_bipush (v := 90) hx hb dX5_walk_5 (by decide) ?_
  refine w_calli (va_runV (As := [.int (d), .int (50), .int (90)]) (rest := [.ref (ad 102)]) ⟨hx, hb, hml, hown, hts⟩ (c_X5_in l nW D cA ad hi hNW I J X H.size d 50 90) (cwV 3 hts gX5_walk_X5_in rfl rfl rfl (by decide +kernel) ⟨Nat.le_of_ble_eq_true rfl, Nat.le_of_ble_eq_true rfl⟩) (w_preV hK hP 102 (by omega) ⟨rfl, rfl⟩ rfl) rfl rfl hl.1 rfl (lv_room (Nat.le_of_ble_eq_true rfl)) dX5_walk_7 ⟨Nat.le_of_ble_eq_true rfl, Nat.le_of_ble_eq_true rfl⟩) hS (fun H locs hP hS => ?_)
  refine w_topN (a := 1) hp ?_
  refine lv_if_eq (tgt := 29) hx hb dX5_walk_10 (by decide) (fun c10 => ?_) (fun c10 => ?_)
  · have qc10 : 1 = 0 := (wn_eq (a := 1) (b := 0) rfl rfl (by omega) (by omega)).mp c10
    exact absurd qc10 (by omega)
  · have qc10 : ¬ 1 = 0 := fun z => c10 ((wn_eq (a := 1) (b := 0) rfl rfl (by omega) (by omega)).mpr z)
    refine lv_aload_n hx hb dX5_walk_13 rfl (lv_at hl 0 rfl) ?_
    refine lv_iload_n hx hb dX5_walk_14 rfl (lv_at hl 2 rfl) ?_
    refine lv_bipush (v := 100) hx hb dX5_walk_15 (by decide) ?_
    refine lv_ldc (v := 100000) hx hb hown (hts (.constant RX5 109 (100000)) (List.mem_of_getElem? (i := 1) rfl)) dX5_walk_17 ?_
    refine w_calli (va_runV (As := [.int (b), .int (100), .int (100000)]) (rest := [.ref (ad 102)]) ⟨hx, hb, hml, hown, hts⟩ (c_X5_in l nW D cA ad hi hNW I J X H.size b 100 100000) (cwV 3 hts gX5_walk_X5_in rfl rfl rfl (by decide +kernel) ⟨Nat.le_of_ble_eq_true rfl, Nat.le_of_ble_eq_true rfl⟩) (w_preV hK hP 102 (by omega) ⟨rfl, rfl⟩ rfl) rfl rfl hl.1 rfl (lv_room (Nat.le_of_ble_eq_true rfl)) dX5_walk_19 ⟨Nat.le_of_ble_eq_true rfl, Nat.le_of_ble_eq_true rfl⟩) hS (fun H locs hP hS => ?_)
    refine w_topN (a := 1) hm ?_
    refine lv_if_eq (tgt := 29) hx hb dX5_walk_22 (by decide) (fun c22 => ?_) (fun c22 => ?_)
    · have qc22 : 1 = 0 := (wn_eq (a := 1) (b := 0) rfl rfl (by omega) (by omega)).mp c22
      exact absurd qc22 (by omega)
    · have qc22 : ¬ 1 = 0 := fun z => c22 ((wn_eq (a := 1) (b := 0) rfl rfl (by omega) (by omega)).mpr z)
      refine lv_iconst (v := 0) hx hb dX5_walk_25 (by decide) ?_
      refine lv_goto (tgt := 30) hx hb dX5_walk_26 (by decide) ?_
      refine w_calli (va_runV (As := [.int (0)]) (rest := []) ⟨hx, hb, hml, hown, hts⟩ (c_X5_fails l nW D cA ad hi hNW I J X H.size 0) (cwV 1 hts gX5_walk_X5_fails rfl rfl rfl (by decide +kernel) ⟨Nat.le_of_ble_eq_true rfl, Nat.le_of_ble_eq_true rfl⟩) (w_preV hK hP 102 (by omega) ⟨rfl, rfl⟩ rfl) rfl rfl hl.1 rfl (lv_room (Nat.le_of_ble_eq_true rfl)) dX5_walk_30 ⟨Nat.le_of_ble_eq_true rfl, Nat.le_of_ble_eq_true rfl⟩) hS (fun H locs hP hS => ?_)
      refine w_topN (a := 0) (by decide) ?_
      refine lv_if_ne (tgt := 50) hx hb dX5_walk_33 (by decide) (fun c33 => ?_) (fun c33 => ?_)
      · have qc33 : ¬ 0 = 0 := fun z => c33 ((wn_eq (a := 0) (b := 0) rfl rfl (by omega) (by omega)).mpr z)
        exact absurd qc33 (by omega)
      · have qc33 : 0 = 0 := (wn_eq (a := 0) (b := 0) rfl rfl (by omega) (by omega)).mp c33
        refine lv_aload_n hx hb dX5_walk_36 rfl (lv_at hl 0 rfl) ?_
        refine lv_iload_n hx hb dX5_walk_37 rfl (lv_at hl 1 rfl) ?_
        refine w_put (C := RX5) (T := TX5) (N := 15) (index := 16) (v := d) hx hb hts inX5_walk_X5 tyX5 tyX5_ok nmX5 hown hK hP hi hA hS 102 2 ⟨rfl, rfl, by decide⟩ (by omega) rfl (by exact (by decide : 2 < 15)) (List.mem_of_getElem? (i := 2) rfl) (fun _ h9 => h9) rfl (by decide +kernel) dX5_walk_38 (fun H locs hP hS => ?_)
        obtain ⟨I_1, eI_1⟩ : ∃ y, y = st2 (st2 I 102 14 0) 102 2 (d) := ⟨_, rfl⟩
        have hP : WP nW D cA ad I_1 J X H := by rw [eI_1]; exact hP
        refine lv_aload_n hx hb dX5_walk_41 rfl (lv_at hl 0 rfl) ?_
        refine lv_iload_n hx hb dX5_walk_42 rfl (lv_at hl 2 rfl) ?_
        refine w_put (C := RX5) (T := TX5) (N := 15) (index := 20) (v := b) hx hb hts inX5_walk_X5 tyX5 tyX5_ok nmX5 hown hK hP hi hA hS 102 3 ⟨rfl, rfl, by decide⟩ (by omega) rfl (by exact (by decide : 3 < 15)) (List.mem_of_getElem? (i := 3) rfl) (fun _ h9 => h9) rfl (by decide +kernel) dX5_walk_43 (fun H locs hP hS => ?_)
        obtain ⟨I_2, eI_2⟩ : ∃ y, y = st2 I_1 102 3 (b) := ⟨_, rfl⟩
        have hP : WP nW D cA ad I_2 J X H := by rw [eI_2]; exact hP
        refine lv_aload_n hx hb dX5_walk_46 rfl (lv_at hl 0 rfl) ?_
        refine w_callv (va_runV (As := []) (rest := []) ⟨hx, hb, hml, hown, hts⟩ (c_X5_begins l nW D cA ad hi hNW I_2 J X H.size lo Is Js hM (by subst_vars; exact h0) j0) (cwV 0 hts gX5_walk_X5_begins rfl rfl rfl (by decide +kernel) ⟨Nat.le_of_ble_eq_true rfl, Nat.le_of_ble_eq_true rfl⟩) (w_preV hK hP 102 (by omega) ⟨rfl, rfl⟩ rfl) rfl rfl hl.1 rfl (lv_room (Nat.le_of_ble_eq_true rfl)) dX5_walk_47 ⟨Nat.le_of_ble_eq_true rfl, Nat.le_of_ble_eq_true rfl⟩) hS (fun H locs hP hS => ?_)
        exact w_vret hx hb hr hlocks hK hP hS ⟨by subst_vars; rfl, by subst_vars; rfl, by subst_vars; rfl⟩ dX5_walk_50

set_option maxHeartbeats 4000000 in
set_option maxRecDepth 100000 in
/-- X5_walk -/
theorem c_X5_walk_f1 (l : Launch) (nW : Nat) (D : va_G) (cA : Nat → ClassId) (ad : Nat → Nat) (hi : inj nW ad) (hNW : 114 ≤ nW) (I : SI) (J : SJ) (X : SX) (sz : Nat) (d b : Int32) (hp : inF d 50 90 = 0) : Met l yX5_walk wsX5_walk ({ frames := 7, cells := 0, slots := 0, locals := 171 }) (va_Pc [.ref (ad 102), .int (d), .int (b)] (wPre nW D cA ad I J X sz)) (qV nW D cA ad sz (st2 I 102 14 1) J X) 0 0 (fr nW ad sz) := by
  refine Met.ofW (cc := cX5_walk) (maxL := 3) (ret := none) (by decide) rfl ?_
  intro p e s m args below meth c s₁ B hml hv
  obtain ⟨rfl, rfl, hP, hK⟩ := hv
  have hx := B.exec
  have hb := B.bytes
  have hr := B.returns
  have hts := atoms_spec (ws := wsX5_walk) B.pre
  have hown : s.vm.findClass RX5 = some m.cls := findClass_of_methodNamed B.named
  have hlocks := B.notSynchronized
  have hS : va_S (fr nW ad s.heap.size) s.heap s.heap [] := va_S.rf
  have hA : ∀ k, k < nW → fr nW ad s.heap.size (ad k) := fr_ad
  have hl := lv_entry ([.ref (ad 102), .int (d), .int (b)]) (n := 3) (Nat.le_of_ble_eq_true rfl)
  rw [lg_entry_eq]
  generalize (lg_sl ([.ref (ad 102), .int (d), .int (b)]) ++ List.replicate (3 - (lg_sl ([.ref (ad 102), .int (d), .int (b)])).length) Slot.unset).toArray = ls at hl ⊢
  have hl : lv_has ls 3 [(0, .ref (ad 102)), (1, .int (d)), (2, .int (b))] := hl
  have hS0 := hS
  suffices K : ∀ (H : Heap) (locs : List Loc), WP nW D cA ad I J X H → va_S (fr nW ad s.heap.size) s.heap H locs → W p l e (headSpec wsX5_walk ({ frames := 7, cells := 0, slots := 0, locals := 171 })).room s m ([.ref (ad 102), .int (d), .int (b)] : List Value).toArray below meth c H locs 0 0 (MQ below (qV nW D cA ad s.heap.size (st2 I 102 14 1) J X) ([.ref (ad 102), .int (d), .int (b)] : List Value).toArray s 0 0 (fr nW ad s.heap.size)) (F0 m 0 ls []) from K _ _ hP hS
  clear hP hS hS0
  intro H locs hP hS
  refine lv_aload_n hx hb dX5_walk_0 rfl (lv_at hl 0 rfl) ?_
  refine lv_aload_n hx hb dX5_walk_1 rfl (lv_at hl 0 rfl) ?_
  refine lv_iload_n hx hb dX5_walk_2 rfl (lv_at hl 1 rfl) ?_
  refine lv_bipush (v := 50) hx hb dX5_walk_3 (by decide) ?_
  refine lv_bipush (v := 90) hx hb dX5_walk_5 (by decide) ?_
  refine w_calli (va_runV (As := [.int (d), .int (50), .int (90)]) (rest := [.ref (ad 102)]) ⟨hx, hb, hml, hown, hts⟩ (c_X5_in l nW D cA ad hi hNW I J X H.size d 50 90) (cwV 3 hts gX5_walk_X5_in rfl rfl rfl (by decide +kernel) ⟨Nat.le_of_ble_eq_true rfl, Nat.le_of_ble_eq_true rfl⟩) (w_preV hK hP 102 (by omega) ⟨rfl, rfl⟩ rfl) rfl rfl hl.1 rfl (lv_room (Nat.le_of_ble_eq_true rfl)) dX5_walk_7 ⟨Nat.le_of_ble_eq_true rfl, Nat.le_of_ble_eq_true rfl⟩) hS (fun H locs hP hS => ?_)
  refine w_topN (a := 0) hp ?_
  refine lv_if_eq (tgt := 29) hx hb dX5_walk_10 (by decide) (fun c10 => ?_) (fun c10 => ?_)
  · have qc10 : 0 = 0 := (wn_eq (a := 0) (b := 0) rfl rfl (by omega) (by omega)).mp c10
    refine lv_iconst (v := 1) hx hb dX5_walk_29 (by decide) ?_
    refine w_calli (va_runV (As := [.int (1)]) (rest := []) ⟨hx, hb, hml, hown, hts⟩ (c_X5_fails l nW D cA ad hi hNW I J X H.size 1) (cwV 1 hts gX5_walk_X5_fails rfl rfl rfl (by decide +kernel) ⟨Nat.le_of_ble_eq_true rfl, Nat.le_of_ble_eq_true rfl⟩) (w_preV hK hP 102 (by omega) ⟨rfl, rfl⟩ rfl) rfl rfl hl.1 rfl (lv_room (Nat.le_of_ble_eq_true rfl)) dX5_walk_30 ⟨Nat.le_of_ble_eq_true rfl, Nat.le_of_ble_eq_true rfl⟩) hS (fun H locs hP hS => ?_)
    refine w_topN (a := 1) (by decide) ?_
    refine lv_if_ne (tgt := 50) hx hb dX5_walk_33 (by decide) (fun c33 => ?_) (fun c33 => ?_)
    · have qc33 : ¬ 1 = 0 := fun z => c33 ((wn_eq (a := 1) (b := 0) rfl rfl (by omega) (by omega)).mpr z)
      exact w_vret hx hb hr hlocks hK hP hS ⟨by subst_vars; rfl, by subst_vars; rfl, by subst_vars; rfl⟩ dX5_walk_50
    · have qc33 : 1 = 0 := (wn_eq (a := 1) (b := 0) rfl rfl (by omega) (by omega)).mp c33
      exact absurd qc33 (by omega)
  · have qc10 : ¬ 0 = 0 := fun z => c10 ((wn_eq (a := 0) (b := 0) rfl rfl (by omega) (by omega)).mpr z)
    exact absurd qc10 (by omega)

set_option maxHeartbeats 4000000 in
set_option maxRecDepth 100000 in
/-- X5_walk -/
theorem c_X5_walk_f2 (l : Launch) (nW : Nat) (D : va_G) (cA : Nat → ClassId) (ad : Nat → Nat) (hi : inj nW ad) (hNW : 114 ≤ nW) (I : SI) (J : SJ) (X : SX) (sz : Nat) (d b : Int32) (hp : inF d 50 90 = 1) (hm : inF b 100 100000 = 0) : Met l yX5_walk wsX5_walk ({ frames := 7, cells := 0, slots := 0, locals := 171 }) (va_Pc [.ref (ad 102), .int (d), .int (b)] (wPre nW D cA ad I J X sz)) (qV nW D cA ad sz (st2 I 102 14 1) J X) 0 0 (fr nW ad sz) := by
  refine Met.ofW (cc := cX5_walk) (maxL := 3) (ret := none) (by decide) rfl ?_
  intro p e s m args below meth c s₁ B hml hv
  obtain ⟨rfl, rfl, hP, hK⟩ := hv
  have hx := B.exec
  have hb := B.bytes
  have hr := B.returns
  have hts := atoms_spec (ws := wsX5_walk) B.pre
  have hown : s.vm.findClass RX5 = some m.cls := findClass_of_methodNamed B.named
  have hlocks := B.notSynchronized
  have hS : va_S (fr nW ad s.heap.size) s.heap s.heap [] := va_S.rf
  have hA : ∀ k, k < nW → fr nW ad s.heap.size (ad k) := fr_ad
  have hl := lv_entry ([.ref (ad 102), .int (d), .int (b)]) (n := 3) (Nat.le_of_ble_eq_true rfl)
  rw [lg_entry_eq]
  generalize (lg_sl ([.ref (ad 102), .int (d), .int (b)]) ++ List.replicate (3 - (lg_sl ([.ref (ad 102), .int (d), .int (b)])).length) Slot.unset).toArray = ls at hl ⊢
  have hl : lv_has ls 3 [(0, .ref (ad 102)), (1, .int (d)), (2, .int (b))] := hl
  have hS0 := hS
  suffices K : ∀ (H : Heap) (locs : List Loc), WP nW D cA ad I J X H → va_S (fr nW ad s.heap.size) s.heap H locs → W p l e (headSpec wsX5_walk ({ frames := 7, cells := 0, slots := 0, locals := 171 })).room s m ([.ref (ad 102), .int (d), .int (b)] : List Value).toArray below meth c H locs 0 0 (MQ below (qV nW D cA ad s.heap.size (st2 I 102 14 1) J X) ([.ref (ad 102), .int (d), .int (b)] : List Value).toArray s 0 0 (fr nW ad s.heap.size)) (F0 m 0 ls []) from K _ _ hP hS
  clear hP hS hS0
  intro H locs hP hS
  refine lv_aload_n hx hb dX5_walk_0 rfl (lv_at hl 0 rfl) ?_
  refine lv_aload_n hx hb dX5_walk_1 rfl (lv_at hl 0 rfl) ?_
  refine lv_iload_n hx hb dX5_walk_2 rfl (lv_at hl 1 rfl) ?_
  refine lv_bipush (v := 50) hx hb dX5_walk_3 (by decide) ?_
  refine lv_bipush (v := 90) hx hb dX5_walk_5 (by decide) ?_
  refine w_calli (va_runV (As := [.int (d), .int (50), .int (90)]) (rest := [.ref (ad 102)]) ⟨hx, hb, hml, hown, hts⟩ (c_X5_in l nW D cA ad hi hNW I J X H.size d 50 90) (cwV 3 hts gX5_walk_X5_in rfl rfl rfl (by decide +kernel) ⟨Nat.le_of_ble_eq_true rfl, Nat.le_of_ble_eq_true rfl⟩) (w_preV hK hP 102 (by omega) ⟨rfl, rfl⟩ rfl) rfl rfl hl.1 rfl (lv_room (Nat.le_of_ble_eq_true rfl)) dX5_walk_7 ⟨Nat.le_of_ble_eq_true rfl, Nat.le_of_ble_eq_true rfl⟩) hS (fun H locs hP hS => ?_)
  refine w_topN (a := 1) hp ?_
  refine lv_if_eq (tgt := 29) hx hb dX5_walk_10 (by decide) (fun c10 => ?_) (fun c10 => ?_)
  · have qc10 : 1 = 0 := (wn_eq (a := 1) (b := 0) rfl rfl (by omega) (by omega)).mp c10
    exact absurd qc10 (by omega)
  · have qc10 : ¬ 1 = 0 := fun z => c10 ((wn_eq (a := 1) (b := 0) rfl rfl (by omega) (by omega)).mpr z)
    refine lv_aload_n hx hb dX5_walk_13 rfl (lv_at hl 0 rfl) ?_
    refine lv_iload_n hx hb dX5_walk_14 rfl (lv_at hl 2 rfl) ?_
    refine lv_bipush (v := 100) hx hb dX5_walk_15 (by decide) ?_
    refine lv_ldc (v := 100000) hx hb hown (hts (.constant RX5 109 (100000)) (List.mem_of_getElem? (i := 1) rfl)) dX5_walk_17 ?_
    refine w_calli (va_runV (As := [.int (b), .int (100), .int (100000)]) (rest := [.ref (ad 102)]) ⟨hx, hb, hml, hown, hts⟩ (c_X5_in l nW D cA ad hi hNW I J X H.size b 100 100000) (cwV 3 hts gX5_walk_X5_in rfl rfl rfl (by decide +kernel) ⟨Nat.le_of_ble_eq_true rfl, Nat.le_of_ble_eq_true rfl⟩) (w_preV hK hP 102 (by omega) ⟨rfl, rfl⟩ rfl) rfl rfl hl.1 rfl (lv_room (Nat.le_of_ble_eq_true rfl)) dX5_walk_19 ⟨Nat.le_of_ble_eq_true rfl, Nat.le_of_ble_eq_true rfl⟩) hS (fun H locs hP hS => ?_)
    refine w_topN (a := 0) hm ?_
    refine lv_if_eq (tgt := 29) hx hb dX5_walk_22 (by decide) (fun c22 => ?_) (fun c22 => ?_)
    · have qc22 : 0 = 0 := (wn_eq (a := 0) (b := 0) rfl rfl (by omega) (by omega)).mp c22
      refine lv_iconst (v := 1) hx hb dX5_walk_29 (by decide) ?_
      refine w_calli (va_runV (As := [.int (1)]) (rest := []) ⟨hx, hb, hml, hown, hts⟩ (c_X5_fails l nW D cA ad hi hNW I J X H.size 1) (cwV 1 hts gX5_walk_X5_fails rfl rfl rfl (by decide +kernel) ⟨Nat.le_of_ble_eq_true rfl, Nat.le_of_ble_eq_true rfl⟩) (w_preV hK hP 102 (by omega) ⟨rfl, rfl⟩ rfl) rfl rfl hl.1 rfl (lv_room (Nat.le_of_ble_eq_true rfl)) dX5_walk_30 ⟨Nat.le_of_ble_eq_true rfl, Nat.le_of_ble_eq_true rfl⟩) hS (fun H locs hP hS => ?_)
      refine w_topN (a := 1) (by decide) ?_
      refine lv_if_ne (tgt := 50) hx hb dX5_walk_33 (by decide) (fun c33 => ?_) (fun c33 => ?_)
      · have qc33 : ¬ 1 = 0 := fun z => c33 ((wn_eq (a := 1) (b := 0) rfl rfl (by omega) (by omega)).mpr z)
        exact w_vret hx hb hr hlocks hK hP hS ⟨by subst_vars; rfl, by subst_vars; rfl, by subst_vars; rfl⟩ dX5_walk_50
      · have qc33 : 1 = 0 := (wn_eq (a := 1) (b := 0) rfl rfl (by omega) (by omega)).mp c33
        exact absurd qc33 (by omega)
    · have qc22 : ¬ 0 = 0 := fun z => c22 ((wn_eq (a := 0) (b := 0) rfl rfl (by omega) (by omega)).mpr z)
      exact absurd qc22 (by omega)

theorem inX5_landed_X5 : ∀ w ∈ wsX50, w ∈ wsX5_landed := by decide +kernel
set_option maxHeartbeats 4000000 in
set_option maxRecDepth 100000 in
/-- X5_landed -/
theorem c_X5_landed_ok (l : Launch) (nW : Nat) (D : va_G) (cA : Nat → ClassId) (ad : Nat → Nat) (hi : inj nW ad) (hNW : 114 ≤ nW) (I : SI) (J : SJ) (X : SX) (sz : Nat) (r n : Nat) (hr4 : r < 4) (hn9 : n < 9) (hp : isNodeF (nI r) (nI n) = 1) : Met l yX5_landed wsX5_landed ({ frames := 2, cells := 0, slots := 0, locals := 45 }) (va_Pc [.ref (ad 102), .int (nI (r)), .int (nI (n))] (wPre nW D cA ad I J X sz)) (qI nW D cA ad sz ((J 106 (9 * r + n)).toInt32) (st2 I 102 14 0) J X) 0 0 (fr nW ad sz) := by
  refine Met.ofW (cc := cX5_landed) (maxL := 3) (ret := (some .int)) (by decide) rfl ?_
  intro p e s m args below meth c s₁ B hml hv
  obtain ⟨rfl, rfl, hP, hK⟩ := hv
  have hx := B.exec
  have hb := B.bytes
  have hr := B.returns
  have hts := atoms_spec (ws := wsX5_landed) B.pre
  have hown : s.vm.findClass RX5 = some m.cls := findClass_of_methodNamed B.named
  have hlocks := B.notSynchronized
  have hS : va_S (fr nW ad s.heap.size) s.heap s.heap [] := va_S.rf
  have hA : ∀ k, k < nW → fr nW ad s.heap.size (ad k) := fr_ad
  have hl := lv_entry ([.ref (ad 102), .int (nI (r)), .int (nI (n))]) (n := 3) (Nat.le_of_ble_eq_true rfl)
  rw [lg_entry_eq]
  generalize (lg_sl ([.ref (ad 102), .int (nI (r)), .int (nI (n))]) ++ List.replicate (3 - (lg_sl ([.ref (ad 102), .int (nI (r)), .int (nI (n))])).length) Slot.unset).toArray = ls at hl ⊢
  have hl : lv_has ls 3 [(0, .ref (ad 102)), (1, .int (nI (r))), (2, .int (nI (n)))] := hl
  have hS0 := hS
  suffices K : ∀ (H : Heap) (locs : List Loc), WP nW D cA ad I J X H → va_S (fr nW ad s.heap.size) s.heap H locs → W p l e (headSpec wsX5_landed ({ frames := 2, cells := 0, slots := 0, locals := 45 })).room s m ([.ref (ad 102), .int (nI (r)), .int (nI (n))] : List Value).toArray below meth c H locs 0 0 (MQ below (qI nW D cA ad s.heap.size ((J 106 (9 * r + n)).toInt32) (st2 I 102 14 0) J X) ([.ref (ad 102), .int (nI (r)), .int (nI (n))] : List Value).toArray s 0 0 (fr nW ad s.heap.size)) (F0 m 0 ls []) from K _ _ hP hS
  clear hP hS hS0
  intro H locs hP hS
  refine lv_aload_n hx hb dX5_landed_0 rfl (lv_at hl 0 rfl) ?_
  refine lv_aload_n hx hb dX5_landed_1 rfl (lv_at hl 0 rfl) ?_
  refine lv_iload_n hx hb dX5_landed_2 rfl (lv_at hl 1 rfl) ?_
  refine lv_iload_n hx hb dX5_landed_3 rfl (lv_at hl 2 rfl) ?_
  refine w_calli (va_runV (As := [.int (nI (r)), .int (nI (n))]) (rest := [.ref (ad 102)]) ⟨hx, hb, hml, hown, hts⟩ (c_X5_isNode l nW D cA ad hi hNW I J X H.size (nI (r)) (nI (n))) (cwV 2 hts gX5_landed_X5_isNode rfl rfl rfl (by decide +kernel) ⟨Nat.le_of_ble_eq_true rfl, Nat.le_of_ble_eq_true rfl⟩) (w_preV hK hP 102 (by omega) ⟨rfl, rfl⟩ rfl) rfl rfl hl.1 rfl (lv_room (Nat.le_of_ble_eq_true rfl)) dX5_landed_4 ⟨Nat.le_of_ble_eq_true rfl, Nat.le_of_ble_eq_true rfl⟩) hS (fun H locs hP hS => ?_)
  refine w_topN (a := 1) hp ?_
  refine lv_if_eq (tgt := 14) hx hb dX5_landed_7 (by decide) (fun c7 => ?_) (fun c7 => ?_)
  · have qc7 : 1 = 0 := (wn_eq (a := 1) (b := 0) rfl rfl (by omega) (by omega)).mp c7
    exact absurd qc7 (by omega)
  · have qc7 : ¬ 1 = 0 := fun z => c7 ((wn_eq (a := 1) (b := 0) rfl rfl (by omega) (by omega)).mpr z)
    refine lv_iconst (v := 0) hx hb dX5_landed_10 (by decide) ?_
    refine lv_goto (tgt := 15) hx hb dX5_landed_11 (by decide) ?_
    refine w_calli (va_runV (As := [.int (0)]) (rest := []) ⟨hx, hb, hml, hown, hts⟩ (c_X5_fails l nW D cA ad hi hNW I J X H.size 0) (cwV 1 hts gX5_landed_X5_fails rfl rfl rfl (by decide +kernel) ⟨Nat.le_of_ble_eq_true rfl, Nat.le_of_ble_eq_true rfl⟩) (w_preV hK hP 102 (by omega) ⟨rfl, rfl⟩ rfl) rfl rfl hl.1 rfl (lv_room (Nat.le_of_ble_eq_true rfl)) dX5_landed_15 ⟨Nat.le_of_ble_eq_true rfl, Nat.le_of_ble_eq_true rfl⟩) hS (fun H locs hP hS => ?_)
    refine w_topN (a := 0) (by decide) ?_
    refine lv_if_eq (tgt := 25) hx hb dX5_landed_18 (by decide) (fun c18 => ?_) (fun c18 => ?_)
    · have qc18 : 0 = 0 := (wn_eq (a := 0) (b := 0) rfl rfl (by omega) (by omega)).mp c18
      refine lv_aload_n hx hb dX5_landed_25 rfl (lv_at hl 0 rfl) ?_
      refine w_get (C := RX5) (T := TX5) (N := 15) (v := .ref (ad 106)) (index := 27) hx hb hts inX5_landed_X5 hown hK hP 102 6 ⟨rfl, rfl, by decide⟩ (by omega) rfl (List.mem_of_getElem? (i := 1) rfl) (fun _ h9 => h9) dX5_landed_26 ?_
      refine lv_bipush (v := 9) hx hb dX5_landed_29 (by decide) ?_
      refine lv_iload_n hx hb dX5_landed_31 rfl (lv_at hl 1 rfl) ?_
      refine w_imulN (a := 9) (b := r) hx hb rfl rfl dX5_landed_32 ?_
      refine lv_iload_n hx hb dX5_landed_33 rfl (lv_at hl 2 rfl) ?_
      refine w_iaddN (a := (9 * r)) (b := n) hx hb rfl rfl dX5_landed_34 ?_
      refine w_lald hx hb hK hP 106 ((9 * r) + n) ⟨rfl, (by show (9 * r) + n < 36; omega)⟩ (by omega) rfl dX5_landed_35 ?_
      refine lv_l2i (v := (J 106 ((9 * r) + n)).toInt32) hx hb dX5_landed_36 rfl ?_
      exact w_iret hx hb hr hlocks hK hP hS ⟨by subst_vars; rfl, by subst_vars; rfl, by subst_vars; rfl, by subst_vars; rfl⟩ dX5_landed_37
    · have qc18 : ¬ 0 = 0 := fun z => c18 ((wn_eq (a := 0) (b := 0) rfl rfl (by omega) (by omega)).mpr z)
      exact absurd qc18 (by omega)

set_option maxHeartbeats 4000000 in
set_option maxRecDepth 100000 in
/-- X5_landed -/
theorem c_X5_landed_f1 (l : Launch) (nW : Nat) (D : va_G) (cA : Nat → ClassId) (ad : Nat → Nat) (hi : inj nW ad) (hNW : 114 ≤ nW) (I : SI) (J : SJ) (X : SX) (sz : Nat) (r n : Int32) (hp : isNodeF r n = 0) : Met l yX5_landed wsX5_landed ({ frames := 2, cells := 0, slots := 0, locals := 45 }) (va_Pc [.ref (ad 102), .int (r), .int (n)] (wPre nW D cA ad I J X sz)) (qI nW D cA ad sz (-1) (st2 I 102 14 1) J X) 0 0 (fr nW ad sz) := by
  refine Met.ofW (cc := cX5_landed) (maxL := 3) (ret := (some .int)) (by decide) rfl ?_
  intro p e s m args below meth c s₁ B hml hv
  obtain ⟨rfl, rfl, hP, hK⟩ := hv
  have hx := B.exec
  have hb := B.bytes
  have hr := B.returns
  have hts := atoms_spec (ws := wsX5_landed) B.pre
  have hown : s.vm.findClass RX5 = some m.cls := findClass_of_methodNamed B.named
  have hlocks := B.notSynchronized
  have hS : va_S (fr nW ad s.heap.size) s.heap s.heap [] := va_S.rf
  have hA : ∀ k, k < nW → fr nW ad s.heap.size (ad k) := fr_ad
  have hl := lv_entry ([.ref (ad 102), .int (r), .int (n)]) (n := 3) (Nat.le_of_ble_eq_true rfl)
  rw [lg_entry_eq]
  generalize (lg_sl ([.ref (ad 102), .int (r), .int (n)]) ++ List.replicate (3 - (lg_sl ([.ref (ad 102), .int (r), .int (n)])).length) Slot.unset).toArray = ls at hl ⊢
  have hl : lv_has ls 3 [(0, .ref (ad 102)), (1, .int (r)), (2, .int (n))] := hl
  have hS0 := hS
  suffices K : ∀ (H : Heap) (locs : List Loc), WP nW D cA ad I J X H → va_S (fr nW ad s.heap.size) s.heap H locs → W p l e (headSpec wsX5_landed ({ frames := 2, cells := 0, slots := 0, locals := 45 })).room s m ([.ref (ad 102), .int (r), .int (n)] : List Value).toArray below meth c H locs 0 0 (MQ below (qI nW D cA ad s.heap.size (-1) (st2 I 102 14 1) J X) ([.ref (ad 102), .int (r), .int (n)] : List Value).toArray s 0 0 (fr nW ad s.heap.size)) (F0 m 0 ls []) from K _ _ hP hS
  clear hP hS hS0
  intro H locs hP hS
  refine lv_aload_n hx hb dX5_landed_0 rfl (lv_at hl 0 rfl) ?_
  refine lv_aload_n hx hb dX5_landed_1 rfl (lv_at hl 0 rfl) ?_
  refine lv_iload_n hx hb dX5_landed_2 rfl (lv_at hl 1 rfl) ?_
  refine lv_iload_n hx hb dX5_landed_3 rfl (lv_at hl 2 rfl) ?_
  refine w_calli (va_runV (As := [.int (r), .int (n)]) (rest := [.ref (ad 102)]) ⟨hx, hb, hml, hown, hts⟩ (c_X5_isNode l nW D cA ad hi hNW I J X H.size r n) (cwV 2 hts gX5_landed_X5_isNode rfl rfl rfl (by decide +kernel) ⟨Nat.le_of_ble_eq_true rfl, Nat.le_of_ble_eq_true rfl⟩) (w_preV hK hP 102 (by omega) ⟨rfl, rfl⟩ rfl) rfl rfl hl.1 rfl (lv_room (Nat.le_of_ble_eq_true rfl)) dX5_landed_4 ⟨Nat.le_of_ble_eq_true rfl, Nat.le_of_ble_eq_true rfl⟩) hS (fun H locs hP hS => ?_)
  refine w_topN (a := 0) hp ?_
  refine lv_if_eq (tgt := 14) hx hb dX5_landed_7 (by decide) (fun c7 => ?_) (fun c7 => ?_)
  · have qc7 : 0 = 0 := (wn_eq (a := 0) (b := 0) rfl rfl (by omega) (by omega)).mp c7
    refine lv_iconst (v := 1) hx hb dX5_landed_14 (by decide) ?_
    refine w_calli (va_runV (As := [.int (1)]) (rest := []) ⟨hx, hb, hml, hown, hts⟩ (c_X5_fails l nW D cA ad hi hNW I J X H.size 1) (cwV 1 hts gX5_landed_X5_fails rfl rfl rfl (by decide +kernel) ⟨Nat.le_of_ble_eq_true rfl, Nat.le_of_ble_eq_true rfl⟩) (w_preV hK hP 102 (by omega) ⟨rfl, rfl⟩ rfl) rfl rfl hl.1 rfl (lv_room (Nat.le_of_ble_eq_true rfl)) dX5_landed_15 ⟨Nat.le_of_ble_eq_true rfl, Nat.le_of_ble_eq_true rfl⟩) hS (fun H locs hP hS => ?_)
    refine w_topN (a := 1) (by decide) ?_
    refine lv_if_eq (tgt := 25) hx hb dX5_landed_18 (by decide) (fun c18 => ?_) (fun c18 => ?_)
    · have qc18 : 1 = 0 := (wn_eq (a := 1) (b := 0) rfl rfl (by omega) (by omega)).mp c18
      exact absurd qc18 (by omega)
    · have qc18 : ¬ 1 = 0 := fun z => c18 ((wn_eq (a := 1) (b := 0) rfl rfl (by omega) (by omega)).mpr z)
      refine lv_iconst (v := (-1)) hx hb dX5_landed_21 (by decide) ?_
      refine lv_goto (tgt := 37) hx hb dX5_landed_22 (by decide) ?_
      exact w_iret hx hb hr hlocks hK hP hS ⟨by subst_vars; rfl, by subst_vars; rfl, by subst_vars; rfl, by subst_vars; rfl⟩ dX5_landed_37
  · have qc7 : ¬ 0 = 0 := fun z => c7 ((wn_eq (a := 0) (b := 0) rfl rfl (by omega) (by omega)).mpr z)
    exact absurd qc7 (by omega)

theorem inX5_rest_X5 : ∀ w ∈ wsX50, w ∈ wsX5_rest := by decide +kernel
set_option maxHeartbeats 4000000 in
set_option maxRecDepth 100000 in
/-- X5_rest -/
theorem c_X5_rest_ok (l : Launch) (nW : Nat) (D : va_G) (cA : Nat → ClassId) (ad : Nat → Nat) (hi : inj nW ad) (hNW : 114 ≤ nW) (I : SI) (J : SJ) (X : SX) (sz : Nat) (r n : Nat) (hr4 : r < 4) (hn9 : n < 9) (hp : isNodeF (nI r) (nI n) = 1) : Met l yX5_rest wsX5_rest ({ frames := 2, cells := 0, slots := 0, locals := 45 }) (va_Pc [.ref (ad 102), .int (nI (r)), .int (nI (n))] (wPre nW D cA ad I J X sz)) (qI nW D cA ad sz ((J 105 (9 * r + n)).toInt32) (st2 I 102 14 0) J X) 0 0 (fr nW ad sz) := by
  refine Met.ofW (cc := cX5_rest) (maxL := 3) (ret := (some .int)) (by decide) rfl ?_
  intro p e s m args below meth c s₁ B hml hv
  obtain ⟨rfl, rfl, hP, hK⟩ := hv
  have hx := B.exec
  have hb := B.bytes
  have hr := B.returns
  have hts := atoms_spec (ws := wsX5_rest) B.pre
  have hown : s.vm.findClass RX5 = some m.cls := findClass_of_methodNamed B.named
  have hlocks := B.notSynchronized
  have hS : va_S (fr nW ad s.heap.size) s.heap s.heap [] := va_S.rf
  have hA : ∀ k, k < nW → fr nW ad s.heap.size (ad k) := fr_ad
  have hl := lv_entry ([.ref (ad 102), .int (nI (r)), .int (nI (n))]) (n := 3) (Nat.le_of_ble_eq_true rfl)
  rw [lg_entry_eq]
  generalize (lg_sl ([.ref (ad 102), .int (nI (r)), .int (nI (n))]) ++ List.replicate (3 - (lg_sl ([.ref (ad 102), .int (nI (r)), .int (nI (n))])).length) Slot.unset).toArray = ls at hl ⊢
  have hl : lv_has ls 3 [(0, .ref (ad 102)), (1, .int (nI (r))), (2, .int (nI (n)))] := hl
  have hS0 := hS
  suffices K : ∀ (H : Heap) (locs : List Loc), WP nW D cA ad I J X H → va_S (fr nW ad s.heap.size) s.heap H locs → W p l e (headSpec wsX5_rest ({ frames := 2, cells := 0, slots := 0, locals := 45 })).room s m ([.ref (ad 102), .int (nI (r)), .int (nI (n))] : List Value).toArray below meth c H locs 0 0 (MQ below (qI nW D cA ad s.heap.size ((J 105 (9 * r + n)).toInt32) (st2 I 102 14 0) J X) ([.ref (ad 102), .int (nI (r)), .int (nI (n))] : List Value).toArray s 0 0 (fr nW ad s.heap.size)) (F0 m 0 ls []) from K _ _ hP hS
  clear hP hS hS0
  intro H locs hP hS
  refine lv_aload_n hx hb dX5_rest_0 rfl (lv_at hl 0 rfl) ?_
  refine lv_aload_n hx hb dX5_rest_1 rfl (lv_at hl 0 rfl) ?_
  refine lv_iload_n hx hb dX5_rest_2 rfl (lv_at hl 1 rfl) ?_
  refine lv_iload_n hx hb dX5_rest_3 rfl (lv_at hl 2 rfl) ?_
  refine w_calli (va_runV (As := [.int (nI (r)), .int (nI (n))]) (rest := [.ref (ad 102)]) ⟨hx, hb, hml, hown, hts⟩ (c_X5_isNode l nW D cA ad hi hNW I J X H.size (nI (r)) (nI (n))) (cwV 2 hts gX5_rest_X5_isNode rfl rfl rfl (by decide +kernel) ⟨Nat.le_of_ble_eq_true rfl, Nat.le_of_ble_eq_true rfl⟩) (w_preV hK hP 102 (by omega) ⟨rfl, rfl⟩ rfl) rfl rfl hl.1 rfl (lv_room (Nat.le_of_ble_eq_true rfl)) dX5_rest_4 ⟨Nat.le_of_ble_eq_true rfl, Nat.le_of_ble_eq_true rfl⟩) hS (fun H locs hP hS => ?_)
  refine w_topN (a := 1) hp ?_
  refine lv_if_eq (tgt := 14) hx hb dX5_rest_7 (by decide) (fun c7 => ?_) (fun c7 => ?_)
  · have qc7 : 1 = 0 := (wn_eq (a := 1) (b := 0) rfl rfl (by omega) (by omega)).mp c7
    exact absurd qc7 (by omega)
  · have qc7 : ¬ 1 = 0 := fun z => c7 ((wn_eq (a := 1) (b := 0) rfl rfl (by omega) (by omega)).mpr z)
    refine lv_iconst (v := 0) hx hb dX5_rest_10 (by decide) ?_
    refine lv_goto (tgt := 15) hx hb dX5_rest_11 (by decide) ?_
    refine w_calli (va_runV (As := [.int (0)]) (rest := []) ⟨hx, hb, hml, hown, hts⟩ (c_X5_fails l nW D cA ad hi hNW I J X H.size 0) (cwV 1 hts gX5_rest_X5_fails rfl rfl rfl (by decide +kernel) ⟨Nat.le_of_ble_eq_true rfl, Nat.le_of_ble_eq_true rfl⟩) (w_preV hK hP 102 (by omega) ⟨rfl, rfl⟩ rfl) rfl rfl hl.1 rfl (lv_room (Nat.le_of_ble_eq_true rfl)) dX5_rest_15 ⟨Nat.le_of_ble_eq_true rfl, Nat.le_of_ble_eq_true rfl⟩) hS (fun H locs hP hS => ?_)
    refine w_topN (a := 0) (by decide) ?_
    refine lv_if_eq (tgt := 25) hx hb dX5_rest_18 (by decide) (fun c18 => ?_) (fun c18 => ?_)
    · have qc18 : 0 = 0 := (wn_eq (a := 0) (b := 0) rfl rfl (by omega) (by omega)).mp c18
      refine lv_aload_n hx hb dX5_rest_25 rfl (lv_at hl 0 rfl) ?_
      refine w_get (C := RX5) (T := TX5) (N := 15) (v := .ref (ad 105)) (index := 23) hx hb hts inX5_rest_X5 hown hK hP 102 5 ⟨rfl, rfl, by decide⟩ (by omega) rfl (List.mem_of_getElem? (i := 1) rfl) (fun _ h9 => h9) dX5_rest_26 ?_
      refine lv_bipush (v := 9) hx hb dX5_rest_29 (by decide) ?_
      refine lv_iload_n hx hb dX5_rest_31 rfl (lv_at hl 1 rfl) ?_
      refine w_imulN (a := 9) (b := r) hx hb rfl rfl dX5_rest_32 ?_
      refine lv_iload_n hx hb dX5_rest_33 rfl (lv_at hl 2 rfl) ?_
      refine w_iaddN (a := (9 * r)) (b := n) hx hb rfl rfl dX5_rest_34 ?_
      refine w_lald hx hb hK hP 105 ((9 * r) + n) ⟨rfl, (by show (9 * r) + n < 36; omega)⟩ (by omega) rfl dX5_rest_35 ?_
      refine lv_l2i (v := (J 105 ((9 * r) + n)).toInt32) hx hb dX5_rest_36 rfl ?_
      exact w_iret hx hb hr hlocks hK hP hS ⟨by subst_vars; rfl, by subst_vars; rfl, by subst_vars; rfl, by subst_vars; rfl⟩ dX5_rest_37
    · have qc18 : ¬ 0 = 0 := fun z => c18 ((wn_eq (a := 0) (b := 0) rfl rfl (by omega) (by omega)).mpr z)
      exact absurd qc18 (by omega)

set_option maxHeartbeats 4000000 in
set_option maxRecDepth 100000 in
/-- X5_rest -/
theorem c_X5_rest_f1 (l : Launch) (nW : Nat) (D : va_G) (cA : Nat → ClassId) (ad : Nat → Nat) (hi : inj nW ad) (hNW : 114 ≤ nW) (I : SI) (J : SJ) (X : SX) (sz : Nat) (r n : Int32) (hp : isNodeF r n = 0) : Met l yX5_rest wsX5_rest ({ frames := 2, cells := 0, slots := 0, locals := 45 }) (va_Pc [.ref (ad 102), .int (r), .int (n)] (wPre nW D cA ad I J X sz)) (qI nW D cA ad sz (-1) (st2 I 102 14 1) J X) 0 0 (fr nW ad sz) := by
  refine Met.ofW (cc := cX5_rest) (maxL := 3) (ret := (some .int)) (by decide) rfl ?_
  intro p e s m args below meth c s₁ B hml hv
  obtain ⟨rfl, rfl, hP, hK⟩ := hv
  have hx := B.exec
  have hb := B.bytes
  have hr := B.returns
  have hts := atoms_spec (ws := wsX5_rest) B.pre
  have hown : s.vm.findClass RX5 = some m.cls := findClass_of_methodNamed B.named
  have hlocks := B.notSynchronized
  have hS : va_S (fr nW ad s.heap.size) s.heap s.heap [] := va_S.rf
  have hA : ∀ k, k < nW → fr nW ad s.heap.size (ad k) := fr_ad
  have hl := lv_entry ([.ref (ad 102), .int (r), .int (n)]) (n := 3) (Nat.le_of_ble_eq_true rfl)
  rw [lg_entry_eq]
  generalize (lg_sl ([.ref (ad 102), .int (r), .int (n)]) ++ List.replicate (3 - (lg_sl ([.ref (ad 102), .int (r), .int (n)])).length) Slot.unset).toArray = ls at hl ⊢
  have hl : lv_has ls 3 [(0, .ref (ad 102)), (1, .int (r)), (2, .int (n))] := hl
  have hS0 := hS
  suffices K : ∀ (H : Heap) (locs : List Loc), WP nW D cA ad I J X H → va_S (fr nW ad s.heap.size) s.heap H locs → W p l e (headSpec wsX5_rest ({ frames := 2, cells := 0, slots := 0, locals := 45 })).room s m ([.ref (ad 102), .int (r), .int (n)] : List Value).toArray below meth c H locs 0 0 (MQ below (qI nW D cA ad s.heap.size (-1) (st2 I 102 14 1) J X) ([.ref (ad 102), .int (r), .int (n)] : List Value).toArray s 0 0 (fr nW ad s.heap.size)) (F0 m 0 ls []) from K _ _ hP hS
  clear hP hS hS0
  intro H locs hP hS
  refine lv_aload_n hx hb dX5_rest_0 rfl (lv_at hl 0 rfl) ?_
  refine lv_aload_n hx hb dX5_rest_1 rfl (lv_at hl 0 rfl) ?_
  refine lv_iload_n hx hb dX5_rest_2 rfl (lv_at hl 1 rfl) ?_
  refine lv_iload_n hx hb dX5_rest_3 rfl (lv_at hl 2 rfl) ?_
  refine w_calli (va_runV (As := [.int (r), .int (n)]) (rest := [.ref (ad 102)]) ⟨hx, hb, hml, hown, hts⟩ (c_X5_isNode l nW D cA ad hi hNW I J X H.size r n) (cwV 2 hts gX5_rest_X5_isNode rfl rfl rfl (by decide +kernel) ⟨Nat.le_of_ble_eq_true rfl, Nat.le_of_ble_eq_true rfl⟩) (w_preV hK hP 102 (by omega) ⟨rfl, rfl⟩ rfl) rfl rfl hl.1 rfl (lv_room (Nat.le_of_ble_eq_true rfl)) dX5_rest_4 ⟨Nat.le_of_ble_eq_true rfl, Nat.le_of_ble_eq_true rfl⟩) hS (fun H locs hP hS => ?_)
  refine w_topN (a := 0) hp ?_
  refine lv_if_eq (tgt := 14) hx hb dX5_rest_7 (by decide) (fun c7 => ?_) (fun c7 => ?_)
  · have qc7 : 0 = 0 := (wn_eq (a := 0) (b := 0) rfl rfl (by omega) (by omega)).mp c7
    refine lv_iconst (v := 1) hx hb dX5_rest_14 (by decide) ?_
    refine w_calli (va_runV (As := [.int (1)]) (rest := []) ⟨hx, hb, hml, hown, hts⟩ (c_X5_fails l nW D cA ad hi hNW I J X H.size 1) (cwV 1 hts gX5_rest_X5_fails rfl rfl rfl (by decide +kernel) ⟨Nat.le_of_ble_eq_true rfl, Nat.le_of_ble_eq_true rfl⟩) (w_preV hK hP 102 (by omega) ⟨rfl, rfl⟩ rfl) rfl rfl hl.1 rfl (lv_room (Nat.le_of_ble_eq_true rfl)) dX5_rest_15 ⟨Nat.le_of_ble_eq_true rfl, Nat.le_of_ble_eq_true rfl⟩) hS (fun H locs hP hS => ?_)
    refine w_topN (a := 1) (by decide) ?_
    refine lv_if_eq (tgt := 25) hx hb dX5_rest_18 (by decide) (fun c18 => ?_) (fun c18 => ?_)
    · have qc18 : 1 = 0 := (wn_eq (a := 1) (b := 0) rfl rfl (by omega) (by omega)).mp c18
      exact absurd qc18 (by omega)
    · have qc18 : ¬ 1 = 0 := fun z => c18 ((wn_eq (a := 1) (b := 0) rfl rfl (by omega) (by omega)).mpr z)
      refine lv_iconst (v := (-1)) hx hb dX5_rest_21 (by decide) ?_
      refine lv_goto (tgt := 37) hx hb dX5_rest_22 (by decide) ?_
      exact w_iret hx hb hr hlocks hK hP hS ⟨by subst_vars; rfl, by subst_vars; rfl, by subst_vars; rfl, by subst_vars; rfl⟩ dX5_rest_37
  · have qc7 : ¬ 0 = 0 := fun z => c7 ((wn_eq (a := 0) (b := 0) rfl rfl (by omega) (by omega)).mpr z)
    exact absurd qc7 (by omega)

theorem inX5_sent_X5 : ∀ w ∈ wsX50, w ∈ wsX5_sent := by decide +kernel
set_option maxHeartbeats 4000000 in
set_option maxRecDepth 100000 in
/-- X5_sent -/
theorem c_X5_sent_ok (l : Launch) (nW : Nat) (D : va_G) (cA : Nat → ClassId) (ad : Nat → Nat) (hi : inj nW ad) (hNW : 114 ≤ nW) (I : SI) (J : SJ) (X : SX) (sz : Nat) (r n o : Nat) (hr4 : r < 4) (hn9 : n < 9) (ho9 : o < 9) (hp : isNodeF (nI r) (nI n) = 1) (hm : inF (nI o) 0 8 = 1) : Met l yX5_sent wsX5_sent ({ frames := 2, cells := 0, slots := 0, locals := 45 }) (va_Pc [.ref (ad 102), .int (nI (r)), .int (nI (n)), .int (nI (o))] (wPre nW D cA ad I J X sz)) (qI nW D cA ad sz ((J 107 (81 * r + 9 * n + o)).toInt32) (st2 I 102 14 0) J X) 0 0 (fr nW ad sz) := by
  refine Met.ofW (cc := cX5_sent) (maxL := 4) (ret := (some .int)) (by decide) rfl ?_
  intro p e s m args below meth c s₁ B hml hv
  obtain ⟨rfl, rfl, hP, hK⟩ := hv
  have hx := B.exec
  have hb := B.bytes
  have hr := B.returns
  have hts := atoms_spec (ws := wsX5_sent) B.pre
  have hown : s.vm.findClass RX5 = some m.cls := findClass_of_methodNamed B.named
  have hlocks := B.notSynchronized
  have hS : va_S (fr nW ad s.heap.size) s.heap s.heap [] := va_S.rf
  have hA : ∀ k, k < nW → fr nW ad s.heap.size (ad k) := fr_ad
  have hl := lv_entry ([.ref (ad 102), .int (nI (r)), .int (nI (n)), .int (nI (o))]) (n := 4) (Nat.le_of_ble_eq_true rfl)
  rw [lg_entry_eq]
  generalize (lg_sl ([.ref (ad 102), .int (nI (r)), .int (nI (n)), .int (nI (o))]) ++ List.replicate (4 - (lg_sl ([.ref (ad 102), .int (nI (r)), .int (nI (n)), .int (nI (o))])).length) Slot.unset).toArray = ls at hl ⊢
  have hl : lv_has ls 4 [(0, .ref (ad 102)), (1, .int (nI (r))), (2, .int (nI (n))), (3, .int (nI (o)))] := hl
  have hS0 := hS
  suffices K : ∀ (H : Heap) (locs : List Loc), WP nW D cA ad I J X H → va_S (fr nW ad s.heap.size) s.heap H locs → W p l e (headSpec wsX5_sent ({ frames := 2, cells := 0, slots := 0, locals := 45 })).room s m ([.ref (ad 102), .int (nI (r)), .int (nI (n)), .int (nI (o))] : List Value).toArray below meth c H locs 0 0 (MQ below (qI nW D cA ad s.heap.size ((J 107 (81 * r + 9 * n + o)).toInt32) (st2 I 102 14 0) J X) ([.ref (ad 102), .int (nI (r)), .int (nI (n)), .int (nI (o))] : List Value).toArray s 0 0 (fr nW ad s.heap.size)) (F0 m 0 ls []) from K _ _ hP hS
  clear hP hS hS0
  intro H locs hP hS
  refine lv_aload_n hx hb dX5_sent_0 rfl (lv_at hl 0 rfl) ?_
  refine lv_aload_n hx hb dX5_sent_1 rfl (lv_at hl 0 rfl) ?_
  refine lv_iload_n hx hb dX5_sent_2 rfl (lv_at hl 1 rfl) ?_
  refine lv_iload_n hx hb dX5_sent_3 rfl (lv_at hl 2 rfl) ?_
  refine w_calli (va_runV (As := [.int (nI (r)), .int (nI (n))]) (rest := [.ref (ad 102)]) ⟨hx, hb, hml, hown, hts⟩ (c_X5_isNode l nW D cA ad hi hNW I J X H.size (nI (r)) (nI (n))) (cwV 2 hts gX5_sent_X5_isNode rfl rfl rfl (by decide +kernel) ⟨Nat.le_of_ble_eq_true rfl, Nat.le_of_ble_eq_true rfl⟩) (w_preV hK hP 102 (by omega) ⟨rfl, rfl⟩ rfl) rfl rfl hl.1 rfl (lv_room (Nat.le_of_ble_eq_true rfl)) dX5_sent_4 ⟨Nat.le_of_ble_eq_true rfl, Nat.le_of_ble_eq_true rfl⟩) hS (fun H locs hP hS => ?_)
  refine w_topN (a := 1) hp ?_
  refine lv_if_eq (tgt := 25) hx hb dX5_sent_7 (by decide) (fun c7 => ?_) (fun c7 => ?_)
  · have qc7 : 1 = 0 := (wn_eq (a := 1) (b := 0) rfl rfl (by omega) (by omega)).mp c7
    exact absurd qc7 (by omega)
  · have qc7 : ¬ 1 = 0 := fun z => c7 ((wn_eq (a := 1) (b := 0) rfl rfl (by omega) (by omega)).mpr z)
    refine lv_aload_n hx hb dX5_sent_10 rfl (lv_at hl 0 rfl) ?_
    refine lv_iload_n hx hb dX5_sent_11 rfl (lv_at hl 3 rfl) ?_
    refine lv_iconst (v := 0) hx hb dX5_sent_12 (by decide) ?_
    refine lv_bipush (v := 8) hx hb dX5_sent_13 (by decide) ?_
    refine w_calli (va_runV (As := [.int (nI (o)), .int (0), .int (8)]) (rest := [.ref (ad 102)]) ⟨hx, hb, hml, hown, hts⟩ (c_X5_in l nW D cA ad hi hNW I J X H.size (nI (o)) 0 8) (cwV 3 hts gX5_sent_X5_in rfl rfl rfl (by decide +kernel) ⟨Nat.le_of_ble_eq_true rfl, Nat.le_of_ble_eq_true rfl⟩) (w_preV hK hP 102 (by omega) ⟨rfl, rfl⟩ rfl) rfl rfl hl.1 rfl (lv_room (Nat.le_of_ble_eq_true rfl)) dX5_sent_15 ⟨Nat.le_of_ble_eq_true rfl, Nat.le_of_ble_eq_true rfl⟩) hS (fun H locs hP hS => ?_)
    refine w_topN (a := 1) hm ?_
    refine lv_if_eq (tgt := 25) hx hb dX5_sent_18 (by decide) (fun c18 => ?_) (fun c18 => ?_)
    · have qc18 : 1 = 0 := (wn_eq (a := 1) (b := 0) rfl rfl (by omega) (by omega)).mp c18
      exact absurd qc18 (by omega)
    · have qc18 : ¬ 1 = 0 := fun z => c18 ((wn_eq (a := 1) (b := 0) rfl rfl (by omega) (by omega)).mpr z)
      refine lv_iconst (v := 0) hx hb dX5_sent_21 (by decide) ?_
      refine lv_goto (tgt := 26) hx hb dX5_sent_22 (by decide) ?_
      refine w_calli (va_runV (As := [.int (0)]) (rest := []) ⟨hx, hb, hml, hown, hts⟩ (c_X5_fails l nW D cA ad hi hNW I J X H.size 0) (cwV 1 hts gX5_sent_X5_fails rfl rfl rfl (by decide +kernel) ⟨Nat.le_of_ble_eq_true rfl, Nat.le_of_ble_eq_true rfl⟩) (w_preV hK hP 102 (by omega) ⟨rfl, rfl⟩ rfl) rfl rfl hl.1 rfl (lv_room (Nat.le_of_ble_eq_true rfl)) dX5_sent_26 ⟨Nat.le_of_ble_eq_true rfl, Nat.le_of_ble_eq_true rfl⟩) hS (fun H locs hP hS => ?_)
      refine w_topN (a := 0) (by decide) ?_
      refine lv_if_eq (tgt := 36) hx hb dX5_sent_29 (by decide) (fun c29 => ?_) (fun c29 => ?_)
      · have qc29 : 0 = 0 := (wn_eq (a := 0) (b := 0) rfl rfl (by omega) (by omega)).mp c29
        refine lv_aload_n hx hb dX5_sent_36 rfl (lv_at hl 0 rfl) ?_
        refine w_get (C := RX5) (T := TX5) (N := 15) (v := .ref (ad 107)) (index := 30) hx hb hts inX5_sent_X5 hown hK hP 102 7 ⟨rfl, rfl, by decide⟩ (by omega) rfl (List.mem_of_getElem? (i := 1) rfl) (fun _ h9 => h9) dX5_sent_37 ?_
        refine lv_bipush (v := 81) hx hb dX5_sent_40 (by decide) ?_
        refine lv_iload_n hx hb dX5_sent_42 rfl (lv_at hl 1 rfl) ?_
        refine w_imulN (a := 81) (b := r) hx hb rfl rfl dX5_sent_43 ?_
        refine lv_bipush (v := 9) hx hb dX5_sent_44 (by decide) ?_
        refine lv_iload_n hx hb dX5_sent_46 rfl (lv_at hl 2 rfl) ?_
        refine w_imulN (a := 9) (b := n) hx hb rfl rfl dX5_sent_47 ?_
        refine w_iaddN (a := (81 * r)) (b := (9 * n)) hx hb rfl rfl dX5_sent_48 ?_
        refine lv_iload_n hx hb dX5_sent_49 rfl (lv_at hl 3 rfl) ?_
        refine w_iaddN (a := ((81 * r) + (9 * n))) (b := o) hx hb rfl rfl dX5_sent_50 ?_
        refine w_lald hx hb hK hP 107 (((81 * r) + (9 * n)) + o) ⟨rfl, (by show ((81 * r) + (9 * n)) + o < 324; omega)⟩ (by omega) rfl dX5_sent_51 ?_
        refine lv_l2i (v := (J 107 (((81 * r) + (9 * n)) + o)).toInt32) hx hb dX5_sent_52 rfl ?_
        exact w_iret hx hb hr hlocks hK hP hS ⟨by subst_vars; rfl, by subst_vars; rfl, by subst_vars; rfl, by subst_vars; rfl⟩ dX5_sent_53
      · have qc29 : ¬ 0 = 0 := fun z => c29 ((wn_eq (a := 0) (b := 0) rfl rfl (by omega) (by omega)).mpr z)
        exact absurd qc29 (by omega)

set_option maxHeartbeats 4000000 in
set_option maxRecDepth 100000 in
/-- X5_sent -/
theorem c_X5_sent_f1 (l : Launch) (nW : Nat) (D : va_G) (cA : Nat → ClassId) (ad : Nat → Nat) (hi : inj nW ad) (hNW : 114 ≤ nW) (I : SI) (J : SJ) (X : SX) (sz : Nat) (r n o : Int32) (hp : isNodeF r n = 0) : Met l yX5_sent wsX5_sent ({ frames := 2, cells := 0, slots := 0, locals := 45 }) (va_Pc [.ref (ad 102), .int (r), .int (n), .int (o)] (wPre nW D cA ad I J X sz)) (qI nW D cA ad sz (-1) (st2 I 102 14 1) J X) 0 0 (fr nW ad sz) := by
  refine Met.ofW (cc := cX5_sent) (maxL := 4) (ret := (some .int)) (by decide) rfl ?_
  intro p e s m args below meth c s₁ B hml hv
  obtain ⟨rfl, rfl, hP, hK⟩ := hv
  have hx := B.exec
  have hb := B.bytes
  have hr := B.returns
  have hts := atoms_spec (ws := wsX5_sent) B.pre
  have hown : s.vm.findClass RX5 = some m.cls := findClass_of_methodNamed B.named
  have hlocks := B.notSynchronized
  have hS : va_S (fr nW ad s.heap.size) s.heap s.heap [] := va_S.rf
  have hA : ∀ k, k < nW → fr nW ad s.heap.size (ad k) := fr_ad
  have hl := lv_entry ([.ref (ad 102), .int (r), .int (n), .int (o)]) (n := 4) (Nat.le_of_ble_eq_true rfl)
  rw [lg_entry_eq]
  generalize (lg_sl ([.ref (ad 102), .int (r), .int (n), .int (o)]) ++ List.replicate (4 - (lg_sl ([.ref (ad 102), .int (r), .int (n), .int (o)])).length) Slot.unset).toArray = ls at hl ⊢
  have hl : lv_has ls 4 [(0, .ref (ad 102)), (1, .int (r)), (2, .int (n)), (3, .int (o))] := hl
  have hS0 := hS
  suffices K : ∀ (H : Heap) (locs : List Loc), WP nW D cA ad I J X H → va_S (fr nW ad s.heap.size) s.heap H locs → W p l e (headSpec wsX5_sent ({ frames := 2, cells := 0, slots := 0, locals := 45 })).room s m ([.ref (ad 102), .int (r), .int (n), .int (o)] : List Value).toArray below meth c H locs 0 0 (MQ below (qI nW D cA ad s.heap.size (-1) (st2 I 102 14 1) J X) ([.ref (ad 102), .int (r), .int (n), .int (o)] : List Value).toArray s 0 0 (fr nW ad s.heap.size)) (F0 m 0 ls []) from K _ _ hP hS
  clear hP hS hS0
  intro H locs hP hS
  refine lv_aload_n hx hb dX5_sent_0 rfl (lv_at hl 0 rfl) ?_
  refine lv_aload_n hx hb dX5_sent_1 rfl (lv_at hl 0 rfl) ?_
  refine lv_iload_n hx hb dX5_sent_2 rfl (lv_at hl 1 rfl) ?_
  refine lv_iload_n hx hb dX5_sent_3 rfl (lv_at hl 2 rfl) ?_
  refine w_calli (va_runV (As := [.int (r), .int (n)]) (rest := [.ref (ad 102)]) ⟨hx, hb, hml, hown, hts⟩ (c_X5_isNode l nW D cA ad hi hNW I J X H.size r n) (cwV 2 hts gX5_sent_X5_isNode rfl rfl rfl (by decide +kernel) ⟨Nat.le_of_ble_eq_true rfl, Nat.le_of_ble_eq_true rfl⟩) (w_preV hK hP 102 (by omega) ⟨rfl, rfl⟩ rfl) rfl rfl hl.1 rfl (lv_room (Nat.le_of_ble_eq_true rfl)) dX5_sent_4 ⟨Nat.le_of_ble_eq_true rfl, Nat.le_of_ble_eq_true rfl⟩) hS (fun H locs hP hS => ?_)
  refine w_topN (a := 0) hp ?_
  refine lv_if_eq (tgt := 25) hx hb dX5_sent_7 (by decide) (fun c7 => ?_) (fun c7 => ?_)
  · have qc7 : 0 = 0 := (wn_eq (a := 0) (b := 0) rfl rfl (by omega) (by omega)).mp c7
    refine lv_iconst (v := 1) hx hb dX5_sent_25 (by decide) ?_
    refine w_calli (va_runV (As := [.int (1)]) (rest := []) ⟨hx, hb, hml, hown, hts⟩ (c_X5_fails l nW D cA ad hi hNW I J X H.size 1) (cwV 1 hts gX5_sent_X5_fails rfl rfl rfl (by decide +kernel) ⟨Nat.le_of_ble_eq_true rfl, Nat.le_of_ble_eq_true rfl⟩) (w_preV hK hP 102 (by omega) ⟨rfl, rfl⟩ rfl) rfl rfl hl.1 rfl (lv_room (Nat.le_of_ble_eq_true rfl)) dX5_sent_26 ⟨Nat.le_of_ble_eq_true rfl, Nat.le_of_ble_eq_true rfl⟩) hS (fun H locs hP hS => ?_)
    refine w_topN (a := 1) (by decide) ?_
    refine lv_if_eq (tgt := 36) hx hb dX5_sent_29 (by decide) (fun c29 => ?_) (fun c29 => ?_)
    · have qc29 : 1 = 0 := (wn_eq (a := 1) (b := 0) rfl rfl (by omega) (by omega)).mp c29
      exact absurd qc29 (by omega)
    · have qc29 : ¬ 1 = 0 := fun z => c29 ((wn_eq (a := 1) (b := 0) rfl rfl (by omega) (by omega)).mpr z)
      refine lv_iconst (v := (-1)) hx hb dX5_sent_32 (by decide) ?_
      refine lv_goto (tgt := 53) hx hb dX5_sent_33 (by decide) ?_
      exact w_iret hx hb hr hlocks hK hP hS ⟨by subst_vars; rfl, by subst_vars; rfl, by subst_vars; rfl, by subst_vars; rfl⟩ dX5_sent_53
  · have qc7 : ¬ 0 = 0 := fun z => c7 ((wn_eq (a := 0) (b := 0) rfl rfl (by omega) (by omega)).mpr z)
    exact absurd qc7 (by omega)

set_option maxHeartbeats 4000000 in
set_option maxRecDepth 100000 in
/-- X5_sent -/
theorem c_X5_sent_f2 (l : Launch) (nW : Nat) (D : va_G) (cA : Nat → ClassId) (ad : Nat → Nat) (hi : inj nW ad) (hNW : 114 ≤ nW) (I : SI) (J : SJ) (X : SX) (sz : Nat) (r n o : Int32) (hp : isNodeF r n = 1) (hm : inF o 0 8 = 0) : Met l yX5_sent wsX5_sent ({ frames := 2, cells := 0, slots := 0, locals := 45 }) (va_Pc [.ref (ad 102), .int (r), .int (n), .int (o)] (wPre nW D cA ad I J X sz)) (qI nW D cA ad sz (-1) (st2 I 102 14 1) J X) 0 0 (fr nW ad sz) := by
  refine Met.ofW (cc := cX5_sent) (maxL := 4) (ret := (some .int)) (by decide) rfl ?_
  intro p e s m args below meth c s₁ B hml hv
  obtain ⟨rfl, rfl, hP, hK⟩ := hv
  have hx := B.exec
  have hb := B.bytes
  have hr := B.returns
  have hts := atoms_spec (ws := wsX5_sent) B.pre
  have hown : s.vm.findClass RX5 = some m.cls := findClass_of_methodNamed B.named
  have hlocks := B.notSynchronized
  have hS : va_S (fr nW ad s.heap.size) s.heap s.heap [] := va_S.rf
  have hA : ∀ k, k < nW → fr nW ad s.heap.size (ad k) := fr_ad
  have hl := lv_entry ([.ref (ad 102), .int (r), .int (n), .int (o)]) (n := 4) (Nat.le_of_ble_eq_true rfl)
  rw [lg_entry_eq]
  generalize (lg_sl ([.ref (ad 102), .int (r), .int (n), .int (o)]) ++ List.replicate (4 - (lg_sl ([.ref (ad 102), .int (r), .int (n), .int (o)])).length) Slot.unset).toArray = ls at hl ⊢
  have hl : lv_has ls 4 [(0, .ref (ad 102)), (1, .int (r)), (2, .int (n)), (3, .int (o))] := hl
  have hS0 := hS
  suffices K : ∀ (H : Heap) (locs : List Loc), WP nW D cA ad I J X H → va_S (fr nW ad s.heap.size) s.heap H locs → W p l e (headSpec wsX5_sent ({ frames := 2, cells := 0, slots := 0, locals := 45 })).room s m ([.ref (ad 102), .int (r), .int (n), .int (o)] : List Value).toArray below meth c H locs 0 0 (MQ below (qI nW D cA ad s.heap.size (-1) (st2 I 102 14 1) J X) ([.ref (ad 102), .int (r), .int (n), .int (o)] : List Value).toArray s 0 0 (fr nW ad s.heap.size)) (F0 m 0 ls []) from K _ _ hP hS
  clear hP hS hS0
  intro H locs hP hS
  refine lv_aload_n hx hb dX5_sent_0 rfl (lv_at hl 0 rfl) ?_
  refine lv_aload_n hx hb dX5_sent_1 rfl (lv_at hl 0 rfl) ?_
  refine lv_iload_n hx hb dX5_sent_2 rfl (lv_at hl 1 rfl) ?_
  refine lv_iload_n hx hb dX5_sent_3 rfl (lv_at hl 2 rfl) ?_
  refine w_calli (va_runV (As := [.int (r), .int (n)]) (rest := [.ref (ad 102)]) ⟨hx, hb, hml, hown, hts⟩ (c_X5_isNode l nW D cA ad hi hNW I J X H.size r n) (cwV 2 hts gX5_sent_X5_isNode rfl rfl rfl (by decide +kernel) ⟨Nat.le_of_ble_eq_true rfl, Nat.le_of_ble_eq_true rfl⟩) (w_preV hK hP 102 (by omega) ⟨rfl, rfl⟩ rfl) rfl rfl hl.1 rfl (lv_room (Nat.le_of_ble_eq_true rfl)) dX5_sent_4 ⟨Nat.le_of_ble_eq_true rfl, Nat.le_of_ble_eq_true rfl⟩) hS (fun H locs hP hS => ?_)
  refine w_topN (a := 1) hp ?_
  refine lv_if_eq (tgt := 25) hx hb dX5_sent_7 (by decide) (fun c7 => ?_) (fun c7 => ?_)
  · have qc7 : 1 = 0 := (wn_eq (a := 1) (b := 0) rfl rfl (by omega) (by omega)).mp c7
    exact absurd qc7 (by omega)
  · have qc7 : ¬ 1 = 0 := fun z => c7 ((wn_eq (a := 1) (b := 0) rfl rfl (by omega) (by omega)).mpr z)
    refine lv_aload_n hx hb dX5_sent_10 rfl (lv_at hl 0 rfl) ?_
    refine lv_iload_n hx hb dX5_sent_11 rfl (lv_at hl 3 rfl) ?_
    refine lv_iconst (v := 0) hx hb dX5_sent_12 (by decide) ?_
    refine lv_bipush (v := 8) hx hb dX5_sent_13 (by decide) ?_
    refine w_calli (va_runV (As := [.int (o), .int (0), .int (8)]) (rest := [.ref (ad 102)]) ⟨hx, hb, hml, hown, hts⟩ (c_X5_in l nW D cA ad hi hNW I J X H.size o 0 8) (cwV 3 hts gX5_sent_X5_in rfl rfl rfl (by decide +kernel) ⟨Nat.le_of_ble_eq_true rfl, Nat.le_of_ble_eq_true rfl⟩) (w_preV hK hP 102 (by omega) ⟨rfl, rfl⟩ rfl) rfl rfl hl.1 rfl (lv_room (Nat.le_of_ble_eq_true rfl)) dX5_sent_15 ⟨Nat.le_of_ble_eq_true rfl, Nat.le_of_ble_eq_true rfl⟩) hS (fun H locs hP hS => ?_)
    refine w_topN (a := 0) hm ?_
    refine lv_if_eq (tgt := 25) hx hb dX5_sent_18 (by decide) (fun c18 => ?_) (fun c18 => ?_)
    · have qc18 : 0 = 0 := (wn_eq (a := 0) (b := 0) rfl rfl (by omega) (by omega)).mp c18
      refine lv_iconst (v := 1) hx hb dX5_sent_25 (by decide) ?_
      refine w_calli (va_runV (As := [.int (1)]) (rest := []) ⟨hx, hb, hml, hown, hts⟩ (c_X5_fails l nW D cA ad hi hNW I J X H.size 1) (cwV 1 hts gX5_sent_X5_fails rfl rfl rfl (by decide +kernel) ⟨Nat.le_of_ble_eq_true rfl, Nat.le_of_ble_eq_true rfl⟩) (w_preV hK hP 102 (by omega) ⟨rfl, rfl⟩ rfl) rfl rfl hl.1 rfl (lv_room (Nat.le_of_ble_eq_true rfl)) dX5_sent_26 ⟨Nat.le_of_ble_eq_true rfl, Nat.le_of_ble_eq_true rfl⟩) hS (fun H locs hP hS => ?_)
      refine w_topN (a := 1) (by decide) ?_
      refine lv_if_eq (tgt := 36) hx hb dX5_sent_29 (by decide) (fun c29 => ?_) (fun c29 => ?_)
      · have qc29 : 1 = 0 := (wn_eq (a := 1) (b := 0) rfl rfl (by omega) (by omega)).mp c29
        exact absurd qc29 (by omega)
      · have qc29 : ¬ 1 = 0 := fun z => c29 ((wn_eq (a := 1) (b := 0) rfl rfl (by omega) (by omega)).mpr z)
        refine lv_iconst (v := (-1)) hx hb dX5_sent_32 (by decide) ?_
        refine lv_goto (tgt := 53) hx hb dX5_sent_33 (by decide) ?_
        exact w_iret hx hb hr hlocks hK hP hS ⟨by subst_vars; rfl, by subst_vars; rfl, by subst_vars; rfl, by subst_vars; rfl⟩ dX5_sent_53
    · have qc18 : ¬ 0 = 0 := fun z => c18 ((wn_eq (a := 0) (b := 0) rfl rfl (by omega) (by omega)).mpr z)
      exact absurd qc18 (by omega)

theorem inX5_pushes_X5 : ∀ w ∈ wsX50, w ∈ wsX5_pushes := by decide +kernel
set_option maxHeartbeats 4000000 in
set_option maxRecDepth 100000 in
/-- X5_pushes -/
theorem c_X5_pushes (l : Launch) (nW : Nat) (D : va_G) (cA : Nat → ClassId) (ad : Nat → Nat) (hi : inj nW ad) (hNW : 114 ≤ nW) (I : SI) (J : SJ) (X : SX) (sz : Nat)  : Met l yX5_pushes wsX5_pushes ({ frames := 1, cells := 0, slots := 0, locals := 21 }) (va_Pc [.ref (ad 102)] (wPre nW D cA ad I J X sz)) (qI nW D cA ad sz (I 102 4) (st2 I 102 14 0) J X) 0 0 (fr nW ad sz) := by
  refine Met.ofW (cc := cX5_pushes) (maxL := 1) (ret := (some .int)) (by decide) rfl ?_
  intro p e s m args below meth c s₁ B hml hv
  obtain ⟨rfl, rfl, hP, hK⟩ := hv
  have hx := B.exec
  have hb := B.bytes
  have hr := B.returns
  have hts := atoms_spec (ws := wsX5_pushes) B.pre
  have hown : s.vm.findClass RX5 = some m.cls := findClass_of_methodNamed B.named
  have hlocks := B.notSynchronized
  have hS : va_S (fr nW ad s.heap.size) s.heap s.heap [] := va_S.rf
  have hA : ∀ k, k < nW → fr nW ad s.heap.size (ad k) := fr_ad
  have hl := lv_entry ([.ref (ad 102)]) (n := 1) (Nat.le_of_ble_eq_true rfl)
  rw [lg_entry_eq]
  generalize (lg_sl ([.ref (ad 102)]) ++ List.replicate (1 - (lg_sl ([.ref (ad 102)])).length) Slot.unset).toArray = ls at hl ⊢
  have hl : lv_has ls 1 [(0, .ref (ad 102))] := hl
  have hS0 := hS
  suffices K : ∀ (H : Heap) (locs : List Loc), WP nW D cA ad I J X H → va_S (fr nW ad s.heap.size) s.heap H locs → W p l e (headSpec wsX5_pushes ({ frames := 1, cells := 0, slots := 0, locals := 21 })).room s m ([.ref (ad 102)] : List Value).toArray below meth c H locs 0 0 (MQ below (qI nW D cA ad s.heap.size (I 102 4) (st2 I 102 14 0) J X) ([.ref (ad 102)] : List Value).toArray s 0 0 (fr nW ad s.heap.size)) (F0 m 0 ls []) from K _ _ hP hS
  clear hP hS hS0
  intro H locs hP hS
  refine lv_aload_n hx hb dX5_pushes_0 rfl (lv_at hl 0 rfl) ?_
  refine lv_iconst (v := 0) hx hb dX5_pushes_1 (by decide) ?_
  refine w_calli (va_runV (As := [.int (0)]) (rest := []) ⟨hx, hb, hml, hown, hts⟩ (c_X5_fails l nW D cA ad hi hNW I J X H.size 0) (cwV 1 hts gX5_pushes_X5_fails rfl rfl rfl (by decide +kernel) ⟨Nat.le_of_ble_eq_true rfl, Nat.le_of_ble_eq_true rfl⟩) (w_preV hK hP 102 (by omega) ⟨rfl, rfl⟩ rfl) rfl rfl hl.1 rfl (lv_room (Nat.le_of_ble_eq_true rfl)) dX5_pushes_2 ⟨Nat.le_of_ble_eq_true rfl, Nat.le_of_ble_eq_true rfl⟩) hS (fun H locs hP hS => ?_)
  refine lv_pop hx hb dX5_pushes_5 rfl ?_
  refine lv_aload_n hx hb dX5_pushes_6 rfl (lv_at hl 0 rfl) ?_
  refine w_get (C := RX5) (T := TX5) (N := 15) (v := .int ((st2 I 102 14 0) 102 4)) (index := 79) hx hb hts inX5_pushes_X5 hown hK hP 102 4 ⟨rfl, rfl, by decide⟩ (by omega) rfl (List.mem_of_getElem? (i := 1) rfl) (fun _ h9 => h9) dX5_pushes_7 ?_
  exact w_iret hx hb hr hlocks hK hP hS ⟨by subst_vars; exact st2_n _ _ (by omega), by subst_vars; rfl, by subst_vars; rfl, by subst_vars; rfl⟩ dX5_pushes_10
