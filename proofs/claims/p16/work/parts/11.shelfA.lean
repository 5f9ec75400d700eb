/-- a mend of all walks goes through: state by state -/
def MendOK (cn : Nat → Nat) (nb : Nat → Nat → Nat) (Is : Nat → SI) (Js : Nat → SJ) : Prop := ∀ w, w < 4 → NetOK (Is w) cn nb ∧ Is w (31 + w) 1 = nI w ∧ ∃ f, f ≤ 10000000 ∧ runF cn nb w (Is w 0 5) (Is w 0 6) f (Is w) (mdL (Is w) cn nb (Js w) w 9) = some (Is (w + 1), Js (w + 1))
def BeginOK (cn : Nat → Nat) (nb : Nat → Nat → Nat) (Is : Nat → SI) (Js : Nat → SJ) : Prop := ∀ w, w < 4 → NetOK (Is w) cn nb ∧ Is w (31 + w) 1 = nI w ∧ ∃ f, f ≤ 10000000 ∧ runF cn nb w (Is w 0 5) (Is w 0 6) f (Is w) (beginJ (Js w) w) = some (Is (w + 1), Js (w + 1))

theorem inX4_mendWalks_X1 : ∀ w ∈ wsX10, w ∈ wsX4_mendWalks := by decide +kernel
theorem inX4_mendWalks_X3 : ∀ w ∈ wsX30, w ∈ wsX4_mendWalks := by decide +kernel
theorem inX4_mendWalks_X4 : ∀ w ∈ wsX40, w ∈ wsX4_mendWalks := by decide +kernel
set_option maxHeartbeats 4000000 in
set_option maxRecDepth 100000 in
theorem lp_X4_mendWalks {p : Program} {l : Launch} {e : Env} {s : State} {m : MethodId} {args : Array Value} {below : List Frame} {meth : Method} {c : Code} {Q : State → Prop} {nW : Nat} {D : va_G} {cA : Nat → ClassId} {ad : Nat → Nat} (hi : inj nW ad) (hNW : 102 ≤ nW) (hx : p.tables.exec = Jvm.exec) (hb : c.code = cX4_mendWalks) (hml : c.maxLocals = 2) (hown : s.vm.findClass RX4 = some m.cls) (hts : ∀ w ∈ wsX4_mendWalks, w.before args s = true) (hK : WK D cA s) (I : SI) (J : SJ) (X : SX) (cn : Nat → Nat) (nb : Nat → Nat → Nat) (Is : Nat → SI) (Js : Nat → SJ) (hM : MendOK cn nb Is Js) (kx :  ∀ (H : Heap) (locs : List Loc), WP nW D cA ad (Is 4) (Js 4) X H → va_S (fr nW ad s.heap.size) s.heap H locs → ∀ (ls : Array Slot), lv_has ls 2 [(0, .ref (ad 0))] → W p l e (headSpec wsX4_mendWalks ({ frames := 4, cells := 0, slots := 0, locals := 108 })).room s m args below meth c H locs 0 0 Q (F0 m 47 ls [])) : ∀ (t w : Nat), w + t = 4 →  ∀ (H : Heap) (locs : List Loc), WP nW D cA ad (Is (w)) (Js (w)) X H → va_S (fr nW ad s.heap.size) s.heap H locs → ∀ (ls : Array Slot), lv_has ls 2 [(1, .int (nI (w))), (0, .ref (ad 0))] → W p l e (headSpec wsX4_mendWalks ({ frames := 4, cells := 0, slots := 0, locals := 108 })).room s m args below meth c H locs 0 0 Q (F0 m 2 ls []) := by
  have hA : ∀ k, k < nW → fr nW ad s.heap.size (ad k) := fr_ad
  intro t
  induction t with
  | zero =>
    intro w hj  H locs hP hS ls hl
    obtain rfl : 4 = w := by omega
    refine lv_iload_n hx hb dX4_mendWalks_2 rfl (lv_at hl 0 rfl) ?_
    refine lv_iconst (v := 4) hx hb dX4_mendWalks_3 (by decide) ?_
    refine lv_icmp_ge (tgt := 47) hx hb dX4_mendWalks_4 (by decide) (fun cc => ?_) (fun cc => ?_)
    · have qcc : 4 ≤ 4 := (wn_le (a := 4) (b := 4) rfl rfl (by omega) (by omega)).mp cc
      exact kx  H locs (w_cong (I1 := (Is 4)) (J1 := (Js 4)) (X1 := X) hP ⟨(by subst_vars; rfl), (by subst_vars; rfl), rfl⟩) hS ls (lv_sub hl [1] rfl)
    · have qcc : ¬ 4 ≤ 4 := fun z => cc ((wn_le (a := 4) (b := 4) rfl rfl (by omega) (by omega)).mpr z)
      exact absurd qcc (by omega)
  | succ t ih =>
    intro w hj  H locs hP hS ls hl
    obtain ⟨hN, hrd, f, hf, hrun⟩ := hM w (by omega)
    refine lv_iload_n hx hb dX4_mendWalks_2 rfl (lv_at hl 0 rfl) ?_
    refine lv_iconst (v := 4) hx hb dX4_mendWalks_3 (by decide) ?_
    refine lv_icmp_ge (tgt := 47) hx hb dX4_mendWalks_4 (by decide) (fun cc => ?_) (fun cc => ?_)
    · have qcc : 4 ≤ w := (wn_le (a := 4) (b := w) rfl rfl (by omega) (by omega)).mp cc
      exact absurd qcc (by omega)
    · have qcc : ¬ 4 ≤ w := fun z => cc ((wn_le (a := 4) (b := w) rfl rfl (by omega) (by omega)).mpr z)
      refine lv_aload_n hx hb dX4_mendWalks_7 rfl (lv_at hl 1 rfl) ?_
      refine w_get (C := RX4) (T := TX4) (N := 7) (v := .ref (ad 30)) (index := 18) hx hb hts inX4_mendWalks_X4 hown hK hP 0 1 ⟨rfl, rfl, by decide⟩ (by omega) rfl (List.mem_of_getElem? (i := 1) rfl) (fun _ h9 => h9) dX4_mendWalks_8 ?_
      refine lv_iload_n hx hb dX4_mendWalks_11 rfl (lv_at hl 0 rfl) ?_
      refine w_aald hx hb hK hP 30 (w) 31 7 ⟨rfl, (by show w < 4; omega), rfl, rfl, by decide, by decide⟩ (by omega) rfl dX4_mendWalks_12 ?_
      refine lv_aload_n hx hb dX4_mendWalks_13 rfl (lv_at hl 1 rfl) ?_
      refine w_get (C := RX4) (T := TX4) (N := 7) (v := .ref (ad 1)) (index := 12) hx hb hts inX4_mendWalks_X4 hown hK hP 0 0 ⟨rfl, rfl, by decide⟩ (by omega) rfl (List.mem_of_getElem? (i := 2) rfl) (fun _ h9 => h9) dX4_mendWalks_14 ?_
      refine w_callv (va_runV (As := [.ref (ad 1)]) (rest := []) ⟨hx, hb, hml, hown, hts⟩ (c_X3_mend l nW D cA ad hi hNW (Is (w)) (Js (w)) X H.size w (by omega) cn nb hN hrd) (cwV 1 hts gX4_mendWalks_X3_mend rfl rfl rfl (by decide +kernel) ⟨Nat.le_of_ble_eq_true rfl, Nat.le_of_ble_eq_true rfl⟩) (w_preV hK hP (31 + w) (by omega) (k_walk (by omega)) rfl) rfl rfl hl.1 rfl (lv_room (Nat.le_of_ble_eq_true rfl)) dX4_mendWalks_17 ⟨Nat.le_of_ble_eq_true rfl, Nat.le_of_ble_eq_true rfl⟩) hS (fun H locs hP hS => ?_)
      refine lv_aload_n hx hb dX4_mendWalks_20 rfl (lv_at hl 1 rfl) ?_
      refine w_get (C := RX4) (T := TX4) (N := 7) (v := .ref (ad 30)) (index := 18) hx hb hts inX4_mendWalks_X4 hown hK hP 0 1 ⟨rfl, rfl, by decide⟩ (by omega) rfl (List.mem_of_getElem? (i := 1) rfl) (fun _ h9 => h9) dX4_mendWalks_21 ?_
      refine lv_iload_n hx hb dX4_mendWalks_24 rfl (lv_at hl 0 rfl) ?_
      refine w_aald hx hb hK hP 30 (w) 31 7 ⟨rfl, (by show w < 4; omega), rfl, rfl, by decide, by decide⟩ (by omega) rfl dX4_mendWalks_25 ?_
      refine lv_aload_n hx hb dX4_mendWalks_26 rfl (lv_at hl 1 rfl) ?_
      refine w_get (C := RX4) (T := TX4) (N := 7) (v := .ref (ad 1)) (index := 12) hx hb hts inX4_mendWalks_X4 hown hK hP 0 0 ⟨rfl, rfl, by decide⟩ (by omega) rfl (List.mem_of_getElem? (i := 2) rfl) (fun _ h9 => h9) dX4_mendWalks_27 ?_
      refine lv_aload_n hx hb dX4_mendWalks_30 rfl (lv_at hl 1 rfl) ?_
      refine w_get (C := RX4) (T := TX4) (N := 7) (v := .int ((Is (w)) 0 5)) (index := 43) hx hb hts inX4_mendWalks_X4 hown hK hP 0 5 ⟨rfl, rfl, by decide⟩ (by omega) rfl (List.mem_of_getElem? (i := 3) rfl) (fun _ h9 => h9) dX4_mendWalks_31 ?_
      refine lv_aload_n hx hb dX4_mendWalks_34 rfl (lv_at hl 1 rfl) ?_
      refine w_get (C := RX4) (T := TX4) (N := 7) (v := .int ((Is (w)) 0 6)) (index := 47) hx hb hts inX4_mendWalks_X4 hown hK hP 0 6 ⟨rfl, rfl, by decide⟩ (by omega) rfl (List.mem_of_getElem? (i := 4) rfl) (fun _ h9 => h9) dX4_mendWalks_35 ?_
      refine w_callv (va_runV (As := [.ref (ad 1), .int ((Is (w)) 0 5), .int ((Is (w)) 0 6)]) (rest := []) ⟨hx, hb, hml, hown, hts⟩ (c_X3_settle l nW D cA ad hi hNW (Is (w)) (mdL (Is (w)) cn nb (Js (w)) w 9) X H.size w ((Is (w)) 0 5) ((Is (w)) 0 6) (by omega) cn nb (Is (w + 1)) (Js (w + 1)) hN hrd f hf hrun) (cwV 3 hts gX4_mendWalks_X3_settle rfl rfl rfl (by decide +kernel) ⟨Nat.le_of_ble_eq_true rfl, Nat.le_of_ble_eq_true rfl⟩) (w_preV hK hP (31 + w) (by omega) (k_walk (by omega)) rfl) rfl rfl hl.1 rfl (lv_room (Nat.le_of_ble_eq_true rfl)) dX4_mendWalks_38 ⟨Nat.le_of_ble_eq_true rfl, Nat.le_of_ble_eq_true rfl⟩) hS (fun H locs hP hS => ?_)
      refine lv_iinc (v := nI (w + 1)) (lv' := [(1, .int (nI (w + 1))), (0, .ref (ad 0))]) hx hb dX4_mendWalks_41 hl (k := 0) rfl (wn_inc rfl) (by decide) rfl (fun ls hl => ?_)
      refine lv_goto (tgt := 2) hx hb dX4_mendWalks_44 (by decide) ?_
      exact ih (w + 1) (by omega)  H locs (w_cong (I1 := (Is ((w + 1)))) (J1 := (Js ((w + 1)))) (X1 := X) hP ⟨(by subst_vars; rfl), (by subst_vars; rfl), rfl⟩) hS ls (lv_cong (l := [(1, .int (nI (w + 1))), (0, .ref (ad 0))]) (l' := [(1, .int (nI ((w + 1)))), (0, .ref (ad 0))]) (lv_sub hl [0, 1] rfl) (by subst_vars; rfl))

set_option maxHeartbeats 4000000 in
set_option maxRecDepth 100000 in
/-- X4_mendWalks -/
theorem c_X4_mendWalks (l : Launch) (nW : Nat) (D : va_G) (cA : Nat → ClassId) (ad : Nat → Nat) (hi : inj nW ad) (hNW : 102 ≤ nW) (I : SI) (J : SJ) (X : SX) (sz : Nat) (cn : Nat → Nat) (nb : Nat → Nat → Nat) (Is : Nat → SI) (Js : Nat → SJ) (h0 : I = Is 0) (j0 : J = Js 0) (hM : MendOK cn nb Is Js) : Met l yX4_mendWalks wsX4_mendWalks ({ frames := 4, cells := 0, slots := 0, locals := 108 }) (va_Pc [.ref (ad 0)] (wPre nW D cA ad I J X sz)) (qV nW D cA ad sz (Is 4) (Js 4) X) 0 0 (fr nW ad sz) := by
  refine Met.ofW (cc := cX4_mendWalks) (maxL := 2) (ret := none) (by decide) rfl ?_
  intro p e s m args below meth c s₁ B hml hv
  obtain ⟨rfl, rfl, hP, hK⟩ := hv
  have hx := B.exec
  have hb := B.bytes
  have hr := B.returns
  have hts := atoms_spec (ws := wsX4_mendWalks) B.pre
  have hown : s.vm.findClass RX4 = some m.cls := findClass_of_methodNamed B.named
  have hlocks := B.notSynchronized
  have hS : va_S (fr nW ad s.heap.size) s.heap s.heap [] := va_S.rf
  have hA : ∀ k, k < nW → fr nW ad s.heap.size (ad k) := fr_ad
  have hl := lv_entry ([.ref (ad 0)]) (n := 2) (Nat.le_of_ble_eq_true rfl)
  rw [lg_entry_eq]
  generalize (lg_sl ([.ref (ad 0)]) ++ List.replicate (2 - (lg_sl ([.ref (ad 0)])).length) Slot.unset).toArray = ls at hl ⊢
  have hl : lv_has ls 2 [(0, .ref (ad 0))] := hl
  have hS0 := hS
  suffices K : ∀ (H : Heap) (locs : List Loc), WP nW D cA ad I J X H → va_S (fr nW ad s.heap.size) s.heap H locs → W p l e (headSpec wsX4_mendWalks ({ frames := 4, cells := 0, slots := 0, locals := 108 })).room s m ([.ref (ad 0)] : List Value).toArray below meth c H locs 0 0 (MQ below (qV nW D cA ad s.heap.size (Is 4) (Js 4) X) ([.ref (ad 0)] : List Value).toArray s 0 0 (fr nW ad s.heap.size)) (F0 m 0 ls []) from K _ _ hP hS
  clear hP hS hS0
  intro H locs hP hS
  refine lv_iconst (v := 0) hx hb dX4_mendWalks_0 (by decide) ?_
  refine lv_istore_n (lv' := [(1, .int (0)), (0, .ref (ad 0))]) hx hb dX4_mendWalks_1 rfl hl (by decide) rfl (fun ls hl => ?_)
  refine lp_X4_mendWalks hi hNW hx hb hml hown hts hK I J X cn nb Is Js hM (fun  H locs hP hS ls hl => ?_) (4) (0) (by omega)  H locs (w_cong (I1 := (Is 0)) (J1 := (Js 0)) (X1 := X) hP ⟨(by first | exact h0 | exact j0 | (subst_vars; rfl)), (by first | exact h0 | exact j0 | (subst_vars; rfl)), rfl⟩) hS ls (lv_cong (l := [(1, .int (0)), (0, .ref (ad 0))]) (l' := [(1, .int (nI (0))), (0, .ref (ad 0))]) (lv_sub hl [0, 1] rfl) (by first | exact h0 | exact j0 | (subst_vars; rfl)))
  exact w_vret hx hb hr hlocks hK hP hS ⟨by subst_vars; rfl, by subst_vars; rfl, by subst_vars; rfl⟩ dX4_mendWalks_47

theorem inX4_beginWalks_X1 : ∀ w ∈ wsX10, w ∈ wsX4_beginWalks := by decide +kernel
theorem inX4_beginWalks_X3 : ∀ w ∈ wsX30, w ∈ wsX4_beginWalks := by decide +kernel
theorem inX4_beginWalks_X4 : ∀ w ∈ wsX40, w ∈ wsX4_beginWalks := by decide +kernel
set_option maxHeartbeats 4000000 in
set_option maxRecDepth 100000 in
theorem lp_X4_beginWalks {p : Program} {l : Launch} {e : Env} {s : State} {m : MethodId} {args : Array Value} {below : List Frame} {meth : Method} {c : Code} {Q : State → Prop} {nW : Nat} {D : va_G} {cA : Nat → ClassId} {ad : Nat → Nat} (hi : inj nW ad) (hNW : 102 ≤ nW) (hx : p.tables.exec = Jvm.exec) (hb : c.code = cX4_beginWalks) (hml : c.maxLocals = 2) (hown : s.vm.findClass RX4 = some m.cls) (hts : ∀ w ∈ wsX4_beginWalks, w.before args s = true) (hK : WK D cA s) (I : SI) (J : SJ) (X : SX) (cn : Nat → Nat) (nb : Nat → Nat → Nat) (Is : Nat → SI) (Js : Nat → SJ) (hM : BeginOK cn nb Is Js) (kx :  ∀ (H : Heap) (locs : List Loc), WP nW D cA ad (Is 4) (Js 4) X H → va_S (fr nW ad s.heap.size) s.heap H locs → ∀ (ls : Array Slot), lv_has ls 2 [(0, .ref (ad 0))] → W p l e (headSpec wsX4_beginWalks ({ frames := 4, cells := 0, slots := 0, locals := 108 })).room s m args below meth c H locs 0 0 Q (F0 m 43 ls [])) : ∀ (t w : Nat), w + t = 4 →  ∀ (H : Heap) (locs : List Loc), WP nW D cA ad (Is (w)) (Js (w)) X H → va_S (fr nW ad s.heap.size) s.heap H locs → ∀ (ls : Array Slot), lv_has ls 2 [(1, .int (nI (w))), (0, .ref (ad 0))] → W p l e (headSpec wsX4_beginWalks ({ frames := 4, cells := 0, slots := 0, locals := 108 })).room s m args below meth c H locs 0 0 Q (F0 m 2 ls []) := by
  have hA : ∀ k, k < nW → fr nW ad s.heap.size (ad k) := fr_ad
  intro t
  induction t with
  | zero =>
    intro w hj  H locs hP hS ls hl
    obtain rfl : 4 = w := by omega
    refine lv_iload_n hx hb dX4_beginWalks_2 rfl (lv_at hl 0 rfl) ?_
    refine lv_iconst (v := 4) hx hb dX4_beginWalks_3 (by decide) ?_
    refine lv_icmp_ge (tgt := 43) hx hb dX4_beginWalks_4 (by decide) (fun cc => ?_) (fun cc => ?_)
    · have qcc : 4 ≤ 4 := (wn_le (a := 4) (b := 4) rfl rfl (by omega) (by omega)).mp cc
      exact kx  H locs (w_cong (I1 := (Is 4)) (J1 := (Js 4)) (X1 := X) hP ⟨(by subst_vars; rfl), (by subst_vars; rfl), rfl⟩) hS ls (lv_sub hl [1] rfl)
    · have qcc : ¬ 4 ≤ 4 := fun z => cc ((wn_le (a := 4) (b := 4) rfl rfl (by omega) (by omega)).mpr z)
      exact absurd qcc (by omega)
  | succ t ih =>
    intro w hj  H locs hP hS ls hl
    obtain ⟨hN, hrd, f, hf, hrun⟩ := hM w (by omega)
    refine lv_iload_n hx hb dX4_beginWalks_2 rfl (lv_at hl 0 rfl) ?_
    refine lv_iconst (v := 4) hx hb dX4_beginWalks_3 (by decide) ?_
    refine lv_icmp_ge (tgt := 43) hx hb dX4_beginWalks_4 (by decide) (fun cc => ?_) (fun cc => ?_)
    · have qcc : 4 ≤ w := (wn_le (a := 4) (b := w) rfl rfl (by omega) (by omega)).mp cc
      exact absurd qcc (by omega)
    · have qcc : ¬ 4 ≤ w := fun z => cc ((wn_le (a := 4) (b := w) rfl rfl (by omega) (by omega)).mpr z)
      refine lv_aload_n hx hb dX4_beginWalks_7 rfl (lv_at hl 1 rfl) ?_
      refine w_get (C := RX4) (T := TX4) (N := 7) (v := .ref (ad 30)) (index := 18) hx hb hts inX4_beginWalks_X4 hown hK hP 0 1 ⟨rfl, rfl, by decide⟩ (by omega) rfl (List.mem_of_getElem? (i := 1) rfl) (fun _ h9 => h9) dX4_beginWalks_8 ?_
      refine lv_iload_n hx hb dX4_beginWalks_11 rfl (lv_at hl 0 rfl) ?_
      refine w_aald hx hb hK hP 30 (w) 31 7 ⟨rfl, (by show w < 4; omega), rfl, rfl, by decide, by decide⟩ (by omega) rfl dX4_beginWalks_12 ?_
      refine w_callv (va_runV (As := []) (rest := []) ⟨hx, hb, hml, hown, hts⟩ (c_X3_begin l nW D cA ad hi hNW (Is (w)) (Js (w)) X H.size w (by omega) hrd) (cwV 0 hts gX4_beginWalks_X3_begin rfl rfl rfl (by decide +kernel) ⟨Nat.le_of_ble_eq_true rfl, Nat.le_of_ble_eq_true rfl⟩) (w_preV hK hP (31 + w) (by omega) (k_walk (by omega)) rfl) rfl rfl hl.1 rfl (lv_room (Nat.le_of_ble_eq_true rfl)) dX4_beginWalks_13 ⟨Nat.le_of_ble_eq_true rfl, Nat.le_of_ble_eq_true rfl⟩) hS (fun H locs hP hS => ?_)
      refine lv_aload_n hx hb dX4_beginWalks_16 rfl (lv_at hl 1 rfl) ?_
      refine w_get (C := RX4) (T := TX4) (N := 7) (v := .ref (ad 30)) (index := 18) hx hb hts inX4_beginWalks_X4 hown hK hP 0 1 ⟨rfl, rfl, by decide⟩ (by omega) rfl (List.mem_of_getElem? (i := 1) rfl) (fun _ h9 => h9) dX4_beginWalks_17 ?_
      refine lv_iload_n hx hb dX4_beginWalks_20 rfl (lv_at hl 0 rfl) ?_
      refine w_aald hx hb hK hP 30 (w) 31 7 ⟨rfl, (by show w < 4; omega), rfl, rfl, by decide, by decide⟩ (by omega) rfl dX4_beginWalks_21 ?_
      refine lv_aload_n hx hb dX4_beginWalks_22 rfl (lv_at hl 1 rfl) ?_
      refine w_get (C := RX4) (T := TX4) (N := 7) (v := .ref (ad 1)) (index := 12) hx hb hts inX4_beginWalks_X4 hown hK hP 0 0 ⟨rfl, rfl, by decide⟩ (by omega) rfl (List.mem_of_getElem? (i := 2) rfl) (fun _ h9 => h9) dX4_beginWalks_23 ?_
      refine lv_aload_n hx hb dX4_beginWalks_26 rfl (lv_at hl 1 rfl) ?_
      refine w_get (C := RX4) (T := TX4) (N := 7) (v := .int ((Is (w)) 0 5)) (index := 43) hx hb hts inX4_beginWalks_X4 hown hK hP 0 5 ⟨rfl, rfl, by decide⟩ (by omega) rfl (List.mem_of_getElem? (i := 3) rfl) (fun _ h9 => h9) dX4_beginWalks_27 ?_
      refine lv_aload_n hx hb dX4_beginWalks_30 rfl (lv_at hl 1 rfl) ?_
      refine w_get (C := RX4) (T := TX4) (N := 7) (v := .int ((Is (w)) 0 6)) (index := 47) hx hb hts inX4_beginWalks_X4 hown hK hP 0 6 ⟨rfl, rfl, by decide⟩ (by omega) rfl (List.mem_of_getElem? (i := 4) rfl) (fun _ h9 => h9) dX4_beginWalks_31 ?_
      refine w_callv (va_runV (As := [.ref (ad 1), .int ((Is (w)) 0 5), .int ((Is (w)) 0 6)]) (rest := []) ⟨hx, hb, hml, hown, hts⟩ (c_X3_settle l nW D cA ad hi hNW (Is (w)) (beginJ (Js (w)) w) X H.size w ((Is (w)) 0 5) ((Is (w)) 0 6) (by omega) cn nb (Is (w + 1)) (Js (w + 1)) hN hrd f hf hrun) (cwV 3 hts gX4_beginWalks_X3_settle rfl rfl rfl (by decide +kernel) ⟨Nat.le_of_ble_eq_true rfl, Nat.le_of_ble_eq_true rfl⟩) (w_preV hK hP (31 + w) (by omega) (k_walk (by omega)) rfl) rfl rfl hl.1 rfl (lv_room (Nat.le_of_ble_eq_true rfl)) dX4_beginWalks_34 ⟨Nat.le_of_ble_eq_true rfl, Nat.le_of_ble_eq_true rfl⟩) hS (fun H locs hP hS => ?_)
      refine lv_iinc (v := nI (w + 1)) (lv' := [(1, .int (nI (w + 1))), (0, .ref (ad 0))]) hx hb dX4_beginWalks_37 hl (k := 0) rfl (wn_inc rfl) (by decide) rfl (fun ls hl => ?_)
      refine lv_goto (tgt := 2) hx hb dX4_beginWalks_40 (by decide) ?_
      exact ih (w + 1) (by omega)  H locs (w_cong (I1 := (Is ((w + 1)))) (J1 := (Js ((w + 1)))) (X1 := X) hP ⟨(by subst_vars; rfl), (by subst_vars; rfl), rfl⟩) hS ls (lv_cong (l := [(1, .int (nI (w + 1))), (0, .ref (ad 0))]) (l' := [(1, .int (nI ((w + 1)))), (0, .ref (ad 0))]) (lv_sub hl [0, 1] rfl) (by subst_vars; rfl))

set_option maxHeartbeats 4000000 in
set_option maxRecDepth 100000 in
/-- X4_beginWalks -/
theorem c_X4_beginWalks (l : Launch) (nW : Nat) (D : va_G) (cA : Nat → ClassId) (ad : Nat → Nat) (hi : inj nW ad) (hNW : 102 ≤ nW) (I : SI) (J : SJ) (X : SX) (sz : Nat) (cn : Nat → Nat) (nb : Nat → Nat → Nat) (Is : Nat → SI) (Js : Nat → SJ) (h0 : I = Is 0) (j0 : J = Js 0) (hM : BeginOK cn nb Is Js) : Met l yX4_beginWalks wsX4_beginWalks ({ frames := 4, cells := 0, slots := 0, locals := 108 }) (va_Pc [.ref (ad 0)] (wPre nW D cA ad I J X sz)) (qV nW D cA ad sz (Is 4) (Js 4) X) 0 0 (fr nW ad sz) := by
  refine Met.ofW (cc := cX4_beginWalks) (maxL := 2) (ret := none) (by decide) rfl ?_
  intro p e s m args below meth c s₁ B hml hv
  obtain ⟨rfl, rfl, hP, hK⟩ := hv
  have hx := B.exec
  have hb := B.bytes
  have hr := B.returns
  have hts := atoms_spec (ws := wsX4_beginWalks) B.pre
  have hown : s.vm.findClass RX4 = some m.cls := findClass_of_methodNamed B.named
  have hlocks := B.notSynchronized
  have hS : va_S (fr nW ad s.heap.size) s.heap s.heap [] := va_S.rf
  have hA : ∀ k, k < nW → fr nW ad s.heap.size (ad k) := fr_ad
  have hl := lv_entry ([.ref (ad 0)]) (n := 2) (Nat.le_of_ble_eq_true rfl)
  rw [lg_entry_eq]
  generalize (lg_sl ([.ref (ad 0)]) ++ List.replicate (2 - (lg_sl ([.ref (ad 0)])).length) Slot.unset).toArray = ls at hl ⊢
  have hl : lv_has ls 2 [(0, .ref (ad 0))] := hl
  have hS0 := hS
  suffices K : ∀ (H : Heap) (locs : List Loc), WP nW D cA ad I J X H → va_S (fr nW ad s.heap.size) s.heap H locs → W p l e (headSpec wsX4_beginWalks ({ frames := 4, cells := 0, slots := 0, locals := 108 })).room s m ([.ref (ad 0)] : List Value).toArray below meth c H locs 0 0 (MQ below (qV nW D cA ad s.heap.size (Is 4) (Js 4) X) ([.ref (ad 0)] : List Value).toArray s 0 0 (fr nW ad s.heap.size)) (F0 m 0 ls []) from K _ _ hP hS
  clear hP hS hS0
  intro H locs hP hS
  refine lv_iconst (v := 0) hx hb dX4_beginWalks_0 (by decide) ?_
  refine lv_istore_n (lv' := [(1, .int (0)), (0, .ref (ad 0))]) hx hb dX4_beginWalks_1 rfl hl (by decide) rfl (fun ls hl => ?_)
  refine lp_X4_beginWalks hi hNW hx hb hml hown hts hK I J X cn nb Is Js hM (fun  H locs hP hS ls hl => ?_) (4) (0) (by omega)  H locs (w_cong (I1 := (Is 0)) (J1 := (Js 0)) (X1 := X) hP ⟨(by first | exact h0 | exact j0 | (subst_vars; rfl)), (by first | exact h0 | exact j0 | (subst_vars; rfl)), rfl⟩) hS ls (lv_cong (l := [(1, .int (0)), (0, .ref (ad 0))]) (l' := [(1, .int (nI (0))), (0, .ref (ad 0))]) (lv_sub hl [0, 1] rfl) (by first | exact h0 | exact j0 | (subst_vars; rfl)))
  exact w_vret hx hb hr hlocks hK hP hS ⟨by subst_vars; rfl, by subst_vars; rfl, by subst_vars; rfl⟩ dX4_beginWalks_43

def pcS (I : SI) : Nat → Int32
  | 0 => 0
  | w + 1 => pcS I w + I (31 + w) 5

theorem inX4_pushes_X3 : ∀ w ∈ wsX30, w ∈ wsX4_pushes := by decide +kernel
theorem inX4_pushes_X4 : ∀ w ∈ wsX40, w ∈ wsX4_pushes := by decide +kernel
set_option maxHeartbeats 4000000 in
set_option maxRecDepth 100000 in
theorem lp_X4_pushes {p : Program} {l : Launch} {e : Env} {s : State} {m : MethodId} {args : Array Value} {below : List Frame} {meth : Method} {c : Code} {Q : State → Prop} {nW : Nat} {D : va_G} {cA : Nat → ClassId} {ad : Nat → Nat} (hi : inj nW ad) (hNW : 102 ≤ nW) (hx : p.tables.exec = Jvm.exec) (hb : c.code = cX4_pushes) (hml : c.maxLocals = 3) (hown : s.vm.findClass RX4 = some m.cls) (hts : ∀ w ∈ wsX4_pushes, w.before args s = true) (hK : WK D cA s) (I : SI) (J : SJ) (X : SX)  (kx :  ∀ (H : Heap) (locs : List Loc), WP nW D cA ad I J X H → va_S (fr nW ad s.heap.size) s.heap H locs → ∀ (ls : Array Slot), lv_has ls 3 [(1, .int (pcS I 4)), (0, .ref (ad 0))] → W p l e (headSpec wsX4_pushes ({ frames := 1, cells := 0, slots := 0, locals := 20 })).room s m args below meth c H locs 0 0 Q (F0 m 27 ls [])) : ∀ (t w : Nat), w + t = 4 →  ∀ (H : Heap) (locs : List Loc), WP nW D cA ad I J X H → va_S (fr nW ad s.heap.size) s.heap H locs → ∀ (ls : Array Slot), lv_has ls 3 [(2, .int (nI (w))), (1, .int (pcS I (w))), (0, .ref (ad 0))] → W p l e (headSpec wsX4_pushes ({ frames := 1, cells := 0, slots := 0, locals := 20 })).room s m args below meth c H locs 0 0 Q (F0 m 4 ls []) := by
  have hA : ∀ k, k < nW → fr nW ad s.heap.size (ad k) := fr_ad
  intro t
  induction t with
  | zero =>
    intro w hj  H locs hP hS ls hl
    obtain rfl : 4 = w := by omega
    refine lv_iload_n hx hb dX4_pushes_4 rfl (lv_at hl 0 rfl) ?_
    refine lv_iconst (v := 4) hx hb dX4_pushes_5 (by decide) ?_
    refine lv_icmp_ge (tgt := 27) hx hb dX4_pushes_6 (by decide) (fun cc => ?_) (fun cc => ?_)
    · have qcc : 4 ≤ 4 := (wn_le (a := 4) (b := 4) rfl rfl (by omega) (by omega)).mp cc
      exact kx  H locs hP hS ls (lv_cong (l := [(1, .int (pcS I (4))), (0, .ref (ad 0))]) (l' := [(1, .int (pcS I 4)), (0, .ref (ad 0))]) (lv_sub hl [1, 2] rfl) (by subst_vars; rfl))
    · have qcc : ¬ 4 ≤ 4 := fun z => cc ((wn_le (a := 4) (b := 4) rfl rfl (by omega) (by omega)).mpr z)
      exact absurd qcc (by omega)
  | succ t ih =>
    intro w hj  H locs hP hS ls hl
    refine lv_iload_n hx hb dX4_pushes_4 rfl (lv_at hl 0 rfl) ?_
    refine lv_iconst (v := 4) hx hb dX4_pushes_5 (by decide) ?_
    refine lv_icmp_ge (tgt := 27) hx hb dX4_pushes_6 (by decide) (fun cc => ?_) (fun cc => ?_)
    · have qcc : 4 ≤ w := (wn_le (a := 4) (b := w) rfl rfl (by omega) (by omega)).mp cc
      exact absurd qcc (by omega)
    · have qcc : ¬ 4 ≤ w := fun z => cc ((wn_le (a := 4) (b := w) rfl rfl (by omega) (by omega)).mpr z)
      refine lv_iload_n hx hb dX4_pushes_9 rfl (lv_at hl 1 rfl) ?_
      refine lv_aload_n hx hb dX4_pushes_10 rfl (lv_at hl 2 rfl) ?_
      refine w_get (C := RX4) (T := TX4) (N := 7) (v := .ref (ad 30)) (index := 18) hx hb hts inX4_pushes_X4 hown hK hP 0 1 ⟨rfl, rfl, by decide⟩ (by omega) rfl (List.mem_of_getElem? (i := 1) rfl) (fun _ h9 => h9) dX4_pushes_11 ?_
      refine lv_iload_n hx hb dX4_pushes_14 rfl (lv_at hl 0 rfl) ?_
      refine w_aald hx hb hK hP 30 (w) 31 7 ⟨rfl, (by show w < 4; omega), rfl, rfl, by decide, by decide⟩ (by omega) rfl dX4_pushes_15 ?_
      refine w_calli (va_runV (As := []) (rest := [.int (pcS I (w))]) ⟨hx, hb, hml, hown, hts⟩ (c_X3_pushCount l nW D cA ad hi hNW I J X H.size w  (by omega) ) (cwV 0 hts gX4_pushes_X3_pushCount rfl rfl rfl (by decide +kernel) ⟨Nat.le_of_ble_eq_true rfl, Nat.le_of_ble_eq_true rfl⟩) (w_preV hK hP (31 + w) (by omega) (k_walk (by omega)) rfl) rfl rfl hl.1 rfl (lv_room (Nat.le_of_ble_eq_true rfl)) dX4_pushes_16 ⟨Nat.le_of_ble_eq_true rfl, Nat.le_of_ble_eq_true rfl⟩) hS (fun H locs hP hS => ?_)
      refine lv_iadd hx hb dX4_pushes_19 ?_
      refine lv_topi (fun sm esm => ?_)
      refine lv_istore_n (lv' := [(1, .int (sm)), (2, .int (nI (w))), (0, .ref (ad 0))]) hx hb dX4_pushes_20 rfl hl (by decide) rfl (fun ls hl => ?_)
      refine lv_iinc (v := nI (w + 1)) (lv' := [(2, .int (nI (w + 1))), (1, .int (sm)), (0, .ref (ad 0))]) hx hb dX4_pushes_21 hl (k := 1) rfl (wn_inc rfl) (by decide) rfl (fun ls hl => ?_)
      refine lv_goto (tgt := 4) hx hb dX4_pushes_24 (by decide) ?_
      exact ih (w + 1) (by omega)  H locs hP hS ls (lv_cong (l := [(2, .int (nI (w + 1))), (1, .int (sm)), (0, .ref (ad 0))]) (l' := [(2, .int (nI ((w + 1)))), (1, .int (pcS I ((w + 1)))), (0, .ref (ad 0))]) (lv_sub hl [0, 1, 2] rfl) (by subst_vars; rfl))

set_option maxHeartbeats 4000000 in
set_option maxRecDepth 100000 in
/-- X4_pushes -/
theorem c_X4_pushes (l : Launch) (nW : Nat) (D : va_G) (cA : Nat → ClassId) (ad : Nat → Nat) (hi : inj nW ad) (hNW : 102 ≤ nW) (I : SI) (J : SJ) (X : SX) (sz : Nat)  : Met l yX4_pushes wsX4_pushes ({ frames := 1, cells := 0, slots := 0, locals := 20 }) (va_Pc [.ref (ad 0)] (wPre nW D cA ad I J X sz)) (qI nW D cA ad sz (pcS I 4) I J X) 0 0 (fr nW ad sz) := by
  refine Met.ofW (cc := cX4_pushes) (maxL := 3) (ret := (some .int)) (by decide) rfl ?_
  intro p e s m args below meth c s₁ B hml hv
  obtain ⟨rfl, rfl, hP, hK⟩ := hv
  have hx := B.exec
  have hb := B.bytes
  have hr := B.returns
  have hts := atoms_spec (ws := wsX4_pushes) B.pre
  have hown : s.vm.findClass RX4 = some m.cls := findClass_of_methodNamed B.named
  have hlocks := B.notSynchronized
  have hS : va_S (fr nW ad s.heap.size) s.heap s.heap [] := va_S.rf
  have hA : ∀ k, k < nW → fr nW ad s.heap.size (ad k) := fr_ad
  have hl := lv_entry ([.ref (ad 0)]) (n := 3) (Nat.le_of_ble_eq_true rfl)
  rw [lg_entry_eq]
  generalize (lg_sl ([.ref (ad 0)]) ++ List.replicate (3 - (lg_sl ([.ref (ad 0)])).length) Slot.unset).toArray = ls at hl ⊢
  have hl : lv_has ls 3 [(0, .ref (ad 0))] := hl
  have hS0 := hS
  suffices K : ∀ (H : Heap) (locs : List Loc), WP nW D cA ad I J X H → va_S (fr nW ad s.heap.size) s.heap H locs → W p l e (headSpec wsX4_pushes ({ frames := 1, cells := 0, slots := 0, locals := 20 })).room s m ([.ref (ad 0)] : List Value).toArray below meth c H locs 0 0 (MQ below (qI nW D cA ad s.heap.size (pcS I 4) I J X) ([.ref (ad 0)] : List Value).toArray s 0 0 (fr nW ad s.heap.size)) (F0 m 0 ls []) from K _ _ hP hS
  clear hP hS hS0
  intro H locs hP hS
  refine lv_iconst (v := 0) hx hb dX4_pushes_0 (by decide) ?_
  refine lv_istore_n (lv' := [(1, .int (0)), (0, .ref (ad 0))]) hx hb dX4_pushes_1 rfl hl (by decide) rfl (fun ls hl => ?_)
  refine lv_iconst (v := 0) hx hb dX4_pushes_2 (by decide) ?_
  refine lv_istore_n (lv' := [(2, .int (0)), (1, .int (0)), (0, .ref (ad 0))]) hx hb dX4_pushes_3 rfl hl (by decide) rfl (fun ls hl => ?_)
  refine lp_X4_pushes hi hNW hx hb hml hown hts hK I J X  (fun  H locs hP hS ls hl => ?_) (4) (0) (by omega)  H locs hP hS ls (lv_cong (l := [(2, .int (0)), (1, .int (0)), (0, .ref (ad 0))]) (l' := [(2, .int (nI (0))), (1, .int (pcS I 0)), (0, .ref (ad 0))]) (lv_sub hl [0, 1, 2] rfl) (by subst_vars; rfl))
  refine lv_iload_n hx hb dX4_pushes_27 rfl (lv_at hl 0 rfl) ?_
  exact w_iret hx hb hr hlocks hK hP hS ⟨by subst_vars; rfl, by subst_vars; rfl, by subst_vars; rfl, by subst_vars; rfl⟩ dX4_pushes_28


/-- an entry is added: books, readers, size -/
def adI (I : SI) (k : Nat) (b r : Int32) : SI := st2 (st2 (st2 I 85 k b) 86 k r) 83 3 (nI (k + 1))





/-- how many entries stand ahead of one -/
def caN (J : SJ) (e : Nat) : Nat → Nat
  | 0 => 0
  | o + 1 => caN J e o + (if J 84 e < J 84 o ∨ (J 84 o = J 84 e ∧ o < e) then 1 else 0)
theorem caN_le (J : SJ) (e o : Nat) : caN J e o ≤ o := by
  induction o with
  | zero => exact Nat.le_refl _
  | succ o ih => unfold caN; split <;> omega



def fiF (J : SJ) (k : Nat) (pl : Int32) : Nat → Nat → Int32
  | 0, _ => -1
  | t + 1, e => if nI (caN J e k) = pl then nI e else fiF J k pl t (e + 1)


